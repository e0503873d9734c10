theorem dX4_init_0 : decode cX4_init 0 = .ok (.aload_n 0, 1) := by decide +kernel
theorem dX4_init_1 : decode cX4_init 1 = .ok (.invokespecial 3, 3) := by decide +kernel
theorem dX4_init_4 : decode cX4_init 4 = .ok (.aload_n 0, 1) := by decide +kernel
theorem dX4_init_5 : decode cX4_init 5 = .ok (.iconst 3, 1) := by decide +kernel
theorem dX4_init_6 : decode cX4_init 6 = .ok (.newarray .int, 2) := by decide +kernel
theorem dX4_init_8 : decode cX4_init 8 = .ok (.putfield 9, 3) := by decide +kernel
theorem dX4_init_11 : decode cX4_init 11 = .ok (.aload_n 0, 1) := by decide +kernel
theorem dX4_init_12 : decode cX4_init 12 = .ok (.bipush 81, 2) := by decide +kernel
theorem dX4_init_14 : decode cX4_init 14 = .ok (.newarray .int, 2) := by decide +kernel
theorem dX4_init_16 : decode cX4_init 16 = .ok (.putfield 15, 3) := by decide +kernel
theorem dX4_init_19 : decode cX4_init 19 = .ok (.aload_n 0, 1) := by decide +kernel
theorem dX4_init_20 : decode cX4_init 20 = .ok (.bipush 120, 2) := by decide +kernel
theorem dX4_init_22 : decode cX4_init 22 = .ok (.newarray .int, 2) := by decide +kernel
theorem dX4_init_24 : decode cX4_init 24 = .ok (.putfield 18, 3) := by decide +kernel
theorem dX4_init_27 : decode cX4_init 27 = .ok (.aload_n 0, 1) := by decide +kernel
theorem dX4_init_28 : decode cX4_init 28 = .ok (.bipush 120, 2) := by decide +kernel
theorem dX4_init_30 : decode cX4_init 30 = .ok (.newarray .int, 2) := by decide +kernel
theorem dX4_init_32 : decode cX4_init 32 = .ok (.putfield 21, 3) := by decide +kernel
theorem dX4_init_35 : decode cX4_init 35 = .ok (.aload_n 0, 1) := by decide +kernel
theorem dX4_init_36 : decode cX4_init 36 = .ok (.bipush 120, 2) := by decide +kernel
theorem dX4_init_38 : decode cX4_init 38 = .ok (.newarray .int, 2) := by decide +kernel
theorem dX4_init_40 : decode cX4_init 40 = .ok (.putfield 24, 3) := by decide +kernel
theorem dX4_init_43 : decode cX4_init 43 = .ok (.aload_n 0, 1) := by decide +kernel
theorem dX4_init_44 : decode cX4_init 44 = .ok (.aload_n 1, 1) := by decide +kernel
theorem dX4_init_45 : decode cX4_init 45 = .ok (.putfield 27, 3) := by decide +kernel
theorem dX4_init_48 : decode cX4_init 48 = .ok (.aload_n 0, 1) := by decide +kernel
theorem dX4_init_49 : decode cX4_init 49 = .ok (.iconst 1, 1) := by decide +kernel
theorem dX4_init_50 : decode cX4_init 50 = .ok (.iconst 1, 1) := by decide +kernel
theorem dX4_init_51 : decode cX4_init 51 = .ok (.iconst 1, 1) := by decide +kernel
theorem dX4_init_52 : decode cX4_init 52 = .ok (.invokevirtual 31, 3) := by decide +kernel
theorem dX4_init_55 : decode cX4_init 55 = .ok (.return_, 1) := by decide +kernel
theorem dX4_start_0 : decode cX4_start 0 = .ok (.aload_n 0, 1) := by decide +kernel
theorem dX4_start_1 : decode cX4_start 1 = .ok (.getfield 9, 3) := by decide +kernel
theorem dX4_start_4 : decode cX4_start 4 = .ok (.iconst 0, 1) := by decide +kernel
theorem dX4_start_5 : decode cX4_start 5 = .ok (.iload_n 1, 1) := by decide +kernel
theorem dX4_start_6 : decode cX4_start 6 = .ok (.iastore, 1) := by decide +kernel
theorem dX4_start_7 : decode cX4_start 7 = .ok (.aload_n 0, 1) := by decide +kernel
theorem dX4_start_8 : decode cX4_start 8 = .ok (.getfield 9, 3) := by decide +kernel
theorem dX4_start_11 : decode cX4_start 11 = .ok (.iconst 1, 1) := by decide +kernel
theorem dX4_start_12 : decode cX4_start 12 = .ok (.iload_n 2, 1) := by decide +kernel
theorem dX4_start_13 : decode cX4_start 13 = .ok (.iastore, 1) := by decide +kernel
theorem dX4_start_14 : decode cX4_start 14 = .ok (.aload_n 0, 1) := by decide +kernel
theorem dX4_start_15 : decode cX4_start 15 = .ok (.getfield 9, 3) := by decide +kernel
theorem dX4_start_18 : decode cX4_start 18 = .ok (.iconst 2, 1) := by decide +kernel
theorem dX4_start_19 : decode cX4_start 19 = .ok (.iload_n 3, 1) := by decide +kernel
theorem dX4_start_20 : decode cX4_start 20 = .ok (.iastore, 1) := by decide +kernel
theorem dX4_start_21 : decode cX4_start 21 = .ok (.aload_n 0, 1) := by decide +kernel
theorem dX4_start_22 : decode cX4_start 22 = .ok (.getfield 15, 3) := by decide +kernel
theorem dX4_start_25 : decode cX4_start 25 = .ok (.iconst 0, 1) := by decide +kernel
theorem dX4_start_26 : decode cX4_start 26 = .ok (.invokestatic 35, 3) := by decide +kernel
theorem dX4_start_29 : decode cX4_start 29 = .ok (.aload_n 0, 1) := by decide +kernel
theorem dX4_start_30 : decode cX4_start 30 = .ok (.iconst 0, 1) := by decide +kernel
theorem dX4_start_31 : decode cX4_start 31 = .ok (.putfield 41, 3) := by decide +kernel
theorem dX4_start_34 : decode cX4_start 34 = .ok (.return_, 1) := by decide +kernel
theorem dX4_copyFrom_0 : decode cX4_copyFrom 0 = .ok (.aload_n 1, 1) := by decide +kernel
theorem dX4_copyFrom_1 : decode cX4_copyFrom 1 = .ok (.getfield 9, 3) := by decide +kernel
theorem dX4_copyFrom_4 : decode cX4_copyFrom 4 = .ok (.iconst 0, 1) := by decide +kernel
theorem dX4_copyFrom_5 : decode cX4_copyFrom 5 = .ok (.aload_n 0, 1) := by decide +kernel
theorem dX4_copyFrom_6 : decode cX4_copyFrom 6 = .ok (.getfield 9, 3) := by decide +kernel
theorem dX4_copyFrom_9 : decode cX4_copyFrom 9 = .ok (.iconst 0, 1) := by decide +kernel
theorem dX4_copyFrom_10 : decode cX4_copyFrom 10 = .ok (.iconst 3, 1) := by decide +kernel
theorem dX4_copyFrom_11 : decode cX4_copyFrom 11 = .ok (.invokestatic 45, 3) := by decide +kernel
theorem dX4_copyFrom_14 : decode cX4_copyFrom 14 = .ok (.aload_n 1, 1) := by decide +kernel
theorem dX4_copyFrom_15 : decode cX4_copyFrom 15 = .ok (.getfield 15, 3) := by decide +kernel
theorem dX4_copyFrom_18 : decode cX4_copyFrom 18 = .ok (.iconst 0, 1) := by decide +kernel
theorem dX4_copyFrom_19 : decode cX4_copyFrom 19 = .ok (.aload_n 0, 1) := by decide +kernel
theorem dX4_copyFrom_20 : decode cX4_copyFrom 20 = .ok (.getfield 15, 3) := by decide +kernel
theorem dX4_copyFrom_23 : decode cX4_copyFrom 23 = .ok (.iconst 0, 1) := by decide +kernel
theorem dX4_copyFrom_24 : decode cX4_copyFrom 24 = .ok (.bipush 81, 2) := by decide +kernel
theorem dX4_copyFrom_26 : decode cX4_copyFrom 26 = .ok (.invokestatic 45, 3) := by decide +kernel
theorem dX4_copyFrom_29 : decode cX4_copyFrom 29 = .ok (.aload_n 1, 1) := by decide +kernel
theorem dX4_copyFrom_30 : decode cX4_copyFrom 30 = .ok (.getfield 18, 3) := by decide +kernel
theorem dX4_copyFrom_33 : decode cX4_copyFrom 33 = .ok (.iconst 0, 1) := by decide +kernel
theorem dX4_copyFrom_34 : decode cX4_copyFrom 34 = .ok (.aload_n 0, 1) := by decide +kernel
theorem dX4_copyFrom_35 : decode cX4_copyFrom 35 = .ok (.getfield 18, 3) := by decide +kernel
theorem dX4_copyFrom_38 : decode cX4_copyFrom 38 = .ok (.iconst 0, 1) := by decide +kernel
theorem dX4_copyFrom_39 : decode cX4_copyFrom 39 = .ok (.bipush 120, 2) := by decide +kernel
theorem dX4_copyFrom_41 : decode cX4_copyFrom 41 = .ok (.invokestatic 45, 3) := by decide +kernel
theorem dX4_copyFrom_44 : decode cX4_copyFrom 44 = .ok (.aload_n 1, 1) := by decide +kernel
theorem dX4_copyFrom_45 : decode cX4_copyFrom 45 = .ok (.getfield 21, 3) := by decide +kernel
theorem dX4_copyFrom_48 : decode cX4_copyFrom 48 = .ok (.iconst 0, 1) := by decide +kernel
theorem dX4_copyFrom_49 : decode cX4_copyFrom 49 = .ok (.aload_n 0, 1) := by decide +kernel
theorem dX4_copyFrom_50 : decode cX4_copyFrom 50 = .ok (.getfield 21, 3) := by decide +kernel
theorem dX4_copyFrom_53 : decode cX4_copyFrom 53 = .ok (.iconst 0, 1) := by decide +kernel
theorem dX4_copyFrom_54 : decode cX4_copyFrom 54 = .ok (.bipush 120, 2) := by decide +kernel
theorem dX4_copyFrom_56 : decode cX4_copyFrom 56 = .ok (.invokestatic 45, 3) := by decide +kernel
theorem dX4_copyFrom_59 : decode cX4_copyFrom 59 = .ok (.aload_n 1, 1) := by decide +kernel
theorem dX4_copyFrom_60 : decode cX4_copyFrom 60 = .ok (.getfield 24, 3) := by decide +kernel
theorem dX4_copyFrom_63 : decode cX4_copyFrom 63 = .ok (.iconst 0, 1) := by decide +kernel
theorem dX4_copyFrom_64 : decode cX4_copyFrom 64 = .ok (.aload_n 0, 1) := by decide +kernel
theorem dX4_copyFrom_65 : decode cX4_copyFrom 65 = .ok (.getfield 24, 3) := by decide +kernel
theorem dX4_copyFrom_68 : decode cX4_copyFrom 68 = .ok (.iconst 0, 1) := by decide +kernel
theorem dX4_copyFrom_69 : decode cX4_copyFrom 69 = .ok (.bipush 120, 2) := by decide +kernel
theorem dX4_copyFrom_71 : decode cX4_copyFrom 71 = .ok (.invokestatic 45, 3) := by decide +kernel
theorem dX4_copyFrom_74 : decode cX4_copyFrom 74 = .ok (.aload_n 0, 1) := by decide +kernel
theorem dX4_copyFrom_75 : decode cX4_copyFrom 75 = .ok (.aload_n 1, 1) := by decide +kernel
theorem dX4_copyFrom_76 : decode cX4_copyFrom 76 = .ok (.getfield 41, 3) := by decide +kernel
theorem dX4_copyFrom_79 : decode cX4_copyFrom 79 = .ok (.putfield 41, 3) := by decide +kernel
theorem dX4_copyFrom_82 : decode cX4_copyFrom 82 = .ok (.return_, 1) := by decide +kernel
theorem dX4_hasIndex_0 : decode cX4_hasIndex 0 = .ok (.iload_n 2, 1) := by decide +kernel
theorem dX4_hasIndex_1 : decode cX4_hasIndex 1 = .ok (.ifCond .lt 17, 3) := by decide +kernel
theorem dX4_hasIndex_4 : decode cX4_hasIndex 4 = .ok (.iload_n 2, 1) := by decide +kernel
theorem dX4_hasIndex_5 : decode cX4_hasIndex 5 = .ok (.aload_n 0, 1) := by decide +kernel
theorem dX4_hasIndex_6 : decode cX4_hasIndex 6 = .ok (.getfield 9, 3) := by decide +kernel
theorem dX4_hasIndex_9 : decode cX4_hasIndex 9 = .ok (.iload_n 1, 1) := by decide +kernel
theorem dX4_hasIndex_10 : decode cX4_hasIndex 10 = .ok (.iaload, 1) := by decide +kernel
theorem dX4_hasIndex_11 : decode cX4_hasIndex 11 = .ok (.if_icmp .ge 7, 3) := by decide +kernel
theorem dX4_hasIndex_14 : decode cX4_hasIndex 14 = .ok (.iconst 1, 1) := by decide +kernel
theorem dX4_hasIndex_15 : decode cX4_hasIndex 15 = .ok (.goto 4, 3) := by decide +kernel
theorem dX4_hasIndex_18 : decode cX4_hasIndex 18 = .ok (.iconst 0, 1) := by decide +kernel
theorem dX4_hasIndex_19 : decode cX4_hasIndex 19 = .ok (.ireturn, 1) := by decide +kernel
theorem dX4_hasPlace_0 : decode cX4_hasPlace 0 = .ok (.aload_n 0, 1) := by decide +kernel
theorem dX4_hasPlace_1 : decode cX4_hasPlace 1 = .ok (.iconst 0, 1) := by decide +kernel
theorem dX4_hasPlace_2 : decode cX4_hasPlace 2 = .ok (.iload_n 1, 1) := by decide +kernel
theorem dX4_hasPlace_3 : decode cX4_hasPlace 3 = .ok (.invokevirtual 51, 3) := by decide +kernel
theorem dX4_hasPlace_6 : decode cX4_hasPlace 6 = .ok (.ifCond .eq 25, 3) := by decide +kernel
theorem dX4_hasPlace_9 : decode cX4_hasPlace 9 = .ok (.aload_n 0, 1) := by decide +kernel
theorem dX4_hasPlace_10 : decode cX4_hasPlace 10 = .ok (.iconst 1, 1) := by decide +kernel
theorem dX4_hasPlace_11 : decode cX4_hasPlace 11 = .ok (.iload_n 2, 1) := by decide +kernel
theorem dX4_hasPlace_12 : decode cX4_hasPlace 12 = .ok (.invokevirtual 51, 3) := by decide +kernel
theorem dX4_hasPlace_15 : decode cX4_hasPlace 15 = .ok (.ifCond .eq 16, 3) := by decide +kernel
theorem dX4_hasPlace_18 : decode cX4_hasPlace 18 = .ok (.aload_n 0, 1) := by decide +kernel
theorem dX4_hasPlace_19 : decode cX4_hasPlace 19 = .ok (.iconst 2, 1) := by decide +kernel
theorem dX4_hasPlace_20 : decode cX4_hasPlace 20 = .ok (.iload_n 3, 1) := by decide +kernel
theorem dX4_hasPlace_21 : decode cX4_hasPlace 21 = .ok (.invokevirtual 51, 3) := by decide +kernel
theorem dX4_hasPlace_24 : decode cX4_hasPlace 24 = .ok (.ifCond .eq 7, 3) := by decide +kernel
theorem dX4_hasPlace_27 : decode cX4_hasPlace 27 = .ok (.iconst 1, 1) := by decide +kernel
theorem dX4_hasPlace_28 : decode cX4_hasPlace 28 = .ok (.goto 4, 3) := by decide +kernel
theorem dX4_hasPlace_31 : decode cX4_hasPlace 31 = .ok (.iconst 0, 1) := by decide +kernel
theorem dX4_hasPlace_32 : decode cX4_hasPlace 32 = .ok (.ireturn, 1) := by decide +kernel
theorem dX4_hasTime_0 : decode cX4_hasTime 0 = .ok (.iload_n 1, 1) := by decide +kernel
theorem dX4_hasTime_1 : decode cX4_hasTime 1 = .ok (.ifCond .lt 15, 3) := by decide +kernel
theorem dX4_hasTime_4 : decode cX4_hasTime 4 = .ok (.iload_n 1, 1) := by decide +kernel
theorem dX4_hasTime_5 : decode cX4_hasTime 5 = .ok (.aload_n 0, 1) := by decide +kernel
theorem dX4_hasTime_6 : decode cX4_hasTime 6 = .ok (.getfield 41, 3) := by decide +kernel
theorem dX4_hasTime_9 : decode cX4_hasTime 9 = .ok (.if_icmp .ge 7, 3) := by decide +kernel
theorem dX4_hasTime_12 : decode cX4_hasTime 12 = .ok (.iconst 1, 1) := by decide +kernel
theorem dX4_hasTime_13 : decode cX4_hasTime 13 = .ok (.goto 4, 3) := by decide +kernel
theorem dX4_hasTime_16 : decode cX4_hasTime 16 = .ok (.iconst 0, 1) := by decide +kernel
theorem dX4_hasTime_17 : decode cX4_hasTime 17 = .ok (.ireturn, 1) := by decide +kernel
theorem dX4_fits_0 : decode cX4_fits 0 = .ok (.iload_n 2, 1) := by decide +kernel
theorem dX4_fits_1 : decode cX4_fits 1 = .ok (.ifCond .lt 25, 3) := by decide +kernel
theorem dX4_fits_4 : decode cX4_fits 4 = .ok (.iload_n 2, 1) := by decide +kernel
theorem dX4_fits_5 : decode cX4_fits 5 = .ok (.aload_n 0, 1) := by decide +kernel
theorem dX4_fits_6 : decode cX4_fits 6 = .ok (.getfield 27, 3) := by decide +kernel
theorem dX4_fits_9 : decode cX4_fits 9 = .ok (.getfield 55, 3) := by decide +kernel
theorem dX4_fits_12 : decode cX4_fits 12 = .ok (.aload_n 0, 1) := by decide +kernel
theorem dX4_fits_13 : decode cX4_fits 13 = .ok (.getfield 9, 3) := by decide +kernel
theorem dX4_fits_16 : decode cX4_fits 16 = .ok (.iload_n 1, 1) := by decide +kernel
theorem dX4_fits_17 : decode cX4_fits 17 = .ok (.iaload, 1) := by decide +kernel
theorem dX4_fits_18 : decode cX4_fits 18 = .ok (.iaload, 1) := by decide +kernel
theorem dX4_fits_19 : decode cX4_fits 19 = .ok (.if_icmp .ge 7, 3) := by decide +kernel
theorem dX4_fits_22 : decode cX4_fits 22 = .ok (.iconst 1, 1) := by decide +kernel
theorem dX4_fits_23 : decode cX4_fits 23 = .ok (.goto 4, 3) := by decide +kernel
theorem dX4_fits_26 : decode cX4_fits 26 = .ok (.iconst 0, 1) := by decide +kernel
theorem dX4_fits_27 : decode cX4_fits 27 = .ok (.ireturn, 1) := by decide +kernel
theorem dX4_fiberAt_0 : decode cX4_fiberAt 0 = .ok (.aload_n 0, 1) := by decide +kernel
theorem dX4_fiberAt_1 : decode cX4_fiberAt 1 = .ok (.getfield 15, 3) := by decide +kernel
theorem dX4_fiberAt_4 : decode cX4_fiberAt 4 = .ok (.bipush 9, 2) := by decide +kernel
theorem dX4_fiberAt_6 : decode cX4_fiberAt 6 = .ok (.iload_n 1, 1) := by decide +kernel
theorem dX4_fiberAt_7 : decode cX4_fiberAt 7 = .ok (.imul, 1) := by decide +kernel
theorem dX4_fiberAt_8 : decode cX4_fiberAt 8 = .ok (.iload_n 2, 1) := by decide +kernel
theorem dX4_fiberAt_9 : decode cX4_fiberAt 9 = .ok (.iadd, 1) := by decide +kernel
theorem dX4_fiberAt_10 : decode cX4_fiberAt 10 = .ok (.iaload, 1) := by decide +kernel
theorem dX4_fiberAt_11 : decode cX4_fiberAt 11 = .ok (.ireturn, 1) := by decide +kernel
theorem dX4_setFiber_0 : decode cX4_setFiber 0 = .ok (.aload_n 0, 1) := by decide +kernel
theorem dX4_setFiber_1 : decode cX4_setFiber 1 = .ok (.getfield 15, 3) := by decide +kernel
theorem dX4_setFiber_4 : decode cX4_setFiber 4 = .ok (.bipush 9, 2) := by decide +kernel
theorem dX4_setFiber_6 : decode cX4_setFiber 6 = .ok (.iload_n 1, 1) := by decide +kernel
theorem dX4_setFiber_7 : decode cX4_setFiber 7 = .ok (.imul, 1) := by decide +kernel
theorem dX4_setFiber_8 : decode cX4_setFiber 8 = .ok (.iload_n 2, 1) := by decide +kernel
theorem dX4_setFiber_9 : decode cX4_setFiber 9 = .ok (.iadd, 1) := by decide +kernel
theorem dX4_setFiber_10 : decode cX4_setFiber 10 = .ok (.iload_n 3, 1) := by decide +kernel
theorem dX4_setFiber_11 : decode cX4_setFiber 11 = .ok (.iastore, 1) := by decide +kernel
theorem dX4_setFiber_12 : decode cX4_setFiber 12 = .ok (.return_, 1) := by decide +kernel
theorem dX4_number_0 : decode cX4_number 0 = .ok (.aload_n 0, 1) := by decide +kernel
theorem dX4_number_1 : decode cX4_number 1 = .ok (.getfield 27, 3) := by decide +kernel
theorem dX4_number_4 : decode cX4_number 4 = .ok (.aload_n 0, 1) := by decide +kernel
theorem dX4_number_5 : decode cX4_number 5 = .ok (.iload_n 1, 1) := by decide +kernel
theorem dX4_number_6 : decode cX4_number 6 = .ok (.iload_n 2, 1) := by decide +kernel
theorem dX4_number_7 : decode cX4_number 7 = .ok (.invokevirtual 60, 3) := by decide +kernel
theorem dX4_number_10 : decode cX4_number 10 = .ok (.iload_n 3, 1) := by decide +kernel
theorem dX4_number_11 : decode cX4_number 11 = .ok (.invokevirtual 64, 3) := by decide +kernel
theorem dX4_number_14 : decode cX4_number 14 = .ok (.ireturn, 1) := by decide +kernel
theorem dX4_setNumber_0 : decode cX4_setNumber 0 = .ok (.aload_n 0, 1) := by decide +kernel
theorem dX4_setNumber_1 : decode cX4_setNumber 1 = .ok (.iload_n 1, 1) := by decide +kernel
theorem dX4_setNumber_2 : decode cX4_setNumber 2 = .ok (.iload_n 2, 1) := by decide +kernel
theorem dX4_setNumber_3 : decode cX4_setNumber 3 = .ok (.aload_n 0, 1) := by decide +kernel
theorem dX4_setNumber_4 : decode cX4_setNumber 4 = .ok (.getfield 27, 3) := by decide +kernel
theorem dX4_setNumber_7 : decode cX4_setNumber 7 = .ok (.aload_n 0, 1) := by decide +kernel
theorem dX4_setNumber_8 : decode cX4_setNumber 8 = .ok (.iload_n 1, 1) := by decide +kernel
theorem dX4_setNumber_9 : decode cX4_setNumber 9 = .ok (.iload_n 2, 1) := by decide +kernel
theorem dX4_setNumber_10 : decode cX4_setNumber 10 = .ok (.invokevirtual 60, 3) := by decide +kernel
theorem dX4_setNumber_13 : decode cX4_setNumber 13 = .ok (.iload_n 3, 1) := by decide +kernel
theorem dX4_setNumber_14 : decode cX4_setNumber 14 = .ok (.iload 4, 2) := by decide +kernel
theorem dX4_setNumber_16 : decode cX4_setNumber 16 = .ok (.invokevirtual 67, 3) := by decide +kernel
theorem dX4_setNumber_19 : decode cX4_setNumber 19 = .ok (.invokevirtual 71, 3) := by decide +kernel
theorem dX4_setNumber_22 : decode cX4_setNumber 22 = .ok (.return_, 1) := by decide +kernel
theorem dX4_filledPlaces_0 : decode cX4_filledPlaces 0 = .ok (.iconst 0, 1) := by decide +kernel
theorem dX4_filledPlaces_1 : decode cX4_filledPlaces 1 = .ok (.istore_n 1, 1) := by decide +kernel
theorem dX4_filledPlaces_2 : decode cX4_filledPlaces 2 = .ok (.iconst 0, 1) := by decide +kernel
theorem dX4_filledPlaces_3 : decode cX4_filledPlaces 3 = .ok (.istore_n 2, 1) := by decide +kernel
theorem dX4_filledPlaces_4 : decode cX4_filledPlaces 4 = .ok (.iload_n 2, 1) := by decide +kernel
theorem dX4_filledPlaces_5 : decode cX4_filledPlaces 5 = .ok (.aload_n 0, 1) := by decide +kernel
theorem dX4_filledPlaces_6 : decode cX4_filledPlaces 6 = .ok (.getfield 9, 3) := by decide +kernel
theorem dX4_filledPlaces_9 : decode cX4_filledPlaces 9 = .ok (.iconst 0, 1) := by decide +kernel
theorem dX4_filledPlaces_10 : decode cX4_filledPlaces 10 = .ok (.iaload, 1) := by decide +kernel
theorem dX4_filledPlaces_11 : decode cX4_filledPlaces 11 = .ok (.if_icmp .ge 43, 3) := by decide +kernel
theorem dX4_filledPlaces_14 : decode cX4_filledPlaces 14 = .ok (.iconst 0, 1) := by decide +kernel
theorem dX4_filledPlaces_15 : decode cX4_filledPlaces 15 = .ok (.istore_n 3, 1) := by decide +kernel
theorem dX4_filledPlaces_16 : decode cX4_filledPlaces 16 = .ok (.iload_n 3, 1) := by decide +kernel
theorem dX4_filledPlaces_17 : decode cX4_filledPlaces 17 = .ok (.aload_n 0, 1) := by decide +kernel
theorem dX4_filledPlaces_18 : decode cX4_filledPlaces 18 = .ok (.getfield 9, 3) := by decide +kernel
theorem dX4_filledPlaces_21 : decode cX4_filledPlaces 21 = .ok (.iconst 1, 1) := by decide +kernel
theorem dX4_filledPlaces_22 : decode cX4_filledPlaces 22 = .ok (.iaload, 1) := by decide +kernel
theorem dX4_filledPlaces_23 : decode cX4_filledPlaces 23 = .ok (.if_icmp .ge 25, 3) := by decide +kernel
theorem dX4_filledPlaces_26 : decode cX4_filledPlaces 26 = .ok (.iload_n 1, 1) := by decide +kernel
theorem dX4_filledPlaces_27 : decode cX4_filledPlaces 27 = .ok (.aload_n 0, 1) := by decide +kernel
theorem dX4_filledPlaces_28 : decode cX4_filledPlaces 28 = .ok (.getfield 27, 3) := by decide +kernel
theorem dX4_filledPlaces_31 : decode cX4_filledPlaces 31 = .ok (.aload_n 0, 1) := by decide +kernel
theorem dX4_filledPlaces_32 : decode cX4_filledPlaces 32 = .ok (.iload_n 2, 1) := by decide +kernel
theorem dX4_filledPlaces_33 : decode cX4_filledPlaces 33 = .ok (.iload_n 3, 1) := by decide +kernel
theorem dX4_filledPlaces_34 : decode cX4_filledPlaces 34 = .ok (.invokevirtual 60, 3) := by decide +kernel
theorem dX4_filledPlaces_37 : decode cX4_filledPlaces 37 = .ok (.invokevirtual 74, 3) := by decide +kernel
theorem dX4_filledPlaces_40 : decode cX4_filledPlaces 40 = .ok (.iadd, 1) := by decide +kernel
theorem dX4_filledPlaces_41 : decode cX4_filledPlaces 41 = .ok (.istore_n 1, 1) := by decide +kernel
theorem dX4_filledPlaces_42 : decode cX4_filledPlaces 42 = .ok (.iinc 3 1, 3) := by decide +kernel
theorem dX4_filledPlaces_45 : decode cX4_filledPlaces 45 = .ok (.goto (-29), 3) := by decide +kernel
theorem dX4_filledPlaces_48 : decode cX4_filledPlaces 48 = .ok (.iinc 2 1, 3) := by decide +kernel
theorem dX4_filledPlaces_51 : decode cX4_filledPlaces 51 = .ok (.goto (-47), 3) := by decide +kernel
theorem dX4_filledPlaces_54 : decode cX4_filledPlaces 54 = .ok (.iload_n 1, 1) := by decide +kernel
theorem dX4_filledPlaces_55 : decode cX4_filledPlaces 55 = .ok (.ireturn, 1) := by decide +kernel
theorem dX4_line_0 : decode cX4_line 0 = .ok (.iload_n 1, 1) := by decide +kernel
theorem dX4_line_1 : decode cX4_line 1 = .ok (.iconst 2, 1) := by decide +kernel
theorem dX4_line_2 : decode cX4_line 2 = .ok (.if_icmp .ne 10, 3) := by decide +kernel
theorem dX4_line_5 : decode cX4_line 5 = .ok (.aload_n 0, 1) := by decide +kernel
theorem dX4_line_6 : decode cX4_line 6 = .ok (.iload_n 2, 1) := by decide +kernel
theorem dX4_line_7 : decode cX4_line 7 = .ok (.iload_n 3, 1) := by decide +kernel
theorem dX4_line_8 : decode cX4_line 8 = .ok (.invokevirtual 60, 3) := by decide +kernel
theorem dX4_line_11 : decode cX4_line 11 = .ok (.ireturn, 1) := by decide +kernel
theorem dX4_line_12 : decode cX4_line 12 = .ok (.iconst 0, 1) := by decide +kernel
theorem dX4_line_13 : decode cX4_line 13 = .ok (.istore 4, 2) := by decide +kernel
theorem dX4_line_15 : decode cX4_line 15 = .ok (.iconst 0, 1) := by decide +kernel
theorem dX4_line_16 : decode cX4_line 16 = .ok (.istore 5, 2) := by decide +kernel
theorem dX4_line_18 : decode cX4_line 18 = .ok (.iload 5, 2) := by decide +kernel
theorem dX4_line_20 : decode cX4_line 20 = .ok (.aload_n 0, 1) := by decide +kernel
theorem dX4_line_21 : decode cX4_line 21 = .ok (.getfield 9, 3) := by decide +kernel
theorem dX4_line_24 : decode cX4_line 24 = .ok (.iload_n 1, 1) := by decide +kernel
theorem dX4_line_25 : decode cX4_line 25 = .ok (.iaload, 1) := by decide +kernel
theorem dX4_line_26 : decode cX4_line 26 = .ok (.if_icmp .ge 52, 3) := by decide +kernel
theorem dX4_line_29 : decode cX4_line 29 = .ok (.iload_n 1, 1) := by decide +kernel
theorem dX4_line_30 : decode cX4_line 30 = .ok (.ifCond .ne 14, 3) := by decide +kernel
theorem dX4_line_33 : decode cX4_line 33 = .ok (.aload_n 0, 1) := by decide +kernel
theorem dX4_line_34 : decode cX4_line 34 = .ok (.iload 5, 2) := by decide +kernel
theorem dX4_line_36 : decode cX4_line 36 = .ok (.iload_n 2, 1) := by decide +kernel
theorem dX4_line_37 : decode cX4_line 37 = .ok (.iload_n 3, 1) := by decide +kernel
theorem dX4_line_38 : decode cX4_line 38 = .ok (.invokevirtual 78, 3) := by decide +kernel
theorem dX4_line_41 : decode cX4_line 41 = .ok (.goto 11, 3) := by decide +kernel
theorem dX4_line_44 : decode cX4_line 44 = .ok (.aload_n 0, 1) := by decide +kernel
theorem dX4_line_45 : decode cX4_line 45 = .ok (.iload_n 2, 1) := by decide +kernel
theorem dX4_line_46 : decode cX4_line 46 = .ok (.iload 5, 2) := by decide +kernel
theorem dX4_line_48 : decode cX4_line 48 = .ok (.iload_n 3, 1) := by decide +kernel
theorem dX4_line_49 : decode cX4_line 49 = .ok (.invokevirtual 78, 3) := by decide +kernel
theorem dX4_line_52 : decode cX4_line 52 = .ok (.istore 6, 2) := by decide +kernel
theorem dX4_line_54 : decode cX4_line 54 = .ok (.iload 4, 2) := by decide +kernel
theorem dX4_line_56 : decode cX4_line 56 = .ok (.iload 6, 2) := by decide +kernel
theorem dX4_line_58 : decode cX4_line 58 = .ok (.aload_n 0, 1) := by decide +kernel
theorem dX4_line_59 : decode cX4_line 59 = .ok (.getfield 27, 3) := by decide +kernel
theorem dX4_line_62 : decode cX4_line 62 = .ok (.getfield 55, 3) := by decide +kernel
theorem dX4_line_65 : decode cX4_line 65 = .ok (.iload 5, 2) := by decide +kernel
theorem dX4_line_67 : decode cX4_line 67 = .ok (.iaload, 1) := by decide +kernel
theorem dX4_line_68 : decode cX4_line 68 = .ok (.imul, 1) := by decide +kernel
theorem dX4_line_69 : decode cX4_line 69 = .ok (.iadd, 1) := by decide +kernel
theorem dX4_line_70 : decode cX4_line 70 = .ok (.istore 4, 2) := by decide +kernel
theorem dX4_line_72 : decode cX4_line 72 = .ok (.iinc 5 1, 3) := by decide +kernel
theorem dX4_line_75 : decode cX4_line 75 = .ok (.goto (-57), 3) := by decide +kernel
theorem dX4_line_78 : decode cX4_line 78 = .ok (.iload 4, 2) := by decide +kernel
theorem dX4_line_80 : decode cX4_line 80 = .ok (.ireturn, 1) := by decide +kernel
theorem dX4_rowOf_0 : decode cX4_rowOf 0 = .ok (.aload_n 0, 1) := by decide +kernel
theorem dX4_rowOf_1 : decode cX4_rowOf 1 = .ok (.getfield 18, 3) := by decide +kernel
theorem dX4_rowOf_4 : decode cX4_rowOf 4 = .ok (.bipush 40, 2) := by decide +kernel
theorem dX4_rowOf_6 : decode cX4_rowOf 6 = .ok (.iload_n 1, 1) := by decide +kernel
theorem dX4_rowOf_7 : decode cX4_rowOf 7 = .ok (.imul, 1) := by decide +kernel
theorem dX4_rowOf_8 : decode cX4_rowOf 8 = .ok (.iload_n 2, 1) := by decide +kernel
theorem dX4_rowOf_9 : decode cX4_rowOf 9 = .ok (.iadd, 1) := by decide +kernel
theorem dX4_rowOf_10 : decode cX4_rowOf 10 = .ok (.iaload, 1) := by decide +kernel
theorem dX4_rowOf_11 : decode cX4_rowOf 11 = .ok (.ireturn, 1) := by decide +kernel
theorem dX4_put_0 : decode cX4_put 0 = .ok (.bipush 40, 2) := by decide +kernel
theorem dX4_put_2 : decode cX4_put 2 = .ok (.iload_n 1, 1) := by decide +kernel
theorem dX4_put_3 : decode cX4_put 3 = .ok (.imul, 1) := by decide +kernel
theorem dX4_put_4 : decode cX4_put 4 = .ok (.iload_n 2, 1) := by decide +kernel
theorem dX4_put_5 : decode cX4_put 5 = .ok (.iadd, 1) := by decide +kernel
theorem dX4_put_6 : decode cX4_put 6 = .ok (.istore 4, 2) := by decide +kernel
theorem dX4_put_8 : decode cX4_put 8 = .ok (.aload_n 0, 1) := by decide +kernel
theorem dX4_put_9 : decode cX4_put 9 = .ok (.iload_n 1, 1) := by decide +kernel
theorem dX4_put_10 : decode cX4_put 10 = .ok (.iload_n 2, 1) := by decide +kernel
theorem dX4_put_11 : decode cX4_put 11 = .ok (.iconst (-1), 1) := by decide +kernel
theorem dX4_put_12 : decode cX4_put 12 = .ok (.invokevirtual 80, 3) := by decide +kernel
theorem dX4_put_15 : decode cX4_put 15 = .ok (.aload_n 0, 1) := by decide +kernel
theorem dX4_put_16 : decode cX4_put 16 = .ok (.getfield 18, 3) := by decide +kernel
theorem dX4_put_19 : decode cX4_put 19 = .ok (.iload 4, 2) := by decide +kernel
theorem dX4_put_21 : decode cX4_put 21 = .ok (.iload_n 3, 1) := by decide +kernel
theorem dX4_put_22 : decode cX4_put 22 = .ok (.iastore, 1) := by decide +kernel
theorem dX4_put_23 : decode cX4_put 23 = .ok (.aload_n 0, 1) := by decide +kernel
theorem dX4_put_24 : decode cX4_put 24 = .ok (.getfield 21, 3) := by decide +kernel
theorem dX4_put_27 : decode cX4_put 27 = .ok (.iload 4, 2) := by decide +kernel
theorem dX4_put_29 : decode cX4_put 29 = .ok (.aload_n 0, 1) := by decide +kernel
theorem dX4_put_30 : decode cX4_put 30 = .ok (.getfield 27, 3) := by decide +kernel
theorem dX4_put_33 : decode cX4_put 33 = .ok (.iload_n 3, 1) := by decide +kernel
theorem dX4_put_34 : decode cX4_put 34 = .ok (.invokevirtual 83, 3) := by decide +kernel
theorem dX4_put_37 : decode cX4_put 37 = .ok (.iastore, 1) := by decide +kernel
theorem dX4_put_38 : decode cX4_put 38 = .ok (.aload_n 0, 1) := by decide +kernel
theorem dX4_put_39 : decode cX4_put 39 = .ok (.iload_n 1, 1) := by decide +kernel
theorem dX4_put_40 : decode cX4_put 40 = .ok (.iload_n 2, 1) := by decide +kernel
theorem dX4_put_41 : decode cX4_put 41 = .ok (.iconst 1, 1) := by decide +kernel
theorem dX4_put_42 : decode cX4_put 42 = .ok (.invokevirtual 80, 3) := by decide +kernel
theorem dX4_put_45 : decode cX4_put 45 = .ok (.return_, 1) := by decide +kernel
theorem dX4_countMates_0 : decode cX4_countMates 0 = .ok (.bipush 40, 2) := by decide +kernel
theorem dX4_countMates_2 : decode cX4_countMates 2 = .ok (.iload_n 1, 1) := by decide +kernel
theorem dX4_countMates_3 : decode cX4_countMates 3 = .ok (.imul, 1) := by decide +kernel
theorem dX4_countMates_4 : decode cX4_countMates 4 = .ok (.istore 4, 2) := by decide +kernel
theorem dX4_countMates_6 : decode cX4_countMates 6 = .ok (.aload_n 0, 1) := by decide +kernel
theorem dX4_countMates_7 : decode cX4_countMates 7 = .ok (.getfield 21, 3) := by decide +kernel
theorem dX4_countMates_10 : decode cX4_countMates 10 = .ok (.iload 4, 2) := by decide +kernel
theorem dX4_countMates_12 : decode cX4_countMates 12 = .ok (.iload_n 2, 1) := by decide +kernel
theorem dX4_countMates_13 : decode cX4_countMates 13 = .ok (.iadd, 1) := by decide +kernel
theorem dX4_countMates_14 : decode cX4_countMates 14 = .ok (.iaload, 1) := by decide +kernel
theorem dX4_countMates_15 : decode cX4_countMates 15 = .ok (.istore 5, 2) := by decide +kernel
theorem dX4_countMates_17 : decode cX4_countMates 17 = .ok (.iload 5, 2) := by decide +kernel
theorem dX4_countMates_19 : decode cX4_countMates 19 = .ok (.ifCond .ne 4, 3) := by decide +kernel
theorem dX4_countMates_22 : decode cX4_countMates 22 = .ok (.return_, 1) := by decide +kernel
theorem dX4_countMates_23 : decode cX4_countMates 23 = .ok (.iload 4, 2) := by decide +kernel
theorem dX4_countMates_25 : decode cX4_countMates 25 = .ok (.istore 6, 2) := by decide +kernel
theorem dX4_countMates_27 : decode cX4_countMates 27 = .ok (.iload 6, 2) := by decide +kernel
theorem dX4_countMates_29 : decode cX4_countMates 29 = .ok (.iload 4, 2) := by decide +kernel
theorem dX4_countMates_31 : decode cX4_countMates 31 = .ok (.aload_n 0, 1) := by decide +kernel
theorem dX4_countMates_32 : decode cX4_countMates 32 = .ok (.getfield 41, 3) := by decide +kernel
theorem dX4_countMates_35 : decode cX4_countMates 35 = .ok (.iadd, 1) := by decide +kernel
theorem dX4_countMates_36 : decode cX4_countMates 36 = .ok (.if_icmp .ge 54, 3) := by decide +kernel
theorem dX4_countMates_39 : decode cX4_countMates 39 = .ok (.aload_n 0, 1) := by decide +kernel
theorem dX4_countMates_40 : decode cX4_countMates 40 = .ok (.getfield 21, 3) := by decide +kernel
theorem dX4_countMates_43 : decode cX4_countMates 43 = .ok (.iload 6, 2) := by decide +kernel
theorem dX4_countMates_45 : decode cX4_countMates 45 = .ok (.iaload, 1) := by decide +kernel
theorem dX4_countMates_46 : decode cX4_countMates 46 = .ok (.iload 5, 2) := by decide +kernel
theorem dX4_countMates_48 : decode cX4_countMates 48 = .ok (.if_icmp .ne 36, 3) := by decide +kernel
theorem dX4_countMates_51 : decode cX4_countMates 51 = .ok (.iload 6, 2) := by decide +kernel
theorem dX4_countMates_53 : decode cX4_countMates 53 = .ok (.iload 4, 2) := by decide +kernel
theorem dX4_countMates_55 : decode cX4_countMates 55 = .ok (.iload_n 2, 1) := by decide +kernel
theorem dX4_countMates_56 : decode cX4_countMates 56 = .ok (.iadd, 1) := by decide +kernel
theorem dX4_countMates_57 : decode cX4_countMates 57 = .ok (.if_icmp .eq 27, 3) := by decide +kernel
theorem dX4_countMates_60 : decode cX4_countMates 60 = .ok (.aload_n 0, 1) := by decide +kernel
theorem dX4_countMates_61 : decode cX4_countMates 61 = .ok (.getfield 24, 3) := by decide +kernel
theorem dX4_countMates_64 : decode cX4_countMates 64 = .ok (.iload 6, 2) := by decide +kernel
theorem dX4_countMates_66 : decode cX4_countMates 66 = .ok (.dup2, 1) := by decide +kernel
theorem dX4_countMates_67 : decode cX4_countMates 67 = .ok (.iaload, 1) := by decide +kernel
theorem dX4_countMates_68 : decode cX4_countMates 68 = .ok (.iload_n 3, 1) := by decide +kernel
theorem dX4_countMates_69 : decode cX4_countMates 69 = .ok (.iadd, 1) := by decide +kernel
theorem dX4_countMates_70 : decode cX4_countMates 70 = .ok (.iastore, 1) := by decide +kernel
theorem dX4_countMates_71 : decode cX4_countMates 71 = .ok (.aload_n 0, 1) := by decide +kernel
theorem dX4_countMates_72 : decode cX4_countMates 72 = .ok (.getfield 24, 3) := by decide +kernel
theorem dX4_countMates_75 : decode cX4_countMates 75 = .ok (.iload 4, 2) := by decide +kernel
theorem dX4_countMates_77 : decode cX4_countMates 77 = .ok (.iload_n 2, 1) := by decide +kernel
theorem dX4_countMates_78 : decode cX4_countMates 78 = .ok (.iadd, 1) := by decide +kernel
theorem dX4_countMates_79 : decode cX4_countMates 79 = .ok (.dup2, 1) := by decide +kernel
theorem dX4_countMates_80 : decode cX4_countMates 80 = .ok (.iaload, 1) := by decide +kernel
theorem dX4_countMates_81 : decode cX4_countMates 81 = .ok (.iload_n 3, 1) := by decide +kernel
theorem dX4_countMates_82 : decode cX4_countMates 82 = .ok (.iadd, 1) := by decide +kernel
theorem dX4_countMates_83 : decode cX4_countMates 83 = .ok (.iastore, 1) := by decide +kernel
theorem dX4_countMates_84 : decode cX4_countMates 84 = .ok (.iinc 6 1, 3) := by decide +kernel
theorem dX4_countMates_87 : decode cX4_countMates 87 = .ok (.goto (-60), 3) := by decide +kernel
theorem dX4_countMates_90 : decode cX4_countMates 90 = .ok (.return_, 1) := by decide +kernel
theorem dX4_append_0 : decode cX4_append 0 = .ok (.iconst 0, 1) := by decide +kernel
theorem dX4_append_1 : decode cX4_append 1 = .ok (.istore 4, 2) := by decide +kernel
theorem dX4_append_3 : decode cX4_append 3 = .ok (.iload 4, 2) := by decide +kernel
theorem dX4_append_5 : decode cX4_append 5 = .ok (.iconst 3, 1) := by decide +kernel
theorem dX4_append_6 : decode cX4_append 6 = .ok (.if_icmp .ge 41, 3) := by decide +kernel
theorem dX4_append_9 : decode cX4_append 9 = .ok (.aload_n 0, 1) := by decide +kernel
theorem dX4_append_10 : decode cX4_append 10 = .ok (.getfield 21, 3) := by decide +kernel
theorem dX4_append_13 : decode cX4_append 13 = .ok (.bipush 40, 2) := by decide +kernel
theorem dX4_append_15 : decode cX4_append 15 = .ok (.iload 4, 2) := by decide +kernel
theorem dX4_append_17 : decode cX4_append 17 = .ok (.imul, 1) := by decide +kernel
theorem dX4_append_18 : decode cX4_append 18 = .ok (.aload_n 0, 1) := by decide +kernel
theorem dX4_append_19 : decode cX4_append 19 = .ok (.getfield 41, 3) := by decide +kernel
theorem dX4_append_22 : decode cX4_append 22 = .ok (.iadd, 1) := by decide +kernel
theorem dX4_append_23 : decode cX4_append 23 = .ok (.iconst 0, 1) := by decide +kernel
theorem dX4_append_24 : decode cX4_append 24 = .ok (.iastore, 1) := by decide +kernel
theorem dX4_append_25 : decode cX4_append 25 = .ok (.aload_n 0, 1) := by decide +kernel
theorem dX4_append_26 : decode cX4_append 26 = .ok (.getfield 24, 3) := by decide +kernel
theorem dX4_append_29 : decode cX4_append 29 = .ok (.bipush 40, 2) := by decide +kernel
theorem dX4_append_31 : decode cX4_append 31 = .ok (.iload 4, 2) := by decide +kernel
theorem dX4_append_33 : decode cX4_append 33 = .ok (.imul, 1) := by decide +kernel
theorem dX4_append_34 : decode cX4_append 34 = .ok (.aload_n 0, 1) := by decide +kernel
theorem dX4_append_35 : decode cX4_append 35 = .ok (.getfield 41, 3) := by decide +kernel
theorem dX4_append_38 : decode cX4_append 38 = .ok (.iadd, 1) := by decide +kernel
theorem dX4_append_39 : decode cX4_append 39 = .ok (.iconst 0, 1) := by decide +kernel
theorem dX4_append_40 : decode cX4_append 40 = .ok (.iastore, 1) := by decide +kernel
theorem dX4_append_41 : decode cX4_append 41 = .ok (.iinc 4 1, 3) := by decide +kernel
theorem dX4_append_44 : decode cX4_append 44 = .ok (.goto (-41), 3) := by decide +kernel
theorem dX4_append_47 : decode cX4_append 47 = .ok (.aload_n 0, 1) := by decide +kernel
theorem dX4_append_48 : decode cX4_append 48 = .ok (.dup, 1) := by decide +kernel
theorem dX4_append_49 : decode cX4_append 49 = .ok (.getfield 41, 3) := by decide +kernel
theorem dX4_append_52 : decode cX4_append 52 = .ok (.iconst 1, 1) := by decide +kernel
theorem dX4_append_53 : decode cX4_append 53 = .ok (.iadd, 1) := by decide +kernel
theorem dX4_append_54 : decode cX4_append 54 = .ok (.putfield 41, 3) := by decide +kernel
theorem dX4_append_57 : decode cX4_append 57 = .ok (.aload_n 0, 1) := by decide +kernel
theorem dX4_append_58 : decode cX4_append 58 = .ok (.iconst 0, 1) := by decide +kernel
theorem dX4_append_59 : decode cX4_append 59 = .ok (.aload_n 0, 1) := by decide +kernel
theorem dX4_append_60 : decode cX4_append 60 = .ok (.getfield 41, 3) := by decide +kernel
theorem dX4_append_63 : decode cX4_append 63 = .ok (.iconst 1, 1) := by decide +kernel
theorem dX4_append_64 : decode cX4_append 64 = .ok (.isub, 1) := by decide +kernel
theorem dX4_append_65 : decode cX4_append 65 = .ok (.iload_n 1, 1) := by decide +kernel
theorem dX4_append_66 : decode cX4_append 66 = .ok (.invokevirtual 85, 3) := by decide +kernel
theorem dX4_append_69 : decode cX4_append 69 = .ok (.aload_n 0, 1) := by decide +kernel
theorem dX4_append_70 : decode cX4_append 70 = .ok (.iconst 1, 1) := by decide +kernel
theorem dX4_append_71 : decode cX4_append 71 = .ok (.aload_n 0, 1) := by decide +kernel
theorem dX4_append_72 : decode cX4_append 72 = .ok (.getfield 41, 3) := by decide +kernel
theorem dX4_append_75 : decode cX4_append 75 = .ok (.iconst 1, 1) := by decide +kernel
theorem dX4_append_76 : decode cX4_append 76 = .ok (.isub, 1) := by decide +kernel
theorem dX4_append_77 : decode cX4_append 77 = .ok (.iload_n 2, 1) := by decide +kernel
theorem dX4_append_78 : decode cX4_append 78 = .ok (.invokevirtual 85, 3) := by decide +kernel
theorem dX4_append_81 : decode cX4_append 81 = .ok (.aload_n 0, 1) := by decide +kernel
theorem dX4_append_82 : decode cX4_append 82 = .ok (.iconst 2, 1) := by decide +kernel
theorem dX4_append_83 : decode cX4_append 83 = .ok (.aload_n 0, 1) := by decide +kernel
theorem dX4_append_84 : decode cX4_append 84 = .ok (.getfield 41, 3) := by decide +kernel
theorem dX4_append_87 : decode cX4_append 87 = .ok (.iconst 1, 1) := by decide +kernel
theorem dX4_append_88 : decode cX4_append 88 = .ok (.isub, 1) := by decide +kernel
theorem dX4_append_89 : decode cX4_append 89 = .ok (.iload_n 3, 1) := by decide +kernel
theorem dX4_append_90 : decode cX4_append 90 = .ok (.invokevirtual 85, 3) := by decide +kernel
theorem dX4_append_93 : decode cX4_append 93 = .ok (.return_, 1) := by decide +kernel
theorem dX4_remove_0 : decode cX4_remove 0 = .ok (.aload_n 0, 1) := by decide +kernel
theorem dX4_remove_1 : decode cX4_remove 1 = .ok (.getfield 41, 3) := by decide +kernel
theorem dX4_remove_4 : decode cX4_remove 4 = .ok (.iload_n 1, 1) := by decide +kernel
theorem dX4_remove_5 : decode cX4_remove 5 = .ok (.isub, 1) := by decide +kernel
theorem dX4_remove_6 : decode cX4_remove 6 = .ok (.iconst 1, 1) := by decide +kernel
theorem dX4_remove_7 : decode cX4_remove 7 = .ok (.isub, 1) := by decide +kernel
theorem dX4_remove_8 : decode cX4_remove 8 = .ok (.istore_n 2, 1) := by decide +kernel
theorem dX4_remove_9 : decode cX4_remove 9 = .ok (.iconst 0, 1) := by decide +kernel
theorem dX4_remove_10 : decode cX4_remove 10 = .ok (.istore_n 3, 1) := by decide +kernel
theorem dX4_remove_11 : decode cX4_remove 11 = .ok (.iload_n 3, 1) := by decide +kernel
theorem dX4_remove_12 : decode cX4_remove 12 = .ok (.iconst 3, 1) := by decide +kernel
theorem dX4_remove_13 : decode cX4_remove 13 = .ok (.if_icmp .ge 78, 3) := by decide +kernel
theorem dX4_remove_16 : decode cX4_remove 16 = .ok (.bipush 40, 2) := by decide +kernel
theorem dX4_remove_18 : decode cX4_remove 18 = .ok (.iload_n 3, 1) := by decide +kernel
theorem dX4_remove_19 : decode cX4_remove 19 = .ok (.imul, 1) := by decide +kernel
theorem dX4_remove_20 : decode cX4_remove 20 = .ok (.iload_n 1, 1) := by decide +kernel
theorem dX4_remove_21 : decode cX4_remove 21 = .ok (.iadd, 1) := by decide +kernel
theorem dX4_remove_22 : decode cX4_remove 22 = .ok (.istore 4, 2) := by decide +kernel
theorem dX4_remove_24 : decode cX4_remove 24 = .ok (.aload_n 0, 1) := by decide +kernel
theorem dX4_remove_25 : decode cX4_remove 25 = .ok (.iload_n 3, 1) := by decide +kernel
theorem dX4_remove_26 : decode cX4_remove 26 = .ok (.iload_n 1, 1) := by decide +kernel
theorem dX4_remove_27 : decode cX4_remove 27 = .ok (.iconst (-1), 1) := by decide +kernel
theorem dX4_remove_28 : decode cX4_remove 28 = .ok (.invokevirtual 80, 3) := by decide +kernel
theorem dX4_remove_31 : decode cX4_remove 31 = .ok (.aload_n 0, 1) := by decide +kernel
theorem dX4_remove_32 : decode cX4_remove 32 = .ok (.getfield 18, 3) := by decide +kernel
theorem dX4_remove_35 : decode cX4_remove 35 = .ok (.iload 4, 2) := by decide +kernel
theorem dX4_remove_37 : decode cX4_remove 37 = .ok (.iconst 1, 1) := by decide +kernel
theorem dX4_remove_38 : decode cX4_remove 38 = .ok (.iadd, 1) := by decide +kernel
theorem dX4_remove_39 : decode cX4_remove 39 = .ok (.aload_n 0, 1) := by decide +kernel
theorem dX4_remove_40 : decode cX4_remove 40 = .ok (.getfield 18, 3) := by decide +kernel
theorem dX4_remove_43 : decode cX4_remove 43 = .ok (.iload 4, 2) := by decide +kernel
theorem dX4_remove_45 : decode cX4_remove 45 = .ok (.iload_n 2, 1) := by decide +kernel
theorem dX4_remove_46 : decode cX4_remove 46 = .ok (.invokestatic 45, 3) := by decide +kernel
theorem dX4_remove_49 : decode cX4_remove 49 = .ok (.aload_n 0, 1) := by decide +kernel
theorem dX4_remove_50 : decode cX4_remove 50 = .ok (.getfield 21, 3) := by decide +kernel
theorem dX4_remove_53 : decode cX4_remove 53 = .ok (.iload 4, 2) := by decide +kernel
theorem dX4_remove_55 : decode cX4_remove 55 = .ok (.iconst 1, 1) := by decide +kernel
theorem dX4_remove_56 : decode cX4_remove 56 = .ok (.iadd, 1) := by decide +kernel
theorem dX4_remove_57 : decode cX4_remove 57 = .ok (.aload_n 0, 1) := by decide +kernel
theorem dX4_remove_58 : decode cX4_remove 58 = .ok (.getfield 21, 3) := by decide +kernel
theorem dX4_remove_61 : decode cX4_remove 61 = .ok (.iload 4, 2) := by decide +kernel
theorem dX4_remove_63 : decode cX4_remove 63 = .ok (.iload_n 2, 1) := by decide +kernel
theorem dX4_remove_64 : decode cX4_remove 64 = .ok (.invokestatic 45, 3) := by decide +kernel
theorem dX4_remove_67 : decode cX4_remove 67 = .ok (.aload_n 0, 1) := by decide +kernel
theorem dX4_remove_68 : decode cX4_remove 68 = .ok (.getfield 24, 3) := by decide +kernel
theorem dX4_remove_71 : decode cX4_remove 71 = .ok (.iload 4, 2) := by decide +kernel
theorem dX4_remove_73 : decode cX4_remove 73 = .ok (.iconst 1, 1) := by decide +kernel
theorem dX4_remove_74 : decode cX4_remove 74 = .ok (.iadd, 1) := by decide +kernel
theorem dX4_remove_75 : decode cX4_remove 75 = .ok (.aload_n 0, 1) := by decide +kernel
theorem dX4_remove_76 : decode cX4_remove 76 = .ok (.getfield 24, 3) := by decide +kernel
theorem dX4_remove_79 : decode cX4_remove 79 = .ok (.iload 4, 2) := by decide +kernel
theorem dX4_remove_81 : decode cX4_remove 81 = .ok (.iload_n 2, 1) := by decide +kernel
theorem dX4_remove_82 : decode cX4_remove 82 = .ok (.invokestatic 45, 3) := by decide +kernel
theorem dX4_remove_85 : decode cX4_remove 85 = .ok (.iinc 3 1, 3) := by decide +kernel
theorem dX4_remove_88 : decode cX4_remove 88 = .ok (.goto (-77), 3) := by decide +kernel
theorem dX4_remove_91 : decode cX4_remove 91 = .ok (.aload_n 0, 1) := by decide +kernel
theorem dX4_remove_92 : decode cX4_remove 92 = .ok (.dup, 1) := by decide +kernel
theorem dX4_remove_93 : decode cX4_remove 93 = .ok (.getfield 41, 3) := by decide +kernel
theorem dX4_remove_96 : decode cX4_remove 96 = .ok (.iconst 1, 1) := by decide +kernel
theorem dX4_remove_97 : decode cX4_remove 97 = .ok (.isub, 1) := by decide +kernel
theorem dX4_remove_98 : decode cX4_remove 98 = .ok (.putfield 41, 3) := by decide +kernel
theorem dX4_remove_101 : decode cX4_remove 101 = .ok (.return_, 1) := by decide +kernel
theorem dX4_becomePlain_0 : decode cX4_becomePlain 0 = .ok (.aload_n 0, 1) := by decide +kernel
theorem dX4_becomePlain_1 : decode cX4_becomePlain 1 = .ok (.iconst 0, 1) := by decide +kernel
theorem dX4_becomePlain_2 : decode cX4_becomePlain 2 = .ok (.putfield 41, 3) := by decide +kernel
theorem dX4_becomePlain_5 : decode cX4_becomePlain 5 = .ok (.iconst 0, 1) := by decide +kernel
theorem dX4_becomePlain_6 : decode cX4_becomePlain 6 = .ok (.istore_n 1, 1) := by decide +kernel
theorem dX4_becomePlain_7 : decode cX4_becomePlain 7 = .ok (.iload_n 1, 1) := by decide +kernel
theorem dX4_becomePlain_8 : decode cX4_becomePlain 8 = .ok (.aload_n 0, 1) := by decide +kernel
theorem dX4_becomePlain_9 : decode cX4_becomePlain 9 = .ok (.getfield 9, 3) := by decide +kernel
theorem dX4_becomePlain_12 : decode cX4_becomePlain 12 = .ok (.iconst 0, 1) := by decide +kernel
theorem dX4_becomePlain_13 : decode cX4_becomePlain 13 = .ok (.iaload, 1) := by decide +kernel
theorem dX4_becomePlain_14 : decode cX4_becomePlain 14 = .ok (.if_icmp .ge 33, 3) := by decide +kernel
theorem dX4_becomePlain_17 : decode cX4_becomePlain 17 = .ok (.iconst 0, 1) := by decide +kernel
theorem dX4_becomePlain_18 : decode cX4_becomePlain 18 = .ok (.istore_n 2, 1) := by decide +kernel
theorem dX4_becomePlain_19 : decode cX4_becomePlain 19 = .ok (.iload_n 2, 1) := by decide +kernel
theorem dX4_becomePlain_20 : decode cX4_becomePlain 20 = .ok (.aload_n 0, 1) := by decide +kernel
theorem dX4_becomePlain_21 : decode cX4_becomePlain 21 = .ok (.getfield 9, 3) := by decide +kernel
theorem dX4_becomePlain_24 : decode cX4_becomePlain 24 = .ok (.iconst 1, 1) := by decide +kernel
theorem dX4_becomePlain_25 : decode cX4_becomePlain 25 = .ok (.iaload, 1) := by decide +kernel
theorem dX4_becomePlain_26 : decode cX4_becomePlain 26 = .ok (.if_icmp .ge 15, 3) := by decide +kernel
theorem dX4_becomePlain_29 : decode cX4_becomePlain 29 = .ok (.aload_n 0, 1) := by decide +kernel
theorem dX4_becomePlain_30 : decode cX4_becomePlain 30 = .ok (.iload_n 1, 1) := by decide +kernel
theorem dX4_becomePlain_31 : decode cX4_becomePlain 31 = .ok (.iload_n 2, 1) := by decide +kernel
theorem dX4_becomePlain_32 : decode cX4_becomePlain 32 = .ok (.invokevirtual 88, 3) := by decide +kernel
theorem dX4_becomePlain_35 : decode cX4_becomePlain 35 = .ok (.iinc 2 1, 3) := by decide +kernel
theorem dX4_becomePlain_38 : decode cX4_becomePlain 38 = .ok (.goto (-19), 3) := by decide +kernel
theorem dX4_becomePlain_41 : decode cX4_becomePlain 41 = .ok (.iinc 1 1, 3) := by decide +kernel
theorem dX4_becomePlain_44 : decode cX4_becomePlain 44 = .ok (.goto (-37), 3) := by decide +kernel
theorem dX4_becomePlain_47 : decode cX4_becomePlain 47 = .ok (.return_, 1) := by decide +kernel
theorem dX4_appendPlain_0 : decode cX4_appendPlain 0 = .ok (.iconst 0, 1) := by decide +kernel
theorem dX4_appendPlain_1 : decode cX4_appendPlain 1 = .ok (.istore_n 3, 1) := by decide +kernel
theorem dX4_appendPlain_2 : decode cX4_appendPlain 2 = .ok (.iload_n 3, 1) := by decide +kernel
theorem dX4_appendPlain_3 : decode cX4_appendPlain 3 = .ok (.aload_n 0, 1) := by decide +kernel
theorem dX4_appendPlain_4 : decode cX4_appendPlain 4 = .ok (.getfield 9, 3) := by decide +kernel
theorem dX4_appendPlain_7 : decode cX4_appendPlain 7 = .ok (.iconst 2, 1) := by decide +kernel
theorem dX4_appendPlain_8 : decode cX4_appendPlain 8 = .ok (.iaload, 1) := by decide +kernel
theorem dX4_appendPlain_9 : decode cX4_appendPlain 9 = .ok (.if_icmp .ge 66, 3) := by decide +kernel
theorem dX4_appendPlain_12 : decode cX4_appendPlain 12 = .ok (.aload_n 0, 1) := by decide +kernel
theorem dX4_appendPlain_13 : decode cX4_appendPlain 13 = .ok (.iload_n 1, 1) := by decide +kernel
theorem dX4_appendPlain_14 : decode cX4_appendPlain 14 = .ok (.iload_n 2, 1) := by decide +kernel
theorem dX4_appendPlain_15 : decode cX4_appendPlain 15 = .ok (.iload_n 3, 1) := by decide +kernel
theorem dX4_appendPlain_16 : decode cX4_appendPlain 16 = .ok (.invokevirtual 78, 3) := by decide +kernel
theorem dX4_appendPlain_19 : decode cX4_appendPlain 19 = .ok (.istore 4, 2) := by decide +kernel
theorem dX4_appendPlain_21 : decode cX4_appendPlain 21 = .ok (.iload 4, 2) := by decide +kernel
theorem dX4_appendPlain_23 : decode cX4_appendPlain 23 = .ok (.ifCond .eq 46, 3) := by decide +kernel
theorem dX4_appendPlain_26 : decode cX4_appendPlain 26 = .ok (.aload_n 0, 1) := by decide +kernel
theorem dX4_appendPlain_27 : decode cX4_appendPlain 27 = .ok (.getfield 41, 3) := by decide +kernel
theorem dX4_appendPlain_30 : decode cX4_appendPlain 30 = .ok (.bipush 40, 2) := by decide +kernel
theorem dX4_appendPlain_32 : decode cX4_appendPlain 32 = .ok (.if_icmp .ge 37, 3) := by decide +kernel
theorem dX4_appendPlain_35 : decode cX4_appendPlain 35 = .ok (.aload_n 0, 1) := by decide +kernel
theorem dX4_appendPlain_36 : decode cX4_appendPlain 36 = .ok (.aload_n 0, 1) := by decide +kernel
theorem dX4_appendPlain_37 : decode cX4_appendPlain 37 = .ok (.getfield 27, 3) := by decide +kernel
theorem dX4_appendPlain_40 : decode cX4_appendPlain 40 = .ok (.getfield 55, 3) := by decide +kernel
theorem dX4_appendPlain_43 : decode cX4_appendPlain 43 = .ok (.iload_n 1, 1) := by decide +kernel
theorem dX4_appendPlain_44 : decode cX4_appendPlain 44 = .ok (.iaload, 1) := by decide +kernel
theorem dX4_appendPlain_45 : decode cX4_appendPlain 45 = .ok (.aload_n 0, 1) := by decide +kernel
theorem dX4_appendPlain_46 : decode cX4_appendPlain 46 = .ok (.getfield 27, 3) := by decide +kernel
theorem dX4_appendPlain_49 : decode cX4_appendPlain 49 = .ok (.getfield 55, 3) := by decide +kernel
theorem dX4_appendPlain_52 : decode cX4_appendPlain 52 = .ok (.iload_n 2, 1) := by decide +kernel
theorem dX4_appendPlain_53 : decode cX4_appendPlain 53 = .ok (.iaload, 1) := by decide +kernel
theorem dX4_appendPlain_54 : decode cX4_appendPlain 54 = .ok (.iload 4, 2) := by decide +kernel
theorem dX4_appendPlain_56 : decode cX4_appendPlain 56 = .ok (.aload_n 0, 1) := by decide +kernel
theorem dX4_appendPlain_57 : decode cX4_appendPlain 57 = .ok (.getfield 27, 3) := by decide +kernel
theorem dX4_appendPlain_60 : decode cX4_appendPlain 60 = .ok (.getfield 55, 3) := by decide +kernel
theorem dX4_appendPlain_63 : decode cX4_appendPlain 63 = .ok (.iload_n 3, 1) := by decide +kernel
theorem dX4_appendPlain_64 : decode cX4_appendPlain 64 = .ok (.iaload, 1) := by decide +kernel
theorem dX4_appendPlain_65 : decode cX4_appendPlain 65 = .ok (.imul, 1) := by decide +kernel
theorem dX4_appendPlain_66 : decode cX4_appendPlain 66 = .ok (.invokevirtual 92, 3) := by decide +kernel
theorem dX4_appendPlain_69 : decode cX4_appendPlain 69 = .ok (.iinc 3 1, 3) := by decide +kernel
theorem dX4_appendPlain_72 : decode cX4_appendPlain 72 = .ok (.goto (-70), 3) := by decide +kernel
theorem dX4_appendPlain_75 : decode cX4_appendPlain 75 = .ok (.return_, 1) := by decide +kernel
theorem dX4_matesOf_0 : decode cX4_matesOf 0 = .ok (.aload_n 0, 1) := by decide +kernel
theorem dX4_matesOf_1 : decode cX4_matesOf 1 = .ok (.getfield 24, 3) := by decide +kernel
theorem dX4_matesOf_4 : decode cX4_matesOf 4 = .ok (.bipush 40, 2) := by decide +kernel
theorem dX4_matesOf_6 : decode cX4_matesOf 6 = .ok (.iload_n 1, 1) := by decide +kernel
theorem dX4_matesOf_7 : decode cX4_matesOf 7 = .ok (.imul, 1) := by decide +kernel
theorem dX4_matesOf_8 : decode cX4_matesOf 8 = .ok (.iload_n 2, 1) := by decide +kernel
theorem dX4_matesOf_9 : decode cX4_matesOf 9 = .ok (.iadd, 1) := by decide +kernel
theorem dX4_matesOf_10 : decode cX4_matesOf 10 = .ok (.iaload, 1) := by decide +kernel
theorem dX4_matesOf_11 : decode cX4_matesOf 11 = .ok (.ireturn, 1) := by decide +kernel
theorem dX4_alike_0 : decode cX4_alike 0 = .ok (.aload_n 0, 1) := by decide +kernel
theorem dX4_alike_1 : decode cX4_alike 1 = .ok (.getfield 21, 3) := by decide +kernel
theorem dX4_alike_4 : decode cX4_alike 4 = .ok (.bipush 40, 2) := by decide +kernel
theorem dX4_alike_6 : decode cX4_alike 6 = .ok (.iload_n 1, 1) := by decide +kernel
theorem dX4_alike_7 : decode cX4_alike 7 = .ok (.imul, 1) := by decide +kernel
theorem dX4_alike_8 : decode cX4_alike 8 = .ok (.iload_n 2, 1) := by decide +kernel
theorem dX4_alike_9 : decode cX4_alike 9 = .ok (.iadd, 1) := by decide +kernel
theorem dX4_alike_10 : decode cX4_alike 10 = .ok (.iaload, 1) := by decide +kernel
theorem dX4_alike_11 : decode cX4_alike 11 = .ok (.istore 4, 2) := by decide +kernel
theorem dX4_alike_13 : decode cX4_alike 13 = .ok (.iload 4, 2) := by decide +kernel
theorem dX4_alike_15 : decode cX4_alike 15 = .ok (.ifCond .eq 23, 3) := by decide +kernel
theorem dX4_alike_18 : decode cX4_alike 18 = .ok (.iload 4, 2) := by decide +kernel
theorem dX4_alike_20 : decode cX4_alike 20 = .ok (.aload_n 0, 1) := by decide +kernel
theorem dX4_alike_21 : decode cX4_alike 21 = .ok (.getfield 21, 3) := by decide +kernel
theorem dX4_alike_24 : decode cX4_alike 24 = .ok (.bipush 40, 2) := by decide +kernel
theorem dX4_alike_26 : decode cX4_alike 26 = .ok (.iload_n 1, 1) := by decide +kernel
theorem dX4_alike_27 : decode cX4_alike 27 = .ok (.imul, 1) := by decide +kernel
theorem dX4_alike_28 : decode cX4_alike 28 = .ok (.iload_n 3, 1) := by decide +kernel
theorem dX4_alike_29 : decode cX4_alike 29 = .ok (.iadd, 1) := by decide +kernel
theorem dX4_alike_30 : decode cX4_alike 30 = .ok (.iaload, 1) := by decide +kernel
theorem dX4_alike_31 : decode cX4_alike 31 = .ok (.if_icmp .ne 7, 3) := by decide +kernel
theorem dX4_alike_34 : decode cX4_alike 34 = .ok (.iconst 1, 1) := by decide +kernel
theorem dX4_alike_35 : decode cX4_alike 35 = .ok (.goto 4, 3) := by decide +kernel
theorem dX4_alike_38 : decode cX4_alike 38 = .ok (.iconst 0, 1) := by decide +kernel
theorem dX4_alike_39 : decode cX4_alike 39 = .ok (.ireturn, 1) := by decide +kernel
theorem dX4_factor_0 : decode cX4_factor 0 = .ok (.aload_n 0, 1) := by decide +kernel
theorem dX4_factor_1 : decode cX4_factor 1 = .ok (.getfield 27, 3) := by decide +kernel
theorem dX4_factor_4 : decode cX4_factor 4 = .ok (.aload_n 0, 1) := by decide +kernel
theorem dX4_factor_5 : decode cX4_factor 5 = .ok (.iload_n 1, 1) := by decide +kernel
theorem dX4_factor_6 : decode cX4_factor 6 = .ok (.iload_n 2, 1) := by decide +kernel
theorem dX4_factor_7 : decode cX4_factor 7 = .ok (.invokevirtual 95, 3) := by decide +kernel
theorem dX4_factor_10 : decode cX4_factor 10 = .ok (.invokevirtual 98, 3) := by decide +kernel
theorem dX4_factor_13 : decode cX4_factor 13 = .ok (.istore 4, 2) := by decide +kernel
theorem dX4_factor_15 : decode cX4_factor 15 = .ok (.aload_n 0, 1) := by decide +kernel
theorem dX4_factor_16 : decode cX4_factor 16 = .ok (.getfield 27, 3) := by decide +kernel
theorem dX4_factor_19 : decode cX4_factor 19 = .ok (.aload_n 0, 1) := by decide +kernel
theorem dX4_factor_20 : decode cX4_factor 20 = .ok (.iload_n 1, 1) := by decide +kernel
theorem dX4_factor_21 : decode cX4_factor 21 = .ok (.iload_n 3, 1) := by decide +kernel
theorem dX4_factor_22 : decode cX4_factor 22 = .ok (.invokevirtual 95, 3) := by decide +kernel
theorem dX4_factor_25 : decode cX4_factor 25 = .ok (.invokevirtual 98, 3) := by decide +kernel
theorem dX4_factor_28 : decode cX4_factor 28 = .ok (.istore 5, 2) := by decide +kernel
theorem dX4_factor_30 : decode cX4_factor 30 = .ok (.iload 5, 2) := by decide +kernel
theorem dX4_factor_32 : decode cX4_factor 32 = .ok (.aload_n 0, 1) := by decide +kernel
theorem dX4_factor_33 : decode cX4_factor 33 = .ok (.getfield 27, 3) := by decide +kernel
theorem dX4_factor_36 : decode cX4_factor 36 = .ok (.getfield 101, 3) := by decide +kernel
theorem dX4_factor_39 : decode cX4_factor 39 = .ok (.iload 4, 2) := by decide +kernel
theorem dX4_factor_41 : decode cX4_factor 41 = .ok (.iaload, 1) := by decide +kernel
theorem dX4_factor_42 : decode cX4_factor 42 = .ok (.imul, 1) := by decide +kernel
theorem dX4_factor_43 : decode cX4_factor 43 = .ok (.aload_n 0, 1) := by decide +kernel
theorem dX4_factor_44 : decode cX4_factor 44 = .ok (.getfield 27, 3) := by decide +kernel
theorem dX4_factor_47 : decode cX4_factor 47 = .ok (.getfield 104, 3) := by decide +kernel
theorem dX4_factor_50 : decode cX4_factor 50 = .ok (.irem, 1) := by decide +kernel
theorem dX4_factor_51 : decode cX4_factor 51 = .ok (.ireturn, 1) := by decide +kernel
theorem dX4_addIndex_0 : decode cX4_addIndex 0 = .ok (.iload_n 1, 1) := by decide +kernel
theorem dX4_addIndex_1 : decode cX4_addIndex 1 = .ok (.ifCond .ne 7, 3) := by decide +kernel
theorem dX4_addIndex_4 : decode cX4_addIndex 4 = .ok (.iconst 1, 1) := by decide +kernel
theorem dX4_addIndex_5 : decode cX4_addIndex 5 = .ok (.goto 4, 3) := by decide +kernel
theorem dX4_addIndex_8 : decode cX4_addIndex 8 = .ok (.iconst 0, 1) := by decide +kernel
theorem dX4_addIndex_9 : decode cX4_addIndex 9 = .ok (.istore 5, 2) := by decide +kernel
theorem dX4_addIndex_11 : decode cX4_addIndex 11 = .ok (.iconst 0, 1) := by decide +kernel
theorem dX4_addIndex_12 : decode cX4_addIndex 12 = .ok (.istore 6, 2) := by decide +kernel
theorem dX4_addIndex_14 : decode cX4_addIndex 14 = .ok (.iload 6, 2) := by decide +kernel
theorem dX4_addIndex_16 : decode cX4_addIndex 16 = .ok (.aload_n 0, 1) := by decide +kernel
theorem dX4_addIndex_17 : decode cX4_addIndex 17 = .ok (.getfield 9, 3) := by decide +kernel
theorem dX4_addIndex_20 : decode cX4_addIndex 20 = .ok (.iload 5, 2) := by decide +kernel
theorem dX4_addIndex_22 : decode cX4_addIndex 22 = .ok (.iaload, 1) := by decide +kernel
theorem dX4_addIndex_23 : decode cX4_addIndex 23 = .ok (.if_icmp .ge 94, 3) := by decide +kernel
theorem dX4_addIndex_26 : decode cX4_addIndex 26 = .ok (.iload_n 1, 1) := by decide +kernel
theorem dX4_addIndex_27 : decode cX4_addIndex 27 = .ok (.ifCond .ne 36, 3) := by decide +kernel
theorem dX4_addIndex_30 : decode cX4_addIndex 30 = .ok (.aload_n 0, 1) := by decide +kernel
theorem dX4_addIndex_31 : decode cX4_addIndex 31 = .ok (.iload_n 2, 1) := by decide +kernel
theorem dX4_addIndex_32 : decode cX4_addIndex 32 = .ok (.iload 6, 2) := by decide +kernel
theorem dX4_addIndex_34 : decode cX4_addIndex 34 = .ok (.aload_n 0, 1) := by decide +kernel
theorem dX4_addIndex_35 : decode cX4_addIndex 35 = .ok (.getfield 27, 3) := by decide +kernel
theorem dX4_addIndex_38 : decode cX4_addIndex 38 = .ok (.aload_n 0, 1) := by decide +kernel
theorem dX4_addIndex_39 : decode cX4_addIndex 39 = .ok (.iload_n 2, 1) := by decide +kernel
theorem dX4_addIndex_40 : decode cX4_addIndex 40 = .ok (.iload 6, 2) := by decide +kernel
theorem dX4_addIndex_42 : decode cX4_addIndex 42 = .ok (.invokevirtual 60, 3) := by decide +kernel
theorem dX4_addIndex_45 : decode cX4_addIndex 45 = .ok (.iload 4, 2) := by decide +kernel
theorem dX4_addIndex_47 : decode cX4_addIndex 47 = .ok (.aload_n 0, 1) := by decide +kernel
theorem dX4_addIndex_48 : decode cX4_addIndex 48 = .ok (.iload_n 3, 1) := by decide +kernel
theorem dX4_addIndex_49 : decode cX4_addIndex 49 = .ok (.iload 6, 2) := by decide +kernel
theorem dX4_addIndex_51 : decode cX4_addIndex 51 = .ok (.invokevirtual 60, 3) := by decide +kernel
theorem dX4_addIndex_54 : decode cX4_addIndex 54 = .ok (.invokevirtual 107, 3) := by decide +kernel
theorem dX4_addIndex_57 : decode cX4_addIndex 57 = .ok (.invokevirtual 71, 3) := by decide +kernel
theorem dX4_addIndex_60 : decode cX4_addIndex 60 = .ok (.goto 51, 3) := by decide +kernel
theorem dX4_addIndex_63 : decode cX4_addIndex 63 = .ok (.iload_n 1, 1) := by decide +kernel
theorem dX4_addIndex_64 : decode cX4_addIndex 64 = .ok (.iconst 1, 1) := by decide +kernel
theorem dX4_addIndex_65 : decode cX4_addIndex 65 = .ok (.if_icmp .ne 36, 3) := by decide +kernel
theorem dX4_addIndex_68 : decode cX4_addIndex 68 = .ok (.aload_n 0, 1) := by decide +kernel
theorem dX4_addIndex_69 : decode cX4_addIndex 69 = .ok (.iload 6, 2) := by decide +kernel
theorem dX4_addIndex_71 : decode cX4_addIndex 71 = .ok (.iload_n 2, 1) := by decide +kernel
theorem dX4_addIndex_72 : decode cX4_addIndex 72 = .ok (.aload_n 0, 1) := by decide +kernel
theorem dX4_addIndex_73 : decode cX4_addIndex 73 = .ok (.getfield 27, 3) := by decide +kernel
theorem dX4_addIndex_76 : decode cX4_addIndex 76 = .ok (.aload_n 0, 1) := by decide +kernel
theorem dX4_addIndex_77 : decode cX4_addIndex 77 = .ok (.iload 6, 2) := by decide +kernel
theorem dX4_addIndex_79 : decode cX4_addIndex 79 = .ok (.iload_n 2, 1) := by decide +kernel
theorem dX4_addIndex_80 : decode cX4_addIndex 80 = .ok (.invokevirtual 60, 3) := by decide +kernel
theorem dX4_addIndex_83 : decode cX4_addIndex 83 = .ok (.iload 4, 2) := by decide +kernel
theorem dX4_addIndex_85 : decode cX4_addIndex 85 = .ok (.aload_n 0, 1) := by decide +kernel
theorem dX4_addIndex_86 : decode cX4_addIndex 86 = .ok (.iload 6, 2) := by decide +kernel
theorem dX4_addIndex_88 : decode cX4_addIndex 88 = .ok (.iload_n 3, 1) := by decide +kernel
theorem dX4_addIndex_89 : decode cX4_addIndex 89 = .ok (.invokevirtual 60, 3) := by decide +kernel
theorem dX4_addIndex_92 : decode cX4_addIndex 92 = .ok (.invokevirtual 107, 3) := by decide +kernel
theorem dX4_addIndex_95 : decode cX4_addIndex 95 = .ok (.invokevirtual 71, 3) := by decide +kernel
theorem dX4_addIndex_98 : decode cX4_addIndex 98 = .ok (.goto 13, 3) := by decide +kernel
theorem dX4_addIndex_101 : decode cX4_addIndex 101 = .ok (.aload_n 0, 1) := by decide +kernel
theorem dX4_addIndex_102 : decode cX4_addIndex 102 = .ok (.iload 6, 2) := by decide +kernel
theorem dX4_addIndex_104 : decode cX4_addIndex 104 = .ok (.iload_n 2, 1) := by decide +kernel
theorem dX4_addIndex_105 : decode cX4_addIndex 105 = .ok (.iload_n 3, 1) := by decide +kernel
theorem dX4_addIndex_106 : decode cX4_addIndex 106 = .ok (.iload 4, 2) := by decide +kernel
theorem dX4_addIndex_108 : decode cX4_addIndex 108 = .ok (.invokevirtual 110, 3) := by decide +kernel
theorem dX4_addIndex_111 : decode cX4_addIndex 111 = .ok (.iinc 6 1, 3) := by decide +kernel
theorem dX4_addIndex_114 : decode cX4_addIndex 114 = .ok (.goto (-100), 3) := by decide +kernel
theorem dX4_addIndex_117 : decode cX4_addIndex 117 = .ok (.iconst 0, 1) := by decide +kernel
theorem dX4_addIndex_118 : decode cX4_addIndex 118 = .ok (.istore 6, 2) := by decide +kernel
theorem dX4_addIndex_120 : decode cX4_addIndex 120 = .ok (.iload 6, 2) := by decide +kernel
theorem dX4_addIndex_122 : decode cX4_addIndex 122 = .ok (.aload_n 0, 1) := by decide +kernel
theorem dX4_addIndex_123 : decode cX4_addIndex 123 = .ok (.getfield 41, 3) := by decide +kernel
theorem dX4_addIndex_126 : decode cX4_addIndex 126 = .ok (.if_icmp .ge 31, 3) := by decide +kernel
theorem dX4_addIndex_129 : decode cX4_addIndex 129 = .ok (.aload_n 0, 1) := by decide +kernel
theorem dX4_addIndex_130 : decode cX4_addIndex 130 = .ok (.iload_n 1, 1) := by decide +kernel
theorem dX4_addIndex_131 : decode cX4_addIndex 131 = .ok (.iload 6, 2) := by decide +kernel
theorem dX4_addIndex_133 : decode cX4_addIndex 133 = .ok (.aload_n 0, 1) := by decide +kernel
theorem dX4_addIndex_134 : decode cX4_addIndex 134 = .ok (.aload_n 0, 1) := by decide +kernel
theorem dX4_addIndex_135 : decode cX4_addIndex 135 = .ok (.iload_n 1, 1) := by decide +kernel
theorem dX4_addIndex_136 : decode cX4_addIndex 136 = .ok (.iload 6, 2) := by decide +kernel
theorem dX4_addIndex_138 : decode cX4_addIndex 138 = .ok (.invokevirtual 95, 3) := by decide +kernel
theorem dX4_addIndex_141 : decode cX4_addIndex 141 = .ok (.iload_n 2, 1) := by decide +kernel
theorem dX4_addIndex_142 : decode cX4_addIndex 142 = .ok (.iload_n 3, 1) := by decide +kernel
theorem dX4_addIndex_143 : decode cX4_addIndex 143 = .ok (.iload 4, 2) := by decide +kernel
theorem dX4_addIndex_145 : decode cX4_addIndex 145 = .ok (.invokevirtual 114, 3) := by decide +kernel
theorem dX4_addIndex_148 : decode cX4_addIndex 148 = .ok (.invokevirtual 85, 3) := by decide +kernel
theorem dX4_addIndex_151 : decode cX4_addIndex 151 = .ok (.iinc 6 1, 3) := by decide +kernel
theorem dX4_addIndex_154 : decode cX4_addIndex 154 = .ok (.goto (-34), 3) := by decide +kernel
theorem dX4_addIndex_157 : decode cX4_addIndex 157 = .ok (.return_, 1) := by decide +kernel
theorem dX4_addIndexInFibers_0 : decode cX4_addIndexInFibers 0 = .ok (.iconst 0, 1) := by decide +kernel
theorem dX4_addIndexInFibers_1 : decode cX4_addIndexInFibers 1 = .ok (.istore 5, 2) := by decide +kernel
theorem dX4_addIndexInFibers_3 : decode cX4_addIndexInFibers 3 = .ok (.iload 5, 2) := by decide +kernel
theorem dX4_addIndexInFibers_5 : decode cX4_addIndexInFibers 5 = .ok (.aload_n 0, 1) := by decide +kernel
theorem dX4_addIndexInFibers_6 : decode cX4_addIndexInFibers 6 = .ok (.getfield 9, 3) := by decide +kernel
theorem dX4_addIndexInFibers_9 : decode cX4_addIndexInFibers 9 = .ok (.iconst 1, 1) := by decide +kernel
theorem dX4_addIndexInFibers_10 : decode cX4_addIndexInFibers 10 = .ok (.iaload, 1) := by decide +kernel
theorem dX4_addIndexInFibers_11 : decode cX4_addIndexInFibers 11 = .ok (.if_icmp .ge 31, 3) := by decide +kernel
theorem dX4_addIndexInFibers_14 : decode cX4_addIndexInFibers 14 = .ok (.aload_n 0, 1) := by decide +kernel
theorem dX4_addIndexInFibers_15 : decode cX4_addIndexInFibers 15 = .ok (.iload_n 1, 1) := by decide +kernel
theorem dX4_addIndexInFibers_16 : decode cX4_addIndexInFibers 16 = .ok (.iload 5, 2) := by decide +kernel
theorem dX4_addIndexInFibers_18 : decode cX4_addIndexInFibers 18 = .ok (.aload_n 0, 1) := by decide +kernel
theorem dX4_addIndexInFibers_19 : decode cX4_addIndexInFibers 19 = .ok (.aload_n 0, 1) := by decide +kernel
theorem dX4_addIndexInFibers_20 : decode cX4_addIndexInFibers 20 = .ok (.iload_n 1, 1) := by decide +kernel
theorem dX4_addIndexInFibers_21 : decode cX4_addIndexInFibers 21 = .ok (.iload 5, 2) := by decide +kernel
theorem dX4_addIndexInFibers_23 : decode cX4_addIndexInFibers 23 = .ok (.invokevirtual 60, 3) := by decide +kernel
theorem dX4_addIndexInFibers_26 : decode cX4_addIndexInFibers 26 = .ok (.iload_n 2, 1) := by decide +kernel
theorem dX4_addIndexInFibers_27 : decode cX4_addIndexInFibers 27 = .ok (.iload_n 3, 1) := by decide +kernel
theorem dX4_addIndexInFibers_28 : decode cX4_addIndexInFibers 28 = .ok (.iload 4, 2) := by decide +kernel
theorem dX4_addIndexInFibers_30 : decode cX4_addIndexInFibers 30 = .ok (.invokevirtual 114, 3) := by decide +kernel
theorem dX4_addIndexInFibers_33 : decode cX4_addIndexInFibers 33 = .ok (.invokevirtual 71, 3) := by decide +kernel
theorem dX4_addIndexInFibers_36 : decode cX4_addIndexInFibers 36 = .ok (.iinc 5 1, 3) := by decide +kernel
theorem dX4_addIndexInFibers_39 : decode cX4_addIndexInFibers 39 = .ok (.goto (-36), 3) := by decide +kernel
theorem dX4_addIndexInFibers_42 : decode cX4_addIndexInFibers 42 = .ok (.return_, 1) := by decide +kernel
theorem dX4_addedInRow_0 : decode cX4_addedInRow 0 = .ok (.aload_n 0, 1) := by decide +kernel
theorem dX4_addedInRow_1 : decode cX4_addedInRow 1 = .ok (.getfield 27, 3) := by decide +kernel
theorem dX4_addedInRow_4 : decode cX4_addedInRow 4 = .ok (.iload_n 1, 1) := by decide +kernel
theorem dX4_addedInRow_5 : decode cX4_addedInRow 5 = .ok (.iload_n 2, 1) := by decide +kernel
theorem dX4_addedInRow_6 : decode cX4_addedInRow 6 = .ok (.invokevirtual 64, 3) := by decide +kernel
theorem dX4_addedInRow_9 : decode cX4_addedInRow 9 = .ok (.iload 4, 2) := by decide +kernel
theorem dX4_addedInRow_11 : decode cX4_addedInRow 11 = .ok (.aload_n 0, 1) := by decide +kernel
theorem dX4_addedInRow_12 : decode cX4_addedInRow 12 = .ok (.getfield 27, 3) := by decide +kernel
theorem dX4_addedInRow_15 : decode cX4_addedInRow 15 = .ok (.iload_n 1, 1) := by decide +kernel
theorem dX4_addedInRow_16 : decode cX4_addedInRow 16 = .ok (.iload_n 3, 1) := by decide +kernel
theorem dX4_addedInRow_17 : decode cX4_addedInRow 17 = .ok (.invokevirtual 64, 3) := by decide +kernel
theorem dX4_addedInRow_20 : decode cX4_addedInRow 20 = .ok (.imul, 1) := by decide +kernel
theorem dX4_addedInRow_21 : decode cX4_addedInRow 21 = .ok (.iadd, 1) := by decide +kernel
theorem dX4_addedInRow_22 : decode cX4_addedInRow 22 = .ok (.aload_n 0, 1) := by decide +kernel
theorem dX4_addedInRow_23 : decode cX4_addedInRow 23 = .ok (.getfield 27, 3) := by decide +kernel
theorem dX4_addedInRow_26 : decode cX4_addedInRow 26 = .ok (.getfield 104, 3) := by decide +kernel
theorem dX4_addedInRow_29 : decode cX4_addedInRow 29 = .ok (.irem, 1) := by decide +kernel
theorem dX4_addedInRow_30 : decode cX4_addedInRow 30 = .ok (.istore 5, 2) := by decide +kernel
theorem dX4_addedInRow_32 : decode cX4_addedInRow 32 = .ok (.aload_n 0, 1) := by decide +kernel
theorem dX4_addedInRow_33 : decode cX4_addedInRow 33 = .ok (.getfield 27, 3) := by decide +kernel
theorem dX4_addedInRow_36 : decode cX4_addedInRow 36 = .ok (.iload_n 1, 1) := by decide +kernel
theorem dX4_addedInRow_37 : decode cX4_addedInRow 37 = .ok (.iload_n 2, 1) := by decide +kernel
theorem dX4_addedInRow_38 : decode cX4_addedInRow 38 = .ok (.iload 5, 2) := by decide +kernel
theorem dX4_addedInRow_40 : decode cX4_addedInRow 40 = .ok (.invokevirtual 67, 3) := by decide +kernel
theorem dX4_addedInRow_43 : decode cX4_addedInRow 43 = .ok (.ireturn, 1) := by decide +kernel
