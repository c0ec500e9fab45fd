theorem dX9_placeOf_10 : decode cX9_placeOf 10 = .ok (.iadd, 1) := by decide +kernel
theorem dX9_placeOf_11 : decode cX9_placeOf 11 = .ok (.iaload, 1) := by decide +kernel
theorem dX9_placeOf_12 : decode cX9_placeOf 12 = .ok (.if_icmp .ge 21, 3) := by decide +kernel
theorem dX9_placeOf_15 : decode cX9_placeOf 15 = .ok (.aload_n 0, 1) := by decide +kernel
theorem dX9_placeOf_16 : decode cX9_placeOf 16 = .ok (.iload_n 1, 1) := by decide +kernel
theorem dX9_placeOf_17 : decode cX9_placeOf 17 = .ok (.iload_n 3, 1) := by decide +kernel
theorem dX9_placeOf_18 : decode cX9_placeOf 18 = .ok (.invokevirtual 74, 3) := by decide +kernel
theorem dX9_placeOf_21 : decode cX9_placeOf 21 = .ok (.iload_n 2, 1) := by decide +kernel
theorem dX9_placeOf_22 : decode cX9_placeOf 22 = .ok (.if_icmp .ne 5, 3) := by decide +kernel
theorem dX9_placeOf_25 : decode cX9_placeOf 25 = .ok (.iload_n 3, 1) := by decide +kernel
theorem dX9_placeOf_26 : decode cX9_placeOf 26 = .ok (.ireturn, 1) := by decide +kernel
theorem dX9_placeOf_27 : decode cX9_placeOf 27 = .ok (.iinc 3 1, 3) := by decide +kernel
theorem dX9_placeOf_30 : decode cX9_placeOf 30 = .ok (.goto (-28), 3) := by decide +kernel
theorem dX9_placeOf_33 : decode cX9_placeOf 33 = .ok (.iconst (-1), 1) := by decide +kernel
theorem dX9_placeOf_34 : decode cX9_placeOf 34 = .ok (.ireturn, 1) := by decide +kernel
theorem dX9_forgets_0 : decode cX9_forgets 0 = .ok (.aload_n 0, 1) := by decide +kernel
theorem dX9_forgets_1 : decode cX9_forgets 1 = .ok (.getfield 7, 3) := by decide +kernel
theorem dX9_forgets_4 : decode cX9_forgets 4 = .ok (.bipush 53, 2) := by decide +kernel
theorem dX9_forgets_6 : decode cX9_forgets 6 = .ok (.iload_n 1, 1) := by decide +kernel
theorem dX9_forgets_7 : decode cX9_forgets 7 = .ok (.iadd, 1) := by decide +kernel
theorem dX9_forgets_8 : decode cX9_forgets 8 = .ok (.dup2, 1) := by decide +kernel
theorem dX9_forgets_9 : decode cX9_forgets 9 = .ok (.iaload, 1) := by decide +kernel
theorem dX9_forgets_10 : decode cX9_forgets 10 = .ok (.iconst 1, 1) := by decide +kernel
theorem dX9_forgets_11 : decode cX9_forgets 11 = .ok (.isub, 1) := by decide +kernel
theorem dX9_forgets_12 : decode cX9_forgets 12 = .ok (.iastore, 1) := by decide +kernel
theorem dX9_forgets_13 : decode cX9_forgets 13 = .ok (.aload_n 0, 1) := by decide +kernel
theorem dX9_forgets_14 : decode cX9_forgets 14 = .ok (.getfield 7, 3) := by decide +kernel
theorem dX9_forgets_17 : decode cX9_forgets 17 = .ok (.bipush 53, 2) := by decide +kernel
theorem dX9_forgets_19 : decode cX9_forgets 19 = .ok (.iload_n 1, 1) := by decide +kernel
theorem dX9_forgets_20 : decode cX9_forgets 20 = .ok (.iadd, 1) := by decide +kernel
theorem dX9_forgets_21 : decode cX9_forgets 21 = .ok (.iaload, 1) := by decide +kernel
theorem dX9_forgets_22 : decode cX9_forgets 22 = .ok (.istore_n 3, 1) := by decide +kernel
theorem dX9_forgets_23 : decode cX9_forgets 23 = .ok (.aload_n 0, 1) := by decide +kernel
theorem dX9_forgets_24 : decode cX9_forgets 24 = .ok (.getfield 7, 3) := by decide +kernel
theorem dX9_forgets_27 : decode cX9_forgets 27 = .ok (.bipush 57, 2) := by decide +kernel
theorem dX9_forgets_29 : decode cX9_forgets 29 = .ok (.bipush 16, 2) := by decide +kernel
theorem dX9_forgets_31 : decode cX9_forgets 31 = .ok (.iload_n 1, 1) := by decide +kernel
theorem dX9_forgets_32 : decode cX9_forgets 32 = .ok (.imul, 1) := by decide +kernel
theorem dX9_forgets_33 : decode cX9_forgets 33 = .ok (.iadd, 1) := by decide +kernel
theorem dX9_forgets_34 : decode cX9_forgets 34 = .ok (.iload_n 2, 1) := by decide +kernel
theorem dX9_forgets_35 : decode cX9_forgets 35 = .ok (.iadd, 1) := by decide +kernel
theorem dX9_forgets_36 : decode cX9_forgets 36 = .ok (.aload_n 0, 1) := by decide +kernel
theorem dX9_forgets_37 : decode cX9_forgets 37 = .ok (.iload_n 1, 1) := by decide +kernel
theorem dX9_forgets_38 : decode cX9_forgets 38 = .ok (.iload_n 3, 1) := by decide +kernel
theorem dX9_forgets_39 : decode cX9_forgets 39 = .ok (.invokevirtual 74, 3) := by decide +kernel
theorem dX9_forgets_42 : decode cX9_forgets 42 = .ok (.iastore, 1) := by decide +kernel
theorem dX9_forgets_43 : decode cX9_forgets 43 = .ok (.aload_n 0, 1) := by decide +kernel
theorem dX9_forgets_44 : decode cX9_forgets 44 = .ok (.getfield 7, 3) := by decide +kernel
theorem dX9_forgets_47 : decode cX9_forgets 47 = .ok (.bipush 121, 2) := by decide +kernel
theorem dX9_forgets_49 : decode cX9_forgets 49 = .ok (.bipush 16, 2) := by decide +kernel
theorem dX9_forgets_51 : decode cX9_forgets 51 = .ok (.iload_n 1, 1) := by decide +kernel
theorem dX9_forgets_52 : decode cX9_forgets 52 = .ok (.imul, 1) := by decide +kernel
theorem dX9_forgets_53 : decode cX9_forgets 53 = .ok (.iadd, 1) := by decide +kernel
theorem dX9_forgets_54 : decode cX9_forgets 54 = .ok (.iload_n 2, 1) := by decide +kernel
theorem dX9_forgets_55 : decode cX9_forgets 55 = .ok (.iadd, 1) := by decide +kernel
theorem dX9_forgets_56 : decode cX9_forgets 56 = .ok (.aload_n 0, 1) := by decide +kernel
theorem dX9_forgets_57 : decode cX9_forgets 57 = .ok (.iload_n 1, 1) := by decide +kernel
theorem dX9_forgets_58 : decode cX9_forgets 58 = .ok (.iload_n 3, 1) := by decide +kernel
theorem dX9_forgets_59 : decode cX9_forgets 59 = .ok (.invokevirtual 77, 3) := by decide +kernel
theorem dX9_forgets_62 : decode cX9_forgets 62 = .ok (.iastore, 1) := by decide +kernel
theorem dX9_forgets_63 : decode cX9_forgets 63 = .ok (.aload_n 0, 1) := by decide +kernel
theorem dX9_forgets_64 : decode cX9_forgets 64 = .ok (.getfield 7, 3) := by decide +kernel
theorem dX9_forgets_67 : decode cX9_forgets 67 = .ok (.sipush 185, 3) := by decide +kernel
theorem dX9_forgets_70 : decode cX9_forgets 70 = .ok (.bipush 16, 2) := by decide +kernel
theorem dX9_forgets_72 : decode cX9_forgets 72 = .ok (.iload_n 1, 1) := by decide +kernel
theorem dX9_forgets_73 : decode cX9_forgets 73 = .ok (.imul, 1) := by decide +kernel
theorem dX9_forgets_74 : decode cX9_forgets 74 = .ok (.iadd, 1) := by decide +kernel
theorem dX9_forgets_75 : decode cX9_forgets 75 = .ok (.iload_n 2, 1) := by decide +kernel
theorem dX9_forgets_76 : decode cX9_forgets 76 = .ok (.iadd, 1) := by decide +kernel
theorem dX9_forgets_77 : decode cX9_forgets 77 = .ok (.aload_n 0, 1) := by decide +kernel
theorem dX9_forgets_78 : decode cX9_forgets 78 = .ok (.iload_n 1, 1) := by decide +kernel
theorem dX9_forgets_79 : decode cX9_forgets 79 = .ok (.iload_n 3, 1) := by decide +kernel
theorem dX9_forgets_80 : decode cX9_forgets 80 = .ok (.invokevirtual 80, 3) := by decide +kernel
theorem dX9_forgets_83 : decode cX9_forgets 83 = .ok (.iastore, 1) := by decide +kernel
theorem dX9_forgets_84 : decode cX9_forgets 84 = .ok (.return_, 1) := by decide +kernel
theorem dX9_eldest_0 : decode cX9_eldest 0 = .ok (.iconst 0, 1) := by decide +kernel
theorem dX9_eldest_1 : decode cX9_eldest 1 = .ok (.istore_n 2, 1) := by decide +kernel
theorem dX9_eldest_2 : decode cX9_eldest 2 = .ok (.iconst 1, 1) := by decide +kernel
theorem dX9_eldest_3 : decode cX9_eldest 3 = .ok (.istore_n 3, 1) := by decide +kernel
theorem dX9_eldest_4 : decode cX9_eldest 4 = .ok (.iload_n 3, 1) := by decide +kernel
theorem dX9_eldest_5 : decode cX9_eldest 5 = .ok (.aload_n 0, 1) := by decide +kernel
theorem dX9_eldest_6 : decode cX9_eldest 6 = .ok (.getfield 7, 3) := by decide +kernel
theorem dX9_eldest_9 : decode cX9_eldest 9 = .ok (.bipush 53, 2) := by decide +kernel
theorem dX9_eldest_11 : decode cX9_eldest 11 = .ok (.iload_n 1, 1) := by decide +kernel
theorem dX9_eldest_12 : decode cX9_eldest 12 = .ok (.iadd, 1) := by decide +kernel
theorem dX9_eldest_13 : decode cX9_eldest 13 = .ok (.iaload, 1) := by decide +kernel
theorem dX9_eldest_14 : decode cX9_eldest 14 = .ok (.if_icmp .ge 72, 3) := by decide +kernel
theorem dX9_eldest_17 : decode cX9_eldest 17 = .ok (.aload_n 0, 1) := by decide +kernel
theorem dX9_eldest_18 : decode cX9_eldest 18 = .ok (.iload_n 1, 1) := by decide +kernel
theorem dX9_eldest_19 : decode cX9_eldest 19 = .ok (.iload_n 3, 1) := by decide +kernel
theorem dX9_eldest_20 : decode cX9_eldest 20 = .ok (.invokevirtual 80, 3) := by decide +kernel
theorem dX9_eldest_23 : decode cX9_eldest 23 = .ok (.aload_n 0, 1) := by decide +kernel
theorem dX9_eldest_24 : decode cX9_eldest 24 = .ok (.iload_n 1, 1) := by decide +kernel
theorem dX9_eldest_25 : decode cX9_eldest 25 = .ok (.iload_n 2, 1) := by decide +kernel
theorem dX9_eldest_26 : decode cX9_eldest 26 = .ok (.invokevirtual 80, 3) := by decide +kernel
theorem dX9_eldest_29 : decode cX9_eldest 29 = .ok (.if_icmp .lt 33, 3) := by decide +kernel
theorem dX9_eldest_32 : decode cX9_eldest 32 = .ok (.aload_n 0, 1) := by decide +kernel
theorem dX9_eldest_33 : decode cX9_eldest 33 = .ok (.iload_n 1, 1) := by decide +kernel
theorem dX9_eldest_34 : decode cX9_eldest 34 = .ok (.iload_n 3, 1) := by decide +kernel
theorem dX9_eldest_35 : decode cX9_eldest 35 = .ok (.invokevirtual 80, 3) := by decide +kernel
theorem dX9_eldest_38 : decode cX9_eldest 38 = .ok (.aload_n 0, 1) := by decide +kernel
theorem dX9_eldest_39 : decode cX9_eldest 39 = .ok (.iload_n 1, 1) := by decide +kernel
theorem dX9_eldest_40 : decode cX9_eldest 40 = .ok (.iload_n 2, 1) := by decide +kernel
theorem dX9_eldest_41 : decode cX9_eldest 41 = .ok (.invokevirtual 80, 3) := by decide +kernel
theorem dX9_eldest_44 : decode cX9_eldest 44 = .ok (.if_icmp .ne 22, 3) := by decide +kernel
theorem dX9_eldest_47 : decode cX9_eldest 47 = .ok (.aload_n 0, 1) := by decide +kernel
theorem dX9_eldest_48 : decode cX9_eldest 48 = .ok (.iload_n 1, 1) := by decide +kernel
theorem dX9_eldest_49 : decode cX9_eldest 49 = .ok (.iload_n 3, 1) := by decide +kernel
theorem dX9_eldest_50 : decode cX9_eldest 50 = .ok (.invokevirtual 74, 3) := by decide +kernel
theorem dX9_eldest_53 : decode cX9_eldest 53 = .ok (.aload_n 0, 1) := by decide +kernel
theorem dX9_eldest_54 : decode cX9_eldest 54 = .ok (.iload_n 1, 1) := by decide +kernel
theorem dX9_eldest_55 : decode cX9_eldest 55 = .ok (.iload_n 2, 1) := by decide +kernel
theorem dX9_eldest_56 : decode cX9_eldest 56 = .ok (.invokevirtual 74, 3) := by decide +kernel
theorem dX9_eldest_59 : decode cX9_eldest 59 = .ok (.if_icmp .ge 7, 3) := by decide +kernel
theorem dX9_eldest_62 : decode cX9_eldest 62 = .ok (.iconst 1, 1) := by decide +kernel
theorem dX9_eldest_63 : decode cX9_eldest 63 = .ok (.goto 4, 3) := by decide +kernel
theorem dX9_eldest_66 : decode cX9_eldest 66 = .ok (.iconst 0, 1) := by decide +kernel
theorem dX9_eldest_67 : decode cX9_eldest 67 = .ok (.istore 4, 2) := by decide +kernel
theorem dX9_eldest_69 : decode cX9_eldest 69 = .ok (.iload 4, 2) := by decide +kernel
theorem dX9_eldest_71 : decode cX9_eldest 71 = .ok (.ifCond .eq 7, 3) := by decide +kernel
theorem dX9_eldest_74 : decode cX9_eldest 74 = .ok (.iload_n 3, 1) := by decide +kernel
theorem dX9_eldest_75 : decode cX9_eldest 75 = .ok (.goto 4, 3) := by decide +kernel
theorem dX9_eldest_78 : decode cX9_eldest 78 = .ok (.iload_n 2, 1) := by decide +kernel
theorem dX9_eldest_79 : decode cX9_eldest 79 = .ok (.istore_n 2, 1) := by decide +kernel
theorem dX9_eldest_80 : decode cX9_eldest 80 = .ok (.iinc 3 1, 3) := by decide +kernel
theorem dX9_eldest_83 : decode cX9_eldest 83 = .ok (.goto (-79), 3) := by decide +kernel
theorem dX9_eldest_86 : decode cX9_eldest 86 = .ok (.iload_n 2, 1) := by decide +kernel
theorem dX9_eldest_87 : decode cX9_eldest 87 = .ok (.ireturn, 1) := by decide +kernel
theorem dX9_ages_0 : decode cX9_ages 0 = .ok (.iconst 0, 1) := by decide +kernel
theorem dX9_ages_1 : decode cX9_ages 1 = .ok (.istore_n 1, 1) := by decide +kernel
theorem dX9_ages_2 : decode cX9_ages 2 = .ok (.iload_n 1, 1) := by decide +kernel
theorem dX9_ages_3 : decode cX9_ages 3 = .ok (.iconst 4, 1) := by decide +kernel
theorem dX9_ages_4 : decode cX9_ages 4 = .ok (.if_icmp .ge 59, 3) := by decide +kernel
theorem dX9_ages_7 : decode cX9_ages 7 = .ok (.aload_n 0, 1) := by decide +kernel
theorem dX9_ages_8 : decode cX9_ages 8 = .ok (.getfield 7, 3) := by decide +kernel
theorem dX9_ages_11 : decode cX9_ages 11 = .ok (.bipush 53, 2) := by decide +kernel
theorem dX9_ages_13 : decode cX9_ages 13 = .ok (.iload_n 1, 1) := by decide +kernel
theorem dX9_ages_14 : decode cX9_ages 14 = .ok (.iadd, 1) := by decide +kernel
theorem dX9_ages_15 : decode cX9_ages 15 = .ok (.iaload, 1) := by decide +kernel
theorem dX9_ages_16 : decode cX9_ages 16 = .ok (.iconst 1, 1) := by decide +kernel
theorem dX9_ages_17 : decode cX9_ages 17 = .ok (.isub, 1) := by decide +kernel
theorem dX9_ages_18 : decode cX9_ages 18 = .ok (.istore_n 2, 1) := by decide +kernel
theorem dX9_ages_19 : decode cX9_ages 19 = .ok (.iload_n 2, 1) := by decide +kernel
theorem dX9_ages_20 : decode cX9_ages 20 = .ok (.ifCond .lt 37, 3) := by decide +kernel
theorem dX9_ages_23 : decode cX9_ages 23 = .ok (.aload_n 0, 1) := by decide +kernel
theorem dX9_ages_24 : decode cX9_ages 24 = .ok (.getfield 7, 3) := by decide +kernel
theorem dX9_ages_27 : decode cX9_ages 27 = .ok (.iconst 2, 1) := by decide +kernel
theorem dX9_ages_28 : decode cX9_ages 28 = .ok (.iaload, 1) := by decide +kernel
theorem dX9_ages_29 : decode cX9_ages 29 = .ok (.aload_n 0, 1) := by decide +kernel
theorem dX9_ages_30 : decode cX9_ages 30 = .ok (.iload_n 1, 1) := by decide +kernel
theorem dX9_ages_31 : decode cX9_ages 31 = .ok (.iload_n 2, 1) := by decide +kernel
theorem dX9_ages_32 : decode cX9_ages 32 = .ok (.invokevirtual 80, 3) := by decide +kernel
theorem dX9_ages_35 : decode cX9_ages 35 = .ok (.isub, 1) := by decide +kernel
theorem dX9_ages_36 : decode cX9_ages 36 = .ok (.aload_n 0, 1) := by decide +kernel
theorem dX9_ages_37 : decode cX9_ages 37 = .ok (.getfield 7, 3) := by decide +kernel
theorem dX9_ages_40 : decode cX9_ages 40 = .ok (.iconst 4, 1) := by decide +kernel
theorem dX9_ages_41 : decode cX9_ages 41 = .ok (.iaload, 1) := by decide +kernel
theorem dX9_ages_42 : decode cX9_ages 42 = .ok (.if_icmp .le 9, 3) := by decide +kernel
theorem dX9_ages_45 : decode cX9_ages 45 = .ok (.aload_n 0, 1) := by decide +kernel
theorem dX9_ages_46 : decode cX9_ages 46 = .ok (.iload_n 1, 1) := by decide +kernel
theorem dX9_ages_47 : decode cX9_ages 47 = .ok (.iload_n 2, 1) := by decide +kernel
theorem dX9_ages_48 : decode cX9_ages 48 = .ok (.invokevirtual 83, 3) := by decide +kernel
theorem dX9_ages_51 : decode cX9_ages 51 = .ok (.iinc 2 (-1), 3) := by decide +kernel
theorem dX9_ages_54 : decode cX9_ages 54 = .ok (.goto (-35), 3) := by decide +kernel
theorem dX9_ages_57 : decode cX9_ages 57 = .ok (.iinc 1 1, 3) := by decide +kernel
theorem dX9_ages_60 : decode cX9_ages 60 = .ok (.goto (-58), 3) := by decide +kernel
theorem dX9_ages_63 : decode cX9_ages 63 = .ok (.return_, 1) := by decide +kernel
theorem dX9_fits_0 : decode cX9_fits 0 = .ok (.iconst 0, 1) := by decide +kernel
theorem dX9_fits_1 : decode cX9_fits 1 = .ok (.istore_n 1, 1) := by decide +kernel
theorem dX9_fits_2 : decode cX9_fits 2 = .ok (.iload_n 1, 1) := by decide +kernel
theorem dX9_fits_3 : decode cX9_fits 3 = .ok (.iconst 4, 1) := by decide +kernel
theorem dX9_fits_4 : decode cX9_fits 4 = .ok (.if_icmp .ge 40, 3) := by decide +kernel
theorem dX9_fits_7 : decode cX9_fits 7 = .ok (.aload_n 0, 1) := by decide +kernel
theorem dX9_fits_8 : decode cX9_fits 8 = .ok (.getfield 7, 3) := by decide +kernel
theorem dX9_fits_11 : decode cX9_fits 11 = .ok (.bipush 53, 2) := by decide +kernel
theorem dX9_fits_13 : decode cX9_fits 13 = .ok (.iload_n 1, 1) := by decide +kernel
theorem dX9_fits_14 : decode cX9_fits 14 = .ok (.iadd, 1) := by decide +kernel
theorem dX9_fits_15 : decode cX9_fits 15 = .ok (.iaload, 1) := by decide +kernel
theorem dX9_fits_16 : decode cX9_fits 16 = .ok (.aload_n 0, 1) := by decide +kernel
theorem dX9_fits_17 : decode cX9_fits 17 = .ok (.getfield 7, 3) := by decide +kernel
theorem dX9_fits_20 : decode cX9_fits 20 = .ok (.iconst 3, 1) := by decide +kernel
theorem dX9_fits_21 : decode cX9_fits 21 = .ok (.iaload, 1) := by decide +kernel
theorem dX9_fits_22 : decode cX9_fits 22 = .ok (.if_icmp .le 16, 3) := by decide +kernel
theorem dX9_fits_25 : decode cX9_fits 25 = .ok (.aload_n 0, 1) := by decide +kernel
theorem dX9_fits_26 : decode cX9_fits 26 = .ok (.iload_n 1, 1) := by decide +kernel
theorem dX9_fits_27 : decode cX9_fits 27 = .ok (.aload_n 0, 1) := by decide +kernel
theorem dX9_fits_28 : decode cX9_fits 28 = .ok (.iload_n 1, 1) := by decide +kernel
theorem dX9_fits_29 : decode cX9_fits 29 = .ok (.invokevirtual 86, 3) := by decide +kernel
theorem dX9_fits_32 : decode cX9_fits 32 = .ok (.invokevirtual 83, 3) := by decide +kernel
theorem dX9_fits_35 : decode cX9_fits 35 = .ok (.goto (-28), 3) := by decide +kernel
theorem dX9_fits_38 : decode cX9_fits 38 = .ok (.iinc 1 1, 3) := by decide +kernel
theorem dX9_fits_41 : decode cX9_fits 41 = .ok (.goto (-39), 3) := by decide +kernel
theorem dX9_fits_44 : decode cX9_fits 44 = .ok (.return_, 1) := by decide +kernel
theorem dX9_slotOf_0 : decode cX9_slotOf 0 = .ok (.iload_n 1, 1) := by decide +kernel
theorem dX9_slotOf_1 : decode cX9_slotOf 1 = .ok (.ldc 90, 2) := by decide +kernel
theorem dX9_slotOf_3 : decode cX9_slotOf 3 = .ok (.invokestatic 45, 3) := by decide +kernel
theorem dX9_slotOf_6 : decode cX9_slotOf 6 = .ok (.aload_n 0, 1) := by decide +kernel
theorem dX9_slotOf_7 : decode cX9_slotOf 7 = .ok (.getfield 7, 3) := by decide +kernel
theorem dX9_slotOf_10 : decode cX9_slotOf 10 = .ok (.iconst 0, 1) := by decide +kernel
theorem dX9_slotOf_11 : decode cX9_slotOf 11 = .ok (.iaload, 1) := by decide +kernel
theorem dX9_slotOf_12 : decode cX9_slotOf 12 = .ok (.irem, 1) := by decide +kernel
theorem dX9_slotOf_13 : decode cX9_slotOf 13 = .ok (.ireturn, 1) := by decide +kernel
theorem dX9_goesTo_0 : decode cX9_goesTo 0 = .ok (.aload_n 0, 1) := by decide +kernel
theorem dX9_goesTo_1 : decode cX9_goesTo 1 = .ok (.iload_n 1, 1) := by decide +kernel
theorem dX9_goesTo_2 : decode cX9_goesTo 2 = .ok (.iload_n 2, 1) := by decide +kernel
theorem dX9_goesTo_3 : decode cX9_goesTo 3 = .ok (.invokevirtual 91, 3) := by decide +kernel
theorem dX9_goesTo_6 : decode cX9_goesTo 6 = .ok (.istore_n 3, 1) := by decide +kernel
theorem dX9_goesTo_7 : decode cX9_goesTo 7 = .ok (.iload_n 3, 1) := by decide +kernel
theorem dX9_goesTo_8 : decode cX9_goesTo 8 = .ok (.iconst (-1), 1) := by decide +kernel
theorem dX9_goesTo_9 : decode cX9_goesTo 9 = .ok (.if_icmp .eq 24, 3) := by decide +kernel
theorem dX9_goesTo_12 : decode cX9_goesTo 12 = .ok (.aload_n 0, 1) := by decide +kernel
theorem dX9_goesTo_13 : decode cX9_goesTo 13 = .ok (.iload_n 1, 1) := by decide +kernel
theorem dX9_goesTo_14 : decode cX9_goesTo 14 = .ok (.aload_n 0, 1) := by decide +kernel
theorem dX9_goesTo_15 : decode cX9_goesTo 15 = .ok (.iload_n 1, 1) := by decide +kernel
theorem dX9_goesTo_16 : decode cX9_goesTo 16 = .ok (.iload_n 3, 1) := by decide +kernel
theorem dX9_goesTo_17 : decode cX9_goesTo 17 = .ok (.invokevirtual 77, 3) := by decide +kernel
theorem dX9_goesTo_20 : decode cX9_goesTo 20 = .ok (.invokevirtual 50, 3) := by decide +kernel
theorem dX9_goesTo_23 : decode cX9_goesTo 23 = .ok (.ifCond .eq 10, 3) := by decide +kernel
theorem dX9_goesTo_26 : decode cX9_goesTo 26 = .ok (.aload_n 0, 1) := by decide +kernel
theorem dX9_goesTo_27 : decode cX9_goesTo 27 = .ok (.iload_n 1, 1) := by decide +kernel
theorem dX9_goesTo_28 : decode cX9_goesTo 28 = .ok (.iload_n 3, 1) := by decide +kernel
theorem dX9_goesTo_29 : decode cX9_goesTo 29 = .ok (.invokevirtual 77, 3) := by decide +kernel
theorem dX9_goesTo_32 : decode cX9_goesTo 32 = .ok (.ireturn, 1) := by decide +kernel
theorem dX9_goesTo_33 : decode cX9_goesTo 33 = .ok (.aload_n 0, 1) := by decide +kernel
theorem dX9_goesTo_34 : decode cX9_goesTo 34 = .ok (.iload_n 1, 1) := by decide +kernel
theorem dX9_goesTo_35 : decode cX9_goesTo 35 = .ok (.invokevirtual 94, 3) := by decide +kernel
theorem dX9_goesTo_38 : decode cX9_goesTo 38 = .ok (.aload_n 0, 1) := by decide +kernel
theorem dX9_goesTo_39 : decode cX9_goesTo 39 = .ok (.getfield 16, 3) := by decide +kernel
theorem dX9_goesTo_42 : decode cX9_goesTo 42 = .ok (.aload_n 0, 1) := by decide +kernel
theorem dX9_goesTo_43 : decode cX9_goesTo 43 = .ok (.iload_n 2, 1) := by decide +kernel
theorem dX9_goesTo_44 : decode cX9_goesTo 44 = .ok (.invokevirtual 97, 3) := by decide +kernel
theorem dX9_goesTo_47 : decode cX9_goesTo 47 = .ok (.iaload, 1) := by decide +kernel
theorem dX9_goesTo_48 : decode cX9_goesTo 48 = .ok (.ireturn, 1) := by decide +kernel
theorem dX9_packs_0 : decode cX9_packs 0 = .ok (.aload_n 0, 1) := by decide +kernel
theorem dX9_packs_1 : decode cX9_packs 1 = .ok (.iload_n 1, 1) := by decide +kernel
theorem dX9_packs_2 : decode cX9_packs 2 = .ok (.iload_n 2, 1) := by decide +kernel
theorem dX9_packs_3 : decode cX9_packs 3 = .ok (.invokevirtual 100, 3) := by decide +kernel
theorem dX9_packs_6 : decode cX9_packs 6 = .ok (.istore_n 3, 1) := by decide +kernel
theorem dX9_packs_7 : decode cX9_packs 7 = .ok (.aload_n 0, 1) := by decide +kernel
theorem dX9_packs_8 : decode cX9_packs 8 = .ok (.iload_n 1, 1) := by decide +kernel
theorem dX9_packs_9 : decode cX9_packs 9 = .ok (.iload_n 2, 1) := by decide +kernel
theorem dX9_packs_10 : decode cX9_packs 10 = .ok (.invokevirtual 91, 3) := by decide +kernel
theorem dX9_packs_13 : decode cX9_packs 13 = .ok (.istore 4, 2) := by decide +kernel
theorem dX9_packs_15 : decode cX9_packs 15 = .ok (.iload_n 3, 1) := by decide +kernel
theorem dX9_packs_16 : decode cX9_packs 16 = .ok (.iconst (-1), 1) := by decide +kernel
theorem dX9_packs_17 : decode cX9_packs 17 = .ok (.if_icmp .ne 18, 3) := by decide +kernel
theorem dX9_packs_20 : decode cX9_packs 20 = .ok (.iload 4, 2) := by decide +kernel
theorem dX9_packs_22 : decode cX9_packs 22 = .ok (.iconst (-1), 1) := by decide +kernel
theorem dX9_packs_23 : decode cX9_packs 23 = .ok (.if_icmp .eq 10, 3) := by decide +kernel
theorem dX9_packs_26 : decode cX9_packs 26 = .ok (.aload_n 0, 1) := by decide +kernel
theorem dX9_packs_27 : decode cX9_packs 27 = .ok (.iload_n 1, 1) := by decide +kernel
theorem dX9_packs_28 : decode cX9_packs 28 = .ok (.iload 4, 2) := by decide +kernel
theorem dX9_packs_30 : decode cX9_packs 30 = .ok (.invokevirtual 83, 3) := by decide +kernel
theorem dX9_packs_33 : decode cX9_packs 33 = .ok (.iconst (-1), 1) := by decide +kernel
theorem dX9_packs_34 : decode cX9_packs 34 = .ok (.ireturn, 1) := by decide +kernel
theorem dX9_packs_35 : decode cX9_packs 35 = .ok (.iload 4, 2) := by decide +kernel
theorem dX9_packs_37 : decode cX9_packs 37 = .ok (.iconst (-1), 1) := by decide +kernel
theorem dX9_packs_38 : decode cX9_packs 38 = .ok (.if_icmp .ne 55, 3) := by decide +kernel
theorem dX9_packs_41 : decode cX9_packs 41 = .ok (.aload_n 0, 1) := by decide +kernel
theorem dX9_packs_42 : decode cX9_packs 42 = .ok (.getfield 7, 3) := by decide +kernel
theorem dX9_packs_45 : decode cX9_packs 45 = .ok (.bipush 53, 2) := by decide +kernel
theorem dX9_packs_47 : decode cX9_packs 47 = .ok (.iload_n 1, 1) := by decide +kernel
theorem dX9_packs_48 : decode cX9_packs 48 = .ok (.iadd, 1) := by decide +kernel
theorem dX9_packs_49 : decode cX9_packs 49 = .ok (.iaload, 1) := by decide +kernel
theorem dX9_packs_50 : decode cX9_packs 50 = .ok (.aload_n 0, 1) := by decide +kernel
theorem dX9_packs_51 : decode cX9_packs 51 = .ok (.getfield 7, 3) := by decide +kernel
theorem dX9_packs_54 : decode cX9_packs 54 = .ok (.iconst 3, 1) := by decide +kernel
theorem dX9_packs_55 : decode cX9_packs 55 = .ok (.iaload, 1) := by decide +kernel
theorem dX9_packs_56 : decode cX9_packs 56 = .ok (.if_icmp .ne 13, 3) := by decide +kernel
theorem dX9_packs_59 : decode cX9_packs 59 = .ok (.aload_n 0, 1) := by decide +kernel
theorem dX9_packs_60 : decode cX9_packs 60 = .ok (.iload_n 1, 1) := by decide +kernel
theorem dX9_packs_61 : decode cX9_packs 61 = .ok (.aload_n 0, 1) := by decide +kernel
theorem dX9_packs_62 : decode cX9_packs 62 = .ok (.iload_n 1, 1) := by decide +kernel
theorem dX9_packs_63 : decode cX9_packs 63 = .ok (.invokevirtual 86, 3) := by decide +kernel
theorem dX9_packs_66 : decode cX9_packs 66 = .ok (.invokevirtual 83, 3) := by decide +kernel
theorem dX9_packs_69 : decode cX9_packs 69 = .ok (.aload_n 0, 1) := by decide +kernel
theorem dX9_packs_70 : decode cX9_packs 70 = .ok (.getfield 7, 3) := by decide +kernel
theorem dX9_packs_73 : decode cX9_packs 73 = .ok (.bipush 53, 2) := by decide +kernel
theorem dX9_packs_75 : decode cX9_packs 75 = .ok (.iload_n 1, 1) := by decide +kernel
theorem dX9_packs_76 : decode cX9_packs 76 = .ok (.iadd, 1) := by decide +kernel
theorem dX9_packs_77 : decode cX9_packs 77 = .ok (.iaload, 1) := by decide +kernel
theorem dX9_packs_78 : decode cX9_packs 78 = .ok (.istore 4, 2) := by decide +kernel
theorem dX9_packs_80 : decode cX9_packs 80 = .ok (.aload_n 0, 1) := by decide +kernel
theorem dX9_packs_81 : decode cX9_packs 81 = .ok (.getfield 7, 3) := by decide +kernel
theorem dX9_packs_84 : decode cX9_packs 84 = .ok (.bipush 53, 2) := by decide +kernel
theorem dX9_packs_86 : decode cX9_packs 86 = .ok (.iload_n 1, 1) := by decide +kernel
theorem dX9_packs_87 : decode cX9_packs 87 = .ok (.iadd, 1) := by decide +kernel
theorem dX9_packs_88 : decode cX9_packs 88 = .ok (.dup2, 1) := by decide +kernel
theorem dX9_packs_89 : decode cX9_packs 89 = .ok (.iaload, 1) := by decide +kernel
theorem dX9_packs_90 : decode cX9_packs 90 = .ok (.iconst 1, 1) := by decide +kernel
theorem dX9_packs_91 : decode cX9_packs 91 = .ok (.iadd, 1) := by decide +kernel
theorem dX9_packs_92 : decode cX9_packs 92 = .ok (.iastore, 1) := by decide +kernel
theorem dX9_packs_93 : decode cX9_packs 93 = .ok (.aload_n 0, 1) := by decide +kernel
theorem dX9_packs_94 : decode cX9_packs 94 = .ok (.getfield 7, 3) := by decide +kernel
theorem dX9_packs_97 : decode cX9_packs 97 = .ok (.bipush 57, 2) := by decide +kernel
theorem dX9_packs_99 : decode cX9_packs 99 = .ok (.bipush 16, 2) := by decide +kernel
theorem dX9_packs_101 : decode cX9_packs 101 = .ok (.iload_n 1, 1) := by decide +kernel
theorem dX9_packs_102 : decode cX9_packs 102 = .ok (.imul, 1) := by decide +kernel
theorem dX9_packs_103 : decode cX9_packs 103 = .ok (.iadd, 1) := by decide +kernel
theorem dX9_packs_104 : decode cX9_packs 104 = .ok (.iload 4, 2) := by decide +kernel
theorem dX9_packs_106 : decode cX9_packs 106 = .ok (.iadd, 1) := by decide +kernel
theorem dX9_packs_107 : decode cX9_packs 107 = .ok (.iload_n 2, 1) := by decide +kernel
theorem dX9_packs_108 : decode cX9_packs 108 = .ok (.iastore, 1) := by decide +kernel
theorem dX9_packs_109 : decode cX9_packs 109 = .ok (.aload_n 0, 1) := by decide +kernel
theorem dX9_packs_110 : decode cX9_packs 110 = .ok (.getfield 7, 3) := by decide +kernel
theorem dX9_packs_113 : decode cX9_packs 113 = .ok (.bipush 121, 2) := by decide +kernel
theorem dX9_packs_115 : decode cX9_packs 115 = .ok (.bipush 16, 2) := by decide +kernel
theorem dX9_packs_117 : decode cX9_packs 117 = .ok (.iload_n 1, 1) := by decide +kernel
theorem dX9_packs_118 : decode cX9_packs 118 = .ok (.imul, 1) := by decide +kernel
theorem dX9_packs_119 : decode cX9_packs 119 = .ok (.iadd, 1) := by decide +kernel
theorem dX9_packs_120 : decode cX9_packs 120 = .ok (.iload 4, 2) := by decide +kernel
theorem dX9_packs_122 : decode cX9_packs 122 = .ok (.iadd, 1) := by decide +kernel
theorem dX9_packs_123 : decode cX9_packs 123 = .ok (.iload_n 3, 1) := by decide +kernel
theorem dX9_packs_124 : decode cX9_packs 124 = .ok (.iastore, 1) := by decide +kernel
theorem dX9_packs_125 : decode cX9_packs 125 = .ok (.aload_n 0, 1) := by decide +kernel
theorem dX9_packs_126 : decode cX9_packs 126 = .ok (.getfield 7, 3) := by decide +kernel
theorem dX9_packs_129 : decode cX9_packs 129 = .ok (.sipush 185, 3) := by decide +kernel
theorem dX9_packs_132 : decode cX9_packs 132 = .ok (.bipush 16, 2) := by decide +kernel
theorem dX9_packs_134 : decode cX9_packs 134 = .ok (.iload_n 1, 1) := by decide +kernel
theorem dX9_packs_135 : decode cX9_packs 135 = .ok (.imul, 1) := by decide +kernel
theorem dX9_packs_136 : decode cX9_packs 136 = .ok (.iadd, 1) := by decide +kernel
theorem dX9_packs_137 : decode cX9_packs 137 = .ok (.iload 4, 2) := by decide +kernel
theorem dX9_packs_139 : decode cX9_packs 139 = .ok (.iadd, 1) := by decide +kernel
theorem dX9_packs_140 : decode cX9_packs 140 = .ok (.aload_n 0, 1) := by decide +kernel
theorem dX9_packs_141 : decode cX9_packs 141 = .ok (.getfield 7, 3) := by decide +kernel
theorem dX9_packs_144 : decode cX9_packs 144 = .ok (.iconst 2, 1) := by decide +kernel
theorem dX9_packs_145 : decode cX9_packs 145 = .ok (.iaload, 1) := by decide +kernel
theorem dX9_packs_146 : decode cX9_packs 146 = .ok (.iastore, 1) := by decide +kernel
theorem dX9_packs_147 : decode cX9_packs 147 = .ok (.iload_n 3, 1) := by decide +kernel
theorem dX9_packs_148 : decode cX9_packs 148 = .ok (.ireturn, 1) := by decide +kernel
theorem dX9_sizes_0 : decode cX9_sizes 0 = .ok (.aload_n 0, 1) := by decide +kernel
theorem dX9_sizes_1 : decode cX9_sizes 1 = .ok (.getfield 7, 3) := by decide +kernel
theorem dX9_sizes_4 : decode cX9_sizes 4 = .ok (.iconst 0, 1) := by decide +kernel
theorem dX9_sizes_5 : decode cX9_sizes 5 = .ok (.iload_n 1, 1) := by decide +kernel
theorem dX9_sizes_6 : decode cX9_sizes 6 = .ok (.iastore, 1) := by decide +kernel
theorem dX9_sizes_7 : decode cX9_sizes 7 = .ok (.iconst 0, 1) := by decide +kernel
theorem dX9_sizes_8 : decode cX9_sizes 8 = .ok (.istore_n 2, 1) := by decide +kernel
theorem dX9_sizes_9 : decode cX9_sizes 9 = .ok (.iload_n 2, 1) := by decide +kernel
theorem dX9_sizes_10 : decode cX9_sizes 10 = .ok (.iconst 4, 1) := by decide +kernel
theorem dX9_sizes_11 : decode cX9_sizes 11 = .ok (.if_icmp .ge 20, 3) := by decide +kernel
theorem dX9_sizes_14 : decode cX9_sizes 14 = .ok (.aload_n 0, 1) := by decide +kernel
theorem dX9_sizes_15 : decode cX9_sizes 15 = .ok (.getfield 7, 3) := by decide +kernel
theorem dX9_sizes_18 : decode cX9_sizes 18 = .ok (.sipush 249, 3) := by decide +kernel
theorem dX9_sizes_21 : decode cX9_sizes 21 = .ok (.iload_n 2, 1) := by decide +kernel
theorem dX9_sizes_22 : decode cX9_sizes 22 = .ok (.iadd, 1) := by decide +kernel
theorem dX9_sizes_23 : decode cX9_sizes 23 = .ok (.iconst 0, 1) := by decide +kernel
theorem dX9_sizes_24 : decode cX9_sizes 24 = .ok (.iastore, 1) := by decide +kernel
theorem dX9_sizes_25 : decode cX9_sizes 25 = .ok (.iinc 2 1, 3) := by decide +kernel
theorem dX9_sizes_28 : decode cX9_sizes 28 = .ok (.goto (-19), 3) := by decide +kernel
theorem dX9_sizes_31 : decode cX9_sizes 31 = .ok (.return_, 1) := by decide +kernel
theorem dX9_isKey_0 : decode cX9_isKey 0 = .ok (.iconst 0, 1) := by decide +kernel
theorem dX9_isKey_1 : decode cX9_isKey 1 = .ok (.istore_n 2, 1) := by decide +kernel
theorem dX9_isKey_2 : decode cX9_isKey 2 = .ok (.iload_n 2, 1) := by decide +kernel
theorem dX9_isKey_3 : decode cX9_isKey 3 = .ok (.aload_n 0, 1) := by decide +kernel
theorem dX9_isKey_4 : decode cX9_isKey 4 = .ok (.getfield 7, 3) := by decide +kernel
theorem dX9_isKey_7 : decode cX9_isKey 7 = .ok (.iconst 1, 1) := by decide +kernel
theorem dX9_isKey_8 : decode cX9_isKey 8 = .ok (.iaload, 1) := by decide +kernel
theorem dX9_isKey_9 : decode cX9_isKey 9 = .ok (.if_icmp .ge 23, 3) := by decide +kernel
theorem dX9_isKey_12 : decode cX9_isKey 12 = .ok (.aload_n 0, 1) := by decide +kernel
theorem dX9_isKey_13 : decode cX9_isKey 13 = .ok (.getfield 7, 3) := by decide +kernel
theorem dX9_isKey_16 : decode cX9_isKey 16 = .ok (.iconst 5, 1) := by decide +kernel
theorem dX9_isKey_17 : decode cX9_isKey 17 = .ok (.iload_n 2, 1) := by decide +kernel
theorem dX9_isKey_18 : decode cX9_isKey 18 = .ok (.iadd, 1) := by decide +kernel
theorem dX9_isKey_19 : decode cX9_isKey 19 = .ok (.iaload, 1) := by decide +kernel
theorem dX9_isKey_20 : decode cX9_isKey 20 = .ok (.iload_n 1, 1) := by decide +kernel
theorem dX9_isKey_21 : decode cX9_isKey 21 = .ok (.if_icmp .ne 5, 3) := by decide +kernel
theorem dX9_isKey_24 : decode cX9_isKey 24 = .ok (.iconst 1, 1) := by decide +kernel
theorem dX9_isKey_25 : decode cX9_isKey 25 = .ok (.ireturn, 1) := by decide +kernel
theorem dX9_isKey_26 : decode cX9_isKey 26 = .ok (.iinc 2 1, 3) := by decide +kernel
theorem dX9_isKey_29 : decode cX9_isKey 29 = .ok (.goto (-27), 3) := by decide +kernel
theorem dX9_isKey_32 : decode cX9_isKey 32 = .ok (.iconst 0, 1) := by decide +kernel
theorem dX9_isKey_33 : decode cX9_isKey 33 = .ok (.ireturn, 1) := by decide +kernel
theorem dX9_backs_0 : decode cX9_backs 0 = .ok (.aload_n 0, 1) := by decide +kernel
theorem dX9_backs_1 : decode cX9_backs 1 = .ok (.getfield 7, 3) := by decide +kernel
theorem dX9_backs_4 : decode cX9_backs 4 = .ok (.iconst 1, 1) := by decide +kernel
theorem dX9_backs_5 : decode cX9_backs 5 = .ok (.iaload, 1) := by decide +kernel
theorem dX9_backs_6 : decode cX9_backs 6 = .ok (.istore_n 3, 1) := by decide +kernel
theorem dX9_backs_7 : decode cX9_backs 7 = .ok (.aload_n 0, 1) := by decide +kernel
theorem dX9_backs_8 : decode cX9_backs 8 = .ok (.getfield 7, 3) := by decide +kernel
theorem dX9_backs_11 : decode cX9_backs 11 = .ok (.iconst 5, 1) := by decide +kernel
theorem dX9_backs_12 : decode cX9_backs 12 = .ok (.iload_n 3, 1) := by decide +kernel
theorem dX9_backs_13 : decode cX9_backs 13 = .ok (.iadd, 1) := by decide +kernel
theorem dX9_backs_14 : decode cX9_backs 14 = .ok (.iload_n 1, 1) := by decide +kernel
theorem dX9_backs_15 : decode cX9_backs 15 = .ok (.iastore, 1) := by decide +kernel
theorem dX9_backs_16 : decode cX9_backs 16 = .ok (.aload_n 0, 1) := by decide +kernel
theorem dX9_backs_17 : decode cX9_backs 17 = .ok (.getfield 7, 3) := by decide +kernel
theorem dX9_backs_20 : decode cX9_backs 20 = .ok (.bipush 13, 2) := by decide +kernel
theorem dX9_backs_22 : decode cX9_backs 22 = .ok (.iload_n 3, 1) := by decide +kernel
theorem dX9_backs_23 : decode cX9_backs 23 = .ok (.iadd, 1) := by decide +kernel
theorem dX9_backs_24 : decode cX9_backs 24 = .ok (.iload_n 2, 1) := by decide +kernel
theorem dX9_backs_25 : decode cX9_backs 25 = .ok (.iastore, 1) := by decide +kernel
theorem dX9_backs_26 : decode cX9_backs 26 = .ok (.iconst 0, 1) := by decide +kernel
theorem dX9_backs_27 : decode cX9_backs 27 = .ok (.istore 4, 2) := by decide +kernel
theorem dX9_backs_29 : decode cX9_backs 29 = .ok (.iload 4, 2) := by decide +kernel
theorem dX9_backs_31 : decode cX9_backs 31 = .ok (.iconst 4, 1) := by decide +kernel
theorem dX9_backs_32 : decode cX9_backs 32 = .ok (.if_icmp .ge 25, 3) := by decide +kernel
theorem dX9_backs_35 : decode cX9_backs 35 = .ok (.aload_n 0, 1) := by decide +kernel
theorem dX9_backs_36 : decode cX9_backs 36 = .ok (.getfield 7, 3) := by decide +kernel
theorem dX9_backs_39 : decode cX9_backs 39 = .ok (.bipush 21, 2) := by decide +kernel
theorem dX9_backs_41 : decode cX9_backs 41 = .ok (.bipush 8, 2) := by decide +kernel
theorem dX9_backs_43 : decode cX9_backs 43 = .ok (.iload 4, 2) := by decide +kernel
theorem dX9_backs_45 : decode cX9_backs 45 = .ok (.imul, 1) := by decide +kernel
theorem dX9_backs_46 : decode cX9_backs 46 = .ok (.iadd, 1) := by decide +kernel
theorem dX9_backs_47 : decode cX9_backs 47 = .ok (.iload_n 3, 1) := by decide +kernel
theorem dX9_backs_48 : decode cX9_backs 48 = .ok (.iadd, 1) := by decide +kernel
theorem dX9_backs_49 : decode cX9_backs 49 = .ok (.iconst 1, 1) := by decide +kernel
theorem dX9_backs_50 : decode cX9_backs 50 = .ok (.iastore, 1) := by decide +kernel
theorem dX9_backs_51 : decode cX9_backs 51 = .ok (.iinc 4 1, 3) := by decide +kernel
theorem dX9_backs_54 : decode cX9_backs 54 = .ok (.goto (-25), 3) := by decide +kernel
theorem dX9_backs_57 : decode cX9_backs 57 = .ok (.aload_n 0, 1) := by decide +kernel
theorem dX9_backs_58 : decode cX9_backs 58 = .ok (.getfield 7, 3) := by decide +kernel
theorem dX9_backs_61 : decode cX9_backs 61 = .ok (.iconst 1, 1) := by decide +kernel
theorem dX9_backs_62 : decode cX9_backs 62 = .ok (.dup2, 1) := by decide +kernel
theorem dX9_backs_63 : decode cX9_backs 63 = .ok (.iaload, 1) := by decide +kernel
theorem dX9_backs_64 : decode cX9_backs 64 = .ok (.iconst 1, 1) := by decide +kernel
theorem dX9_backs_65 : decode cX9_backs 65 = .ok (.iadd, 1) := by decide +kernel
theorem dX9_backs_66 : decode cX9_backs 66 = .ok (.iastore, 1) := by decide +kernel
theorem dX9_backs_67 : decode cX9_backs 67 = .ok (.iload_n 3, 1) := by decide +kernel
theorem dX9_backs_68 : decode cX9_backs 68 = .ok (.ireturn, 1) := by decide +kernel
theorem dX9_seesSo_0 : decode cX9_seesSo 0 = .ok (.iconst 0, 1) := by decide +kernel
theorem dX9_seesSo_1 : decode cX9_seesSo 1 = .ok (.istore 4, 2) := by decide +kernel
theorem dX9_seesSo_3 : decode cX9_seesSo 3 = .ok (.iconst 0, 1) := by decide +kernel
theorem dX9_seesSo_4 : decode cX9_seesSo 4 = .ok (.istore 5, 2) := by decide +kernel
theorem dX9_seesSo_6 : decode cX9_seesSo 6 = .ok (.iload 5, 2) := by decide +kernel
theorem dX9_seesSo_8 : decode cX9_seesSo 8 = .ok (.iconst 4, 1) := by decide +kernel
theorem dX9_seesSo_9 : decode cX9_seesSo 9 = .ok (.if_icmp .ge 50, 3) := by decide +kernel
theorem dX9_seesSo_12 : decode cX9_seesSo 12 = .ok (.iload_n 1, 1) := by decide +kernel
theorem dX9_seesSo_13 : decode cX9_seesSo 13 = .ok (.iconst (-1), 1) := by decide +kernel
theorem dX9_seesSo_14 : decode cX9_seesSo 14 = .ok (.if_icmp .eq 9, 3) := by decide +kernel
theorem dX9_seesSo_17 : decode cX9_seesSo 17 = .ok (.iload_n 1, 1) := by decide +kernel
theorem dX9_seesSo_18 : decode cX9_seesSo 18 = .ok (.iload 5, 2) := by decide +kernel
theorem dX9_seesSo_20 : decode cX9_seesSo 20 = .ok (.if_icmp .ne 33, 3) := by decide +kernel
theorem dX9_seesSo_23 : decode cX9_seesSo 23 = .ok (.aload_n 0, 1) := by decide +kernel
theorem dX9_seesSo_24 : decode cX9_seesSo 24 = .ok (.iload 5, 2) := by decide +kernel
theorem dX9_seesSo_26 : decode cX9_seesSo 26 = .ok (.iload_n 2, 1) := by decide +kernel
theorem dX9_seesSo_27 : decode cX9_seesSo 27 = .ok (.invokevirtual 50, 3) := by decide +kernel
theorem dX9_seesSo_30 : decode cX9_seesSo 30 = .ok (.iload_n 3, 1) := by decide +kernel
theorem dX9_seesSo_31 : decode cX9_seesSo 31 = .ok (.if_icmp .eq 22, 3) := by decide +kernel
theorem dX9_seesSo_34 : decode cX9_seesSo 34 = .ok (.aload_n 0, 1) := by decide +kernel
theorem dX9_seesSo_35 : decode cX9_seesSo 35 = .ok (.getfield 7, 3) := by decide +kernel
theorem dX9_seesSo_38 : decode cX9_seesSo 38 = .ok (.bipush 21, 2) := by decide +kernel
theorem dX9_seesSo_40 : decode cX9_seesSo 40 = .ok (.bipush 8, 2) := by decide +kernel
theorem dX9_seesSo_42 : decode cX9_seesSo 42 = .ok (.iload 5, 2) := by decide +kernel
theorem dX9_seesSo_44 : decode cX9_seesSo 44 = .ok (.imul, 1) := by decide +kernel
theorem dX9_seesSo_45 : decode cX9_seesSo 45 = .ok (.iadd, 1) := by decide +kernel
theorem dX9_seesSo_46 : decode cX9_seesSo 46 = .ok (.iload_n 2, 1) := by decide +kernel
theorem dX9_seesSo_47 : decode cX9_seesSo 47 = .ok (.iadd, 1) := by decide +kernel
theorem dX9_seesSo_48 : decode cX9_seesSo 48 = .ok (.iload_n 3, 1) := by decide +kernel
theorem dX9_seesSo_49 : decode cX9_seesSo 49 = .ok (.iastore, 1) := by decide +kernel
theorem dX9_seesSo_50 : decode cX9_seesSo 50 = .ok (.iinc 4 1, 3) := by decide +kernel
theorem dX9_seesSo_53 : decode cX9_seesSo 53 = .ok (.iinc 5 1, 3) := by decide +kernel
theorem dX9_seesSo_56 : decode cX9_seesSo 56 = .ok (.goto (-50), 3) := by decide +kernel
theorem dX9_seesSo_59 : decode cX9_seesSo 59 = .ok (.iload 4, 2) := by decide +kernel
theorem dX9_seesSo_61 : decode cX9_seesSo 61 = .ok (.ireturn, 1) := by decide +kernel
theorem dX9_ticks_0 : decode cX9_ticks 0 = .ok (.aload_n 0, 1) := by decide +kernel
theorem dX9_ticks_1 : decode cX9_ticks 1 = .ok (.getfield 7, 3) := by decide +kernel
theorem dX9_ticks_4 : decode cX9_ticks 4 = .ok (.iconst 2, 1) := by decide +kernel
theorem dX9_ticks_5 : decode cX9_ticks 5 = .ok (.dup2, 1) := by decide +kernel
theorem dX9_ticks_6 : decode cX9_ticks 6 = .ok (.iaload, 1) := by decide +kernel
theorem dX9_ticks_7 : decode cX9_ticks 7 = .ok (.iload_n 1, 1) := by decide +kernel
theorem dX9_ticks_8 : decode cX9_ticks 8 = .ok (.iadd, 1) := by decide +kernel
theorem dX9_ticks_9 : decode cX9_ticks 9 = .ok (.iastore, 1) := by decide +kernel
theorem dX9_ticks_10 : decode cX9_ticks 10 = .ok (.aload_n 0, 1) := by decide +kernel
theorem dX9_ticks_11 : decode cX9_ticks 11 = .ok (.invokevirtual 103, 3) := by decide +kernel
theorem dX9_ticks_14 : decode cX9_ticks 14 = .ok (.aload_n 0, 1) := by decide +kernel
theorem dX9_ticks_15 : decode cX9_ticks 15 = .ok (.getfield 7, 3) := by decide +kernel
theorem dX9_ticks_18 : decode cX9_ticks 18 = .ok (.iconst 2, 1) := by decide +kernel
theorem dX9_ticks_19 : decode cX9_ticks 19 = .ok (.iaload, 1) := by decide +kernel
theorem dX9_ticks_20 : decode cX9_ticks 20 = .ok (.ireturn, 1) := by decide +kernel
theorem dX9_holds_0 : decode cX9_holds 0 = .ok (.aload_n 0, 1) := by decide +kernel
theorem dX9_holds_1 : decode cX9_holds 1 = .ok (.getfield 7, 3) := by decide +kernel
theorem dX9_holds_4 : decode cX9_holds 4 = .ok (.iconst 3, 1) := by decide +kernel
theorem dX9_holds_5 : decode cX9_holds 5 = .ok (.iload_n 1, 1) := by decide +kernel
theorem dX9_holds_6 : decode cX9_holds 6 = .ok (.iadd, 1) := by decide +kernel
theorem dX9_holds_7 : decode cX9_holds 7 = .ok (.iload_n 2, 1) := by decide +kernel
theorem dX9_holds_8 : decode cX9_holds 8 = .ok (.iastore, 1) := by decide +kernel
theorem dX9_holds_9 : decode cX9_holds 9 = .ok (.aload_n 0, 1) := by decide +kernel
theorem dX9_holds_10 : decode cX9_holds 10 = .ok (.invokevirtual 103, 3) := by decide +kernel
theorem dX9_holds_13 : decode cX9_holds 13 = .ok (.aload_n 0, 1) := by decide +kernel
theorem dX9_holds_14 : decode cX9_holds 14 = .ok (.invokevirtual 106, 3) := by decide +kernel
theorem dX9_holds_17 : decode cX9_holds 17 = .ok (.return_, 1) := by decide +kernel
theorem dX9_canHold_0 : decode cX9_canHold 0 = .ok (.iload_n 0, 1) := by decide +kernel
theorem dX9_canHold_1 : decode cX9_canHold 1 = .ok (.ifCond .ne 13, 3) := by decide +kernel
theorem dX9_canHold_4 : decode cX9_canHold 4 = .ok (.iload_n 1, 1) := by decide +kernel
theorem dX9_canHold_5 : decode cX9_canHold 5 = .ok (.iconst 1, 1) := by decide +kernel
theorem dX9_canHold_6 : decode cX9_canHold 6 = .ok (.bipush 16, 2) := by decide +kernel
theorem dX9_canHold_8 : decode cX9_canHold 8 = .ok (.invokestatic 39, 3) := by decide +kernel
theorem dX9_canHold_11 : decode cX9_canHold 11 = .ok (.goto 23, 3) := by decide +kernel
theorem dX9_canHold_14 : decode cX9_canHold 14 = .ok (.iload_n 0, 1) := by decide +kernel
theorem dX9_canHold_15 : decode cX9_canHold 15 = .ok (.iconst 1, 1) := by decide +kernel
theorem dX9_canHold_16 : decode cX9_canHold 16 = .ok (.if_icmp .ne 17, 3) := by decide +kernel
theorem dX9_canHold_19 : decode cX9_canHold 19 = .ok (.iload_n 1, 1) := by decide +kernel
theorem dX9_canHold_20 : decode cX9_canHold 20 = .ok (.iconst 0, 1) := by decide +kernel
theorem dX9_canHold_21 : decode cX9_canHold 21 = .ok (.bipush 99, 2) := by decide +kernel
theorem dX9_canHold_23 : decode cX9_canHold 23 = .ok (.invokestatic 39, 3) := by decide +kernel
theorem dX9_canHold_26 : decode cX9_canHold 26 = .ok (.ifCond .eq 7, 3) := by decide +kernel
theorem dX9_canHold_29 : decode cX9_canHold 29 = .ok (.iconst 1, 1) := by decide +kernel
theorem dX9_canHold_30 : decode cX9_canHold 30 = .ok (.goto 4, 3) := by decide +kernel
theorem dX9_canHold_33 : decode cX9_canHold 33 = .ok (.iconst 0, 1) := by decide +kernel
theorem dX9_canHold_34 : decode cX9_canHold 34 = .ok (.ireturn, 1) := by decide +kernel
theorem dX9_size_0 : decode cX9_size 0 = .ok (.aload_n 0, 1) := by decide +kernel
theorem dX9_size_1 : decode cX9_size 1 = .ok (.iconst 0, 1) := by decide +kernel
theorem dX9_size_2 : decode cX9_size 2 = .ok (.putfield 35, 3) := by decide +kernel
theorem dX9_size_5 : decode cX9_size 5 = .ok (.iload_n 1, 1) := by decide +kernel
theorem dX9_size_6 : decode cX9_size 6 = .ok (.invokestatic 109, 3) := by decide +kernel
theorem dX9_size_9 : decode cX9_size 9 = .ok (.ifCond .eq 13, 3) := by decide +kernel
theorem dX9_size_12 : decode cX9_size 12 = .ok (.aload_n 0, 1) := by decide +kernel
theorem dX9_size_13 : decode cX9_size 13 = .ok (.getfield 7, 3) := by decide +kernel
theorem dX9_size_16 : decode cX9_size 16 = .ok (.iconst 0, 1) := by decide +kernel
theorem dX9_size_17 : decode cX9_size 17 = .ok (.iaload, 1) := by decide +kernel
theorem dX9_size_18 : decode cX9_size 18 = .ok (.iload_n 1, 1) := by decide +kernel
theorem dX9_size_19 : decode cX9_size 19 = .ok (.if_icmp .ne 5, 3) := by decide +kernel
theorem dX9_size_22 : decode cX9_size 22 = .ok (.iconst 0, 1) := by decide +kernel
theorem dX9_size_23 : decode cX9_size 23 = .ok (.ireturn, 1) := by decide +kernel
theorem dX9_size_24 : decode cX9_size 24 = .ok (.aload_n 0, 1) := by decide +kernel
theorem dX9_size_25 : decode cX9_size 25 = .ok (.iload_n 1, 1) := by decide +kernel
theorem dX9_size_26 : decode cX9_size 26 = .ok (.invokevirtual 113, 3) := by decide +kernel
theorem dX9_size_29 : decode cX9_size 29 = .ok (.iconst 1, 1) := by decide +kernel
theorem dX9_size_30 : decode cX9_size 30 = .ok (.ireturn, 1) := by decide +kernel
theorem dX9_back_0 : decode cX9_back 0 = .ok (.aload_n 0, 1) := by decide +kernel
theorem dX9_back_1 : decode cX9_back 1 = .ok (.iconst 0, 1) := by decide +kernel
theorem dX9_back_2 : decode cX9_back 2 = .ok (.putfield 35, 3) := by decide +kernel
theorem dX9_back_5 : decode cX9_back 5 = .ok (.iload_n 1, 1) := by decide +kernel
theorem dX9_back_6 : decode cX9_back 6 = .ok (.iconst 0, 1) := by decide +kernel
theorem dX9_back_7 : decode cX9_back 7 = .ok (.sipush 9999, 3) := by decide +kernel
theorem dX9_back_10 : decode cX9_back 10 = .ok (.invokestatic 39, 3) := by decide +kernel
theorem dX9_back_13 : decode cX9_back 13 = .ok (.ifCond .eq 21, 3) := by decide +kernel
theorem dX9_back_16 : decode cX9_back 16 = .ok (.iload_n 2, 1) := by decide +kernel
theorem dX9_back_17 : decode cX9_back 17 = .ok (.iconst 1, 1) := by decide +kernel
theorem dX9_back_18 : decode cX9_back 18 = .ok (.bipush 9, 2) := by decide +kernel
theorem dX9_back_20 : decode cX9_back 20 = .ok (.invokestatic 39, 3) := by decide +kernel
theorem dX9_back_23 : decode cX9_back 23 = .ok (.ifCond .eq 11, 3) := by decide +kernel
theorem dX9_back_26 : decode cX9_back 26 = .ok (.aload_n 0, 1) := by decide +kernel
theorem dX9_back_27 : decode cX9_back 27 = .ok (.iload_n 1, 1) := by decide +kernel
theorem dX9_back_28 : decode cX9_back 28 = .ok (.invokevirtual 116, 3) := by decide +kernel
theorem dX9_back_31 : decode cX9_back 31 = .ok (.ifCond .eq 5, 3) := by decide +kernel
theorem dX9_back_34 : decode cX9_back 34 = .ok (.iconst (-1), 1) := by decide +kernel
theorem dX9_back_35 : decode cX9_back 35 = .ok (.ireturn, 1) := by decide +kernel
theorem dX9_back_36 : decode cX9_back 36 = .ok (.aload_n 0, 1) := by decide +kernel
theorem dX9_back_37 : decode cX9_back 37 = .ok (.getfield 7, 3) := by decide +kernel
theorem dX9_back_40 : decode cX9_back 40 = .ok (.iconst 1, 1) := by decide +kernel
theorem dX9_back_41 : decode cX9_back 41 = .ok (.iaload, 1) := by decide +kernel
theorem dX9_back_42 : decode cX9_back 42 = .ok (.bipush 8, 2) := by decide +kernel
theorem dX9_back_44 : decode cX9_back 44 = .ok (.if_icmp .ne 8, 3) := by decide +kernel
theorem dX9_back_47 : decode cX9_back 47 = .ok (.bipush (-2), 2) := by decide +kernel
theorem dX9_back_49 : decode cX9_back 49 = .ok (.goto 9, 3) := by decide +kernel
theorem dX9_back_52 : decode cX9_back 52 = .ok (.aload_n 0, 1) := by decide +kernel
theorem dX9_back_53 : decode cX9_back 53 = .ok (.iload_n 1, 1) := by decide +kernel
theorem dX9_back_54 : decode cX9_back 54 = .ok (.iload_n 2, 1) := by decide +kernel
theorem dX9_back_55 : decode cX9_back 55 = .ok (.invokevirtual 119, 3) := by decide +kernel
theorem dX9_back_58 : decode cX9_back 58 = .ok (.ireturn, 1) := by decide +kernel
theorem dX9_weigh_0 : decode cX9_weigh 0 = .ok (.aload_n 0, 1) := by decide +kernel
theorem dX9_weigh_1 : decode cX9_weigh 1 = .ok (.iconst 0, 1) := by decide +kernel
theorem dX9_weigh_2 : decode cX9_weigh 2 = .ok (.putfield 35, 3) := by decide +kernel
theorem dX9_weigh_5 : decode cX9_weigh 5 = .ok (.aload_n 0, 1) := by decide +kernel
theorem dX9_weigh_6 : decode cX9_weigh 6 = .ok (.iload_n 1, 1) := by decide +kernel
theorem dX9_weigh_7 : decode cX9_weigh 7 = .ok (.invokevirtual 122, 3) := by decide +kernel
theorem dX9_weigh_10 : decode cX9_weigh 10 = .ok (.ifCond .eq 26, 3) := by decide +kernel
theorem dX9_weigh_13 : decode cX9_weigh 13 = .ok (.iload_n 2, 1) := by decide +kernel
theorem dX9_weigh_14 : decode cX9_weigh 14 = .ok (.iconst 1, 1) := by decide +kernel
theorem dX9_weigh_15 : decode cX9_weigh 15 = .ok (.bipush 9, 2) := by decide +kernel
theorem dX9_weigh_17 : decode cX9_weigh 17 = .ok (.invokestatic 39, 3) := by decide +kernel
theorem dX9_weigh_20 : decode cX9_weigh 20 = .ok (.ifCond .eq 16, 3) := by decide +kernel
theorem dX9_weigh_23 : decode cX9_weigh 23 = .ok (.aload_n 0, 1) := by decide +kernel
theorem dX9_weigh_24 : decode cX9_weigh 24 = .ok (.getfield 7, 3) := by decide +kernel
theorem dX9_weigh_27 : decode cX9_weigh 27 = .ok (.bipush 13, 2) := by decide +kernel
theorem dX9_weigh_29 : decode cX9_weigh 29 = .ok (.iload_n 1, 1) := by decide +kernel
theorem dX9_weigh_30 : decode cX9_weigh 30 = .ok (.iadd, 1) := by decide +kernel
theorem dX9_weigh_31 : decode cX9_weigh 31 = .ok (.iaload, 1) := by decide +kernel
theorem dX9_weigh_32 : decode cX9_weigh 32 = .ok (.iload_n 2, 1) := by decide +kernel
theorem dX9_weigh_33 : decode cX9_weigh 33 = .ok (.if_icmp .ne 5, 3) := by decide +kernel
theorem dX9_weigh_36 : decode cX9_weigh 36 = .ok (.iconst 0, 1) := by decide +kernel
theorem dX9_weigh_37 : decode cX9_weigh 37 = .ok (.ireturn, 1) := by decide +kernel
theorem dX9_weigh_38 : decode cX9_weigh 38 = .ok (.aload_n 0, 1) := by decide +kernel
theorem dX9_weigh_39 : decode cX9_weigh 39 = .ok (.getfield 7, 3) := by decide +kernel
theorem dX9_weigh_42 : decode cX9_weigh 42 = .ok (.bipush 13, 2) := by decide +kernel
theorem dX9_weigh_44 : decode cX9_weigh 44 = .ok (.iload_n 1, 1) := by decide +kernel
theorem dX9_weigh_45 : decode cX9_weigh 45 = .ok (.iadd, 1) := by decide +kernel
theorem dX9_weigh_46 : decode cX9_weigh 46 = .ok (.iload_n 2, 1) := by decide +kernel
theorem dX9_weigh_47 : decode cX9_weigh 47 = .ok (.iastore, 1) := by decide +kernel
theorem dX9_weigh_48 : decode cX9_weigh 48 = .ok (.iconst 1, 1) := by decide +kernel
theorem dX9_weigh_49 : decode cX9_weigh 49 = .ok (.ireturn, 1) := by decide +kernel
theorem dX9_see_0 : decode cX9_see 0 = .ok (.aload_n 0, 1) := by decide +kernel
theorem dX9_see_1 : decode cX9_see 1 = .ok (.iconst 0, 1) := by decide +kernel
theorem dX9_see_2 : decode cX9_see 2 = .ok (.putfield 35, 3) := by decide +kernel
theorem dX9_see_5 : decode cX9_see 5 = .ok (.iload_n 1, 1) := by decide +kernel
theorem dX9_see_6 : decode cX9_see 6 = .ok (.iconst (-1), 1) := by decide +kernel
theorem dX9_see_7 : decode cX9_see 7 = .ok (.if_icmp .eq 10, 3) := by decide +kernel
theorem dX9_see_10 : decode cX9_see 10 = .ok (.iload_n 1, 1) := by decide +kernel
theorem dX9_see_11 : decode cX9_see 11 = .ok (.invokestatic 125, 3) := by decide +kernel
theorem dX9_see_14 : decode cX9_see 14 = .ok (.ifCond .eq 30, 3) := by decide +kernel
theorem dX9_see_17 : decode cX9_see 17 = .ok (.aload_n 0, 1) := by decide +kernel
theorem dX9_see_18 : decode cX9_see 18 = .ok (.iload_n 2, 1) := by decide +kernel
theorem dX9_see_19 : decode cX9_see 19 = .ok (.invokevirtual 122, 3) := by decide +kernel
theorem dX9_see_22 : decode cX9_see 22 = .ok (.ifCond .eq 22, 3) := by decide +kernel
theorem dX9_see_25 : decode cX9_see 25 = .ok (.iload_n 3, 1) := by decide +kernel
theorem dX9_see_26 : decode cX9_see 26 = .ok (.iconst 0, 1) := by decide +kernel
theorem dX9_see_27 : decode cX9_see 27 = .ok (.iconst 2, 1) := by decide +kernel
theorem dX9_see_28 : decode cX9_see 28 = .ok (.invokestatic 39, 3) := by decide +kernel
theorem dX9_see_31 : decode cX9_see 31 = .ok (.ifCond .eq 13, 3) := by decide +kernel
theorem dX9_see_34 : decode cX9_see 34 = .ok (.aload_n 0, 1) := by decide +kernel
theorem dX9_see_35 : decode cX9_see 35 = .ok (.iload_n 1, 1) := by decide +kernel
theorem dX9_see_36 : decode cX9_see 36 = .ok (.iload_n 2, 1) := by decide +kernel
theorem dX9_see_37 : decode cX9_see 37 = .ok (.iload_n 3, 1) := by decide +kernel
theorem dX9_see_38 : decode cX9_see 38 = .ok (.invokevirtual 128, 3) := by decide +kernel
theorem dX9_see_41 : decode cX9_see 41 = .ok (.goto 4, 3) := by decide +kernel
theorem dX9_see_44 : decode cX9_see 44 = .ok (.iconst (-1), 1) := by decide +kernel
theorem dX9_see_45 : decode cX9_see 45 = .ok (.ireturn, 1) := by decide +kernel
theorem dX9_set_0 : decode cX9_set 0 = .ok (.aload_n 0, 1) := by decide +kernel
theorem dX9_set_1 : decode cX9_set 1 = .ok (.iconst 0, 1) := by decide +kernel
theorem dX9_set_2 : decode cX9_set 2 = .ok (.putfield 35, 3) := by decide +kernel
theorem dX9_set_5 : decode cX9_set 5 = .ok (.iload_n 1, 1) := by decide +kernel
theorem dX9_set_6 : decode cX9_set 6 = .ok (.iload_n 2, 1) := by decide +kernel
theorem dX9_set_7 : decode cX9_set 7 = .ok (.invokestatic 132, 3) := by decide +kernel
theorem dX9_set_10 : decode cX9_set 10 = .ok (.ifCond .eq 15, 3) := by decide +kernel
theorem dX9_set_13 : decode cX9_set 13 = .ok (.aload_n 0, 1) := by decide +kernel
theorem dX9_set_14 : decode cX9_set 14 = .ok (.getfield 7, 3) := by decide +kernel
theorem dX9_set_17 : decode cX9_set 17 = .ok (.iconst 3, 1) := by decide +kernel
theorem dX9_set_18 : decode cX9_set 18 = .ok (.iload_n 1, 1) := by decide +kernel
theorem dX9_set_19 : decode cX9_set 19 = .ok (.iadd, 1) := by decide +kernel
theorem dX9_set_20 : decode cX9_set 20 = .ok (.iaload, 1) := by decide +kernel
theorem dX9_set_21 : decode cX9_set 21 = .ok (.iload_n 2, 1) := by decide +kernel
theorem dX9_set_22 : decode cX9_set 22 = .ok (.if_icmp .ne 5, 3) := by decide +kernel
theorem dX9_set_25 : decode cX9_set 25 = .ok (.iconst 0, 1) := by decide +kernel
theorem dX9_set_26 : decode cX9_set 26 = .ok (.ireturn, 1) := by decide +kernel
theorem dX9_set_27 : decode cX9_set 27 = .ok (.aload_n 0, 1) := by decide +kernel
theorem dX9_set_28 : decode cX9_set 28 = .ok (.iload_n 1, 1) := by decide +kernel
theorem dX9_set_29 : decode cX9_set 29 = .ok (.iload_n 2, 1) := by decide +kernel
theorem dX9_set_30 : decode cX9_set 30 = .ok (.invokevirtual 136, 3) := by decide +kernel
theorem dX9_set_33 : decode cX9_set 33 = .ok (.iconst 1, 1) := by decide +kernel
theorem dX9_set_34 : decode cX9_set 34 = .ok (.ireturn, 1) := by decide +kernel
theorem dX9_tick_0 : decode cX9_tick 0 = .ok (.aload_n 0, 1) := by decide +kernel
theorem dX9_tick_1 : decode cX9_tick 1 = .ok (.iconst 0, 1) := by decide +kernel
theorem dX9_tick_2 : decode cX9_tick 2 = .ok (.putfield 35, 3) := by decide +kernel
theorem dX9_tick_5 : decode cX9_tick 5 = .ok (.iload_n 1, 1) := by decide +kernel
theorem dX9_tick_6 : decode cX9_tick 6 = .ok (.iconst 1, 1) := by decide +kernel
theorem dX9_tick_7 : decode cX9_tick 7 = .ok (.sipush 999, 3) := by decide +kernel
theorem dX9_tick_10 : decode cX9_tick 10 = .ok (.invokestatic 39, 3) := by decide +kernel
theorem dX9_tick_13 : decode cX9_tick 13 = .ok (.ifCond .eq 11, 3) := by decide +kernel
theorem dX9_tick_16 : decode cX9_tick 16 = .ok (.aload_n 0, 1) := by decide +kernel
theorem dX9_tick_17 : decode cX9_tick 17 = .ok (.iload_n 1, 1) := by decide +kernel
theorem dX9_tick_18 : decode cX9_tick 18 = .ok (.invokevirtual 139, 3) := by decide +kernel
theorem dX9_tick_21 : decode cX9_tick 21 = .ok (.goto 4, 3) := by decide +kernel
theorem dX9_tick_24 : decode cX9_tick 24 = .ok (.iconst (-1), 1) := by decide +kernel
theorem dX9_tick_25 : decode cX9_tick 25 = .ok (.ireturn, 1) := by decide +kernel
theorem dX9_isFlow_0 : decode cX9_isFlow 0 = .ok (.iload_n 0, 1) := by decide +kernel
theorem dX9_isFlow_1 : decode cX9_isFlow 1 = .ok (.iconst 0, 1) := by decide +kernel
theorem dX9_isFlow_2 : decode cX9_isFlow 2 = .ok (.sipush 9999, 3) := by decide +kernel
theorem dX9_isFlow_5 : decode cX9_isFlow 5 = .ok (.invokestatic 39, 3) := by decide +kernel
theorem dX9_isFlow_8 : decode cX9_isFlow 8 = .ok (.ireturn, 1) := by decide +kernel
theorem dX9_pack_0 : decode cX9_pack 0 = .ok (.aload_n 0, 1) := by decide +kernel
theorem dX9_pack_1 : decode cX9_pack 1 = .ok (.iconst 0, 1) := by decide +kernel
theorem dX9_pack_2 : decode cX9_pack 2 = .ok (.putfield 35, 3) := by decide +kernel
theorem dX9_pack_5 : decode cX9_pack 5 = .ok (.iload_n 1, 1) := by decide +kernel
theorem dX9_pack_6 : decode cX9_pack 6 = .ok (.invokestatic 125, 3) := by decide +kernel
theorem dX9_pack_9 : decode cX9_pack 9 = .ok (.ifCond .eq 19, 3) := by decide +kernel
theorem dX9_pack_12 : decode cX9_pack 12 = .ok (.iload_n 2, 1) := by decide +kernel
theorem dX9_pack_13 : decode cX9_pack 13 = .ok (.invokestatic 142, 3) := by decide +kernel
theorem dX9_pack_16 : decode cX9_pack 16 = .ok (.ifCond .eq 12, 3) := by decide +kernel
theorem dX9_pack_19 : decode cX9_pack 19 = .ok (.aload_n 0, 1) := by decide +kernel
theorem dX9_pack_20 : decode cX9_pack 20 = .ok (.iload_n 1, 1) := by decide +kernel
theorem dX9_pack_21 : decode cX9_pack 21 = .ok (.iload_n 2, 1) := by decide +kernel
theorem dX9_pack_22 : decode cX9_pack 22 = .ok (.invokevirtual 145, 3) := by decide +kernel
theorem dX9_pack_25 : decode cX9_pack 25 = .ok (.goto 5, 3) := by decide +kernel
theorem dX9_pack_28 : decode cX9_pack 28 = .ok (.bipush (-2), 2) := by decide +kernel
theorem dX9_pack_30 : decode cX9_pack 30 = .ok (.ireturn, 1) := by decide +kernel
theorem dX9_keep_0 : decode cX9_keep 0 = .ok (.aload_n 0, 1) := by decide +kernel
theorem dX9_keep_1 : decode cX9_keep 1 = .ok (.iconst 0, 1) := by decide +kernel
theorem dX9_keep_2 : decode cX9_keep 2 = .ok (.putfield 35, 3) := by decide +kernel
theorem dX9_keep_5 : decode cX9_keep 5 = .ok (.iload_n 1, 1) := by decide +kernel
theorem dX9_keep_6 : decode cX9_keep 6 = .ok (.invokestatic 125, 3) := by decide +kernel
theorem dX9_keep_9 : decode cX9_keep 9 = .ok (.ifCond .ne 5, 3) := by decide +kernel
theorem dX9_keep_12 : decode cX9_keep 12 = .ok (.iconst 0, 1) := by decide +kernel
theorem dX9_keep_13 : decode cX9_keep 13 = .ok (.ireturn, 1) := by decide +kernel
theorem dX9_keep_14 : decode cX9_keep 14 = .ok (.aload_n 0, 1) := by decide +kernel
theorem dX9_keep_15 : decode cX9_keep 15 = .ok (.iload_n 1, 1) := by decide +kernel
theorem dX9_keep_16 : decode cX9_keep 16 = .ok (.invokevirtual 94, 3) := by decide +kernel
theorem dX9_keep_19 : decode cX9_keep 19 = .ok (.iconst 0, 1) := by decide +kernel
theorem dX9_keep_20 : decode cX9_keep 20 = .ok (.istore_n 2, 1) := by decide +kernel
theorem dX9_keep_21 : decode cX9_keep 21 = .ok (.iload_n 2, 1) := by decide +kernel
theorem dX9_keep_22 : decode cX9_keep 22 = .ok (.aload_n 0, 1) := by decide +kernel
theorem dX9_keep_23 : decode cX9_keep 23 = .ok (.getfield 7, 3) := by decide +kernel
theorem dX9_keep_26 : decode cX9_keep 26 = .ok (.iconst 0, 1) := by decide +kernel
theorem dX9_keep_27 : decode cX9_keep 27 = .ok (.iaload, 1) := by decide +kernel
theorem dX9_keep_28 : decode cX9_keep 28 = .ok (.if_icmp .ge 30, 3) := by decide +kernel
theorem dX9_keep_31 : decode cX9_keep 31 = .ok (.aload_n 0, 1) := by decide +kernel
theorem dX9_keep_32 : decode cX9_keep 32 = .ok (.getfield 7, 3) := by decide +kernel
theorem dX9_keep_35 : decode cX9_keep 35 = .ok (.sipush 253, 3) := by decide +kernel
theorem dX9_keep_38 : decode cX9_keep 38 = .ok (.bipush 97, 2) := by decide +kernel
theorem dX9_keep_40 : decode cX9_keep 40 = .ok (.iload_n 1, 1) := by decide +kernel
theorem dX9_keep_41 : decode cX9_keep 41 = .ok (.imul, 1) := by decide +kernel
theorem dX9_keep_42 : decode cX9_keep 42 = .ok (.iadd, 1) := by decide +kernel
theorem dX9_keep_43 : decode cX9_keep 43 = .ok (.iload_n 2, 1) := by decide +kernel
theorem dX9_keep_44 : decode cX9_keep 44 = .ok (.iadd, 1) := by decide +kernel
theorem dX9_keep_45 : decode cX9_keep 45 = .ok (.aload_n 0, 1) := by decide +kernel
theorem dX9_keep_46 : decode cX9_keep 46 = .ok (.getfield 16, 3) := by decide +kernel
theorem dX9_keep_49 : decode cX9_keep 49 = .ok (.iload_n 2, 1) := by decide +kernel
theorem dX9_keep_50 : decode cX9_keep 50 = .ok (.iaload, 1) := by decide +kernel
theorem dX9_keep_51 : decode cX9_keep 51 = .ok (.iastore, 1) := by decide +kernel
theorem dX9_keep_52 : decode cX9_keep 52 = .ok (.iinc 2 1, 3) := by decide +kernel
theorem dX9_keep_55 : decode cX9_keep 55 = .ok (.goto (-34), 3) := by decide +kernel
theorem dX9_keep_58 : decode cX9_keep 58 = .ok (.aload_n 0, 1) := by decide +kernel
theorem dX9_keep_59 : decode cX9_keep 59 = .ok (.getfield 7, 3) := by decide +kernel
theorem dX9_keep_62 : decode cX9_keep 62 = .ok (.sipush 249, 3) := by decide +kernel
theorem dX9_keep_65 : decode cX9_keep 65 = .ok (.iload_n 1, 1) := by decide +kernel
theorem dX9_keep_66 : decode cX9_keep 66 = .ok (.iadd, 1) := by decide +kernel
theorem dX9_keep_67 : decode cX9_keep 67 = .ok (.iconst 1, 1) := by decide +kernel
theorem dX9_keep_68 : decode cX9_keep 68 = .ok (.iastore, 1) := by decide +kernel
theorem dX9_keep_69 : decode cX9_keep 69 = .ok (.iconst 1, 1) := by decide +kernel
theorem dX9_keep_70 : decode cX9_keep 70 = .ok (.ireturn, 1) := by decide +kernel
theorem dX9_four_0 : decode cX9_four 0 = .ok (.bipush 24, 2) := by decide +kernel
theorem dX9_four_2 : decode cX9_four 2 = .ok (.istore_n 2, 1) := by decide +kernel
theorem dX9_four_3 : decode cX9_four 3 = .ok (.iload_n 2, 1) := by decide +kernel
theorem dX9_four_4 : decode cX9_four 4 = .ok (.ifCond .lt 35, 3) := by decide +kernel
theorem dX9_four_7 : decode cX9_four 7 = .ok (.aload_n 0, 1) := by decide +kernel
theorem dX9_four_8 : decode cX9_four 8 = .ok (.getfield 32, 3) := by decide +kernel
theorem dX9_four_11 : decode cX9_four 11 = .ok (.aload_n 0, 1) := by decide +kernel
theorem dX9_four_12 : decode cX9_four 12 = .ok (.getfield 148, 3) := by decide +kernel
theorem dX9_four_15 : decode cX9_four 15 = .ok (.iload_n 1, 1) := by decide +kernel
theorem dX9_four_16 : decode cX9_four 16 = .ok (.iload_n 2, 1) := by decide +kernel
theorem dX9_four_17 : decode cX9_four 17 = .ok (.ishr, 1) := by decide +kernel
theorem dX9_four_18 : decode cX9_four 18 = .ok (.sipush 255, 3) := by decide +kernel
theorem dX9_four_21 : decode cX9_four 21 = .ok (.iand, 1) := by decide +kernel
theorem dX9_four_22 : decode cX9_four 22 = .ok (.iastore, 1) := by decide +kernel
theorem dX9_four_23 : decode cX9_four 23 = .ok (.aload_n 0, 1) := by decide +kernel
theorem dX9_four_24 : decode cX9_four 24 = .ok (.dup, 1) := by decide +kernel
theorem dX9_four_25 : decode cX9_four 25 = .ok (.getfield 148, 3) := by decide +kernel
theorem dX9_four_28 : decode cX9_four 28 = .ok (.iconst 1, 1) := by decide +kernel
theorem dX9_four_29 : decode cX9_four 29 = .ok (.iadd, 1) := by decide +kernel
theorem dX9_four_30 : decode cX9_four 30 = .ok (.putfield 148, 3) := by decide +kernel
theorem dX9_four_33 : decode cX9_four 33 = .ok (.iinc 2 (-8), 3) := by decide +kernel
theorem dX9_four_36 : decode cX9_four 36 = .ok (.goto (-33), 3) := by decide +kernel
theorem dX9_four_39 : decode cX9_four 39 = .ok (.return_, 1) := by decide +kernel
theorem dX9_feed_0 : decode cX9_feed 0 = .ok (.aload_n 0, 1) := by decide +kernel
theorem dX9_feed_1 : decode cX9_feed 1 = .ok (.iconst 0, 1) := by decide +kernel
theorem dX9_feed_2 : decode cX9_feed 2 = .ok (.putfield 35, 3) := by decide +kernel
theorem dX9_feed_5 : decode cX9_feed 5 = .ok (.aload_n 0, 1) := by decide +kernel
theorem dX9_feed_6 : decode cX9_feed 6 = .ok (.getfield 148, 3) := by decide +kernel
theorem dX9_feed_9 : decode cX9_feed 9 = .ok (.bipush 20, 2) := by decide +kernel
theorem dX9_feed_11 : decode cX9_feed 11 = .ok (.iadd, 1) := by decide +kernel
theorem dX9_feed_12 : decode cX9_feed 12 = .ok (.sipush 400, 3) := by decide +kernel
theorem dX9_feed_15 : decode cX9_feed 15 = .ok (.if_icmp .le 5, 3) := by decide +kernel
theorem dX9_feed_18 : decode cX9_feed 18 = .ok (.iconst (-1), 1) := by decide +kernel
theorem dX9_feed_19 : decode cX9_feed 19 = .ok (.ireturn, 1) := by decide +kernel
theorem dX9_feed_20 : decode cX9_feed 20 = .ok (.aload_n 0, 1) := by decide +kernel
theorem dX9_feed_21 : decode cX9_feed 21 = .ok (.iload_n 1, 1) := by decide +kernel
theorem dX9_feed_22 : decode cX9_feed 22 = .ok (.invokevirtual 151, 3) := by decide +kernel
theorem dX9_feed_25 : decode cX9_feed 25 = .ok (.aload_n 0, 1) := by decide +kernel
theorem dX9_feed_26 : decode cX9_feed 26 = .ok (.iload_n 2, 1) := by decide +kernel
theorem dX9_feed_27 : decode cX9_feed 27 = .ok (.invokevirtual 151, 3) := by decide +kernel
theorem dX9_feed_30 : decode cX9_feed 30 = .ok (.aload_n 0, 1) := by decide +kernel
theorem dX9_feed_31 : decode cX9_feed 31 = .ok (.iload_n 3, 1) := by decide +kernel
theorem dX9_feed_32 : decode cX9_feed 32 = .ok (.invokevirtual 151, 3) := by decide +kernel
theorem dX9_feed_35 : decode cX9_feed 35 = .ok (.aload_n 0, 1) := by decide +kernel
theorem dX9_feed_36 : decode cX9_feed 36 = .ok (.iload 4, 2) := by decide +kernel
theorem dX9_feed_38 : decode cX9_feed 38 = .ok (.invokevirtual 151, 3) := by decide +kernel
theorem dX9_feed_41 : decode cX9_feed 41 = .ok (.aload_n 0, 1) := by decide +kernel
theorem dX9_feed_42 : decode cX9_feed 42 = .ok (.iload 5, 2) := by decide +kernel
theorem dX9_feed_44 : decode cX9_feed 44 = .ok (.invokevirtual 151, 3) := by decide +kernel
theorem dX9_feed_47 : decode cX9_feed 47 = .ok (.aload_n 0, 1) := by decide +kernel
theorem dX9_feed_48 : decode cX9_feed 48 = .ok (.getfield 148, 3) := by decide +kernel
theorem dX9_feed_51 : decode cX9_feed 51 = .ok (.ireturn, 1) := by decide +kernel
theorem dX9_end_0 : decode cX9_end 0 = .ok (.aload_n 0, 1) := by decide +kernel
theorem dX9_end_1 : decode cX9_end 1 = .ok (.iconst 0, 1) := by decide +kernel
theorem dX9_end_2 : decode cX9_end 2 = .ok (.putfield 35, 3) := by decide +kernel
theorem dX9_end_5 : decode cX9_end 5 = .ok (.iload_n 1, 1) := by decide +kernel
theorem dX9_end_6 : decode cX9_end 6 = .ok (.iconst 0, 1) := by decide +kernel
theorem dX9_end_7 : decode cX9_end 7 = .ok (.aload_n 0, 1) := by decide +kernel
theorem dX9_end_8 : decode cX9_end 8 = .ok (.getfield 148, 3) := by decide +kernel
theorem dX9_end_11 : decode cX9_end 11 = .ok (.invokestatic 39, 3) := by decide +kernel
theorem dX9_end_14 : decode cX9_end 14 = .ok (.ifCond .ne 5, 3) := by decide +kernel
theorem dX9_end_17 : decode cX9_end 17 = .ok (.iconst 0, 1) := by decide +kernel
theorem dX9_end_18 : decode cX9_end 18 = .ok (.ireturn, 1) := by decide +kernel
theorem dX9_end_19 : decode cX9_end 19 = .ok (.aload_n 0, 1) := by decide +kernel
theorem dX9_end_20 : decode cX9_end 20 = .ok (.iload_n 1, 1) := by decide +kernel
theorem dX9_end_21 : decode cX9_end 21 = .ok (.putfield 148, 3) := by decide +kernel
theorem dX9_end_24 : decode cX9_end 24 = .ok (.iconst 1, 1) := by decide +kernel
theorem dX9_end_25 : decode cX9_end 25 = .ok (.ireturn, 1) := by decide +kernel
theorem dX9_here_0 : decode cX9_here 0 = .ok (.aload_n 0, 1) := by decide +kernel
theorem dX9_here_1 : decode cX9_here 1 = .ok (.getfield 154, 3) := by decide +kernel
theorem dX9_here_4 : decode cX9_here 4 = .ok (.aload_n 0, 1) := by decide +kernel
theorem dX9_here_5 : decode cX9_here 5 = .ok (.getfield 148, 3) := by decide +kernel
theorem dX9_here_8 : decode cX9_here 8 = .ok (.if_icmp .ge 44, 3) := by decide +kernel
theorem dX9_here_11 : decode cX9_here 11 = .ok (.aload_n 0, 1) := by decide +kernel
theorem dX9_here_12 : decode cX9_here 12 = .ok (.getfield 32, 3) := by decide +kernel
theorem dX9_here_15 : decode cX9_here 15 = .ok (.aload_n 0, 1) := by decide +kernel
theorem dX9_here_16 : decode cX9_here 16 = .ok (.getfield 154, 3) := by decide +kernel
theorem dX9_here_19 : decode cX9_here 19 = .ok (.iaload, 1) := by decide +kernel
theorem dX9_here_20 : decode cX9_here 20 = .ok (.bipush 32, 2) := by decide +kernel
theorem dX9_here_22 : decode cX9_here 22 = .ok (.if_icmp .eq 17, 3) := by decide +kernel
theorem dX9_here_25 : decode cX9_here 25 = .ok (.aload_n 0, 1) := by decide +kernel
theorem dX9_here_26 : decode cX9_here 26 = .ok (.getfield 32, 3) := by decide +kernel
theorem dX9_here_29 : decode cX9_here 29 = .ok (.aload_n 0, 1) := by decide +kernel
theorem dX9_here_30 : decode cX9_here 30 = .ok (.getfield 154, 3) := by decide +kernel
theorem dX9_here_33 : decode cX9_here 33 = .ok (.iaload, 1) := by decide +kernel
theorem dX9_here_34 : decode cX9_here 34 = .ok (.bipush 10, 2) := by decide +kernel
theorem dX9_here_36 : decode cX9_here 36 = .ok (.if_icmp .ne 16, 3) := by decide +kernel
theorem dX9_here_39 : decode cX9_here 39 = .ok (.aload_n 0, 1) := by decide +kernel
theorem dX9_here_40 : decode cX9_here 40 = .ok (.dup, 1) := by decide +kernel
theorem dX9_here_41 : decode cX9_here 41 = .ok (.getfield 154, 3) := by decide +kernel
theorem dX9_here_44 : decode cX9_here 44 = .ok (.iconst 1, 1) := by decide +kernel
theorem dX9_here_45 : decode cX9_here 45 = .ok (.iadd, 1) := by decide +kernel
theorem dX9_here_46 : decode cX9_here 46 = .ok (.putfield 154, 3) := by decide +kernel
theorem dX9_here_49 : decode cX9_here 49 = .ok (.goto (-49), 3) := by decide +kernel
theorem dX9_here_52 : decode cX9_here 52 = .ok (.aload_n 0, 1) := by decide +kernel
theorem dX9_here_53 : decode cX9_here 53 = .ok (.getfield 154, 3) := by decide +kernel
theorem dX9_here_56 : decode cX9_here 56 = .ok (.aload_n 0, 1) := by decide +kernel
theorem dX9_here_57 : decode cX9_here 57 = .ok (.getfield 148, 3) := by decide +kernel
theorem dX9_here_60 : decode cX9_here 60 = .ok (.if_icmp .ge 15, 3) := by decide +kernel
theorem dX9_here_63 : decode cX9_here 63 = .ok (.aload_n 0, 1) := by decide +kernel
theorem dX9_here_64 : decode cX9_here 64 = .ok (.getfield 32, 3) := by decide +kernel
theorem dX9_here_67 : decode cX9_here 67 = .ok (.aload_n 0, 1) := by decide +kernel
theorem dX9_here_68 : decode cX9_here 68 = .ok (.getfield 154, 3) := by decide +kernel
theorem dX9_here_71 : decode cX9_here 71 = .ok (.iaload, 1) := by decide +kernel
theorem dX9_here_72 : decode cX9_here 72 = .ok (.goto 4, 3) := by decide +kernel
theorem dX9_here_75 : decode cX9_here 75 = .ok (.iconst (-1), 1) := by decide +kernel
theorem dX9_here_76 : decode cX9_here 76 = .ok (.ireturn, 1) := by decide +kernel
theorem dX9_fails_0 : decode cX9_fails 0 = .ok (.aload_n 0, 1) := by decide +kernel
theorem dX9_fails_1 : decode cX9_fails 1 = .ok (.iload_n 1, 1) := by decide +kernel
theorem dX9_fails_2 : decode cX9_fails 2 = .ok (.bipush 8, 2) := by decide +kernel
theorem dX9_fails_4 : decode cX9_fails 4 = .ok (.iload_n 2, 1) := by decide +kernel
theorem dX9_fails_5 : decode cX9_fails 5 = .ok (.imul, 1) := by decide +kernel
theorem dX9_fails_6 : decode cX9_fails 6 = .ok (.iadd, 1) := by decide +kernel
theorem dX9_fails_7 : decode cX9_fails 7 = .ok (.putfield 157, 3) := by decide +kernel
theorem dX9_fails_10 : decode cX9_fails 10 = .ok (.iconst 0, 1) := by decide +kernel
theorem dX9_fails_11 : decode cX9_fails 11 = .ok (.ireturn, 1) := by decide +kernel
theorem dX9_isWord_0 : decode cX9_isWord 0 = .ok (.aload_n 0, 1) := by decide +kernel
theorem dX9_isWord_1 : decode cX9_isWord 1 = .ok (.invokevirtual 160, 3) := by decide +kernel
theorem dX9_isWord_4 : decode cX9_isWord 4 = .ok (.bipush 97, 2) := by decide +kernel
theorem dX9_isWord_6 : decode cX9_isWord 6 = .ok (.bipush 122, 2) := by decide +kernel
theorem dX9_isWord_8 : decode cX9_isWord 8 = .ok (.invokestatic 39, 3) := by decide +kernel
theorem dX9_isWord_11 : decode cX9_isWord 11 = .ok (.ireturn, 1) := by decide +kernel
theorem dX9_readWord_0 : decode cX9_readWord 0 = .ok (.lconst 0, 1) := by decide +kernel
theorem dX9_readWord_1 : decode cX9_readWord 1 = .ok (.lstore_n 1, 1) := by decide +kernel
theorem dX9_readWord_2 : decode cX9_readWord 2 = .ok (.iconst 0, 1) := by decide +kernel
theorem dX9_readWord_3 : decode cX9_readWord 3 = .ok (.istore_n 3, 1) := by decide +kernel
theorem dX9_readWord_4 : decode cX9_readWord 4 = .ok (.aload_n 0, 1) := by decide +kernel
theorem dX9_readWord_5 : decode cX9_readWord 5 = .ok (.aload_n 0, 1) := by decide +kernel
theorem dX9_readWord_6 : decode cX9_readWord 6 = .ok (.getfield 154, 3) := by decide +kernel
theorem dX9_readWord_9 : decode cX9_readWord 9 = .ok (.putfield 163, 3) := by decide +kernel
theorem dX9_readWord_12 : decode cX9_readWord 12 = .ok (.aload_n 0, 1) := by decide +kernel
theorem dX9_readWord_13 : decode cX9_readWord 13 = .ok (.getfield 154, 3) := by decide +kernel
theorem dX9_readWord_16 : decode cX9_readWord 16 = .ok (.aload_n 0, 1) := by decide +kernel
theorem dX9_readWord_17 : decode cX9_readWord 17 = .ok (.getfield 148, 3) := by decide +kernel
theorem dX9_readWord_20 : decode cX9_readWord 20 = .ok (.if_icmp .ge 71, 3) := by decide +kernel
theorem dX9_readWord_23 : decode cX9_readWord 23 = .ok (.aload_n 0, 1) := by decide +kernel
theorem dX9_readWord_24 : decode cX9_readWord 24 = .ok (.getfield 32, 3) := by decide +kernel
theorem dX9_readWord_27 : decode cX9_readWord 27 = .ok (.aload_n 0, 1) := by decide +kernel
theorem dX9_readWord_28 : decode cX9_readWord 28 = .ok (.getfield 154, 3) := by decide +kernel
theorem dX9_readWord_31 : decode cX9_readWord 31 = .ok (.iaload, 1) := by decide +kernel
theorem dX9_readWord_32 : decode cX9_readWord 32 = .ok (.bipush 97, 2) := by decide +kernel
theorem dX9_readWord_34 : decode cX9_readWord 34 = .ok (.bipush 122, 2) := by decide +kernel
theorem dX9_readWord_36 : decode cX9_readWord 36 = .ok (.invokestatic 39, 3) := by decide +kernel
theorem dX9_readWord_39 : decode cX9_readWord 39 = .ok (.ifCond .eq 52, 3) := by decide +kernel
theorem dX9_readWord_42 : decode cX9_readWord 42 = .ok (.iload_n 3, 1) := by decide +kernel
theorem dX9_readWord_43 : decode cX9_readWord 43 = .ok (.bipush 6, 2) := by decide +kernel
theorem dX9_readWord_45 : decode cX9_readWord 45 = .ok (.if_icmp .ge 26, 3) := by decide +kernel
theorem dX9_readWord_48 : decode cX9_readWord 48 = .ok (.lload_n 1, 1) := by decide +kernel
theorem dX9_readWord_49 : decode cX9_readWord 49 = .ok (.ldc2_w 166, 3) := by decide +kernel
theorem dX9_readWord_52 : decode cX9_readWord 52 = .ok (.lmul, 1) := by decide +kernel
theorem dX9_readWord_53 : decode cX9_readWord 53 = .ok (.aload_n 0, 1) := by decide +kernel
theorem dX9_readWord_54 : decode cX9_readWord 54 = .ok (.getfield 32, 3) := by decide +kernel
theorem dX9_readWord_57 : decode cX9_readWord 57 = .ok (.aload_n 0, 1) := by decide +kernel
theorem dX9_readWord_58 : decode cX9_readWord 58 = .ok (.getfield 154, 3) := by decide +kernel
theorem dX9_readWord_61 : decode cX9_readWord 61 = .ok (.iaload, 1) := by decide +kernel
theorem dX9_readWord_62 : decode cX9_readWord 62 = .ok (.i2l, 1) := by decide +kernel
theorem dX9_readWord_63 : decode cX9_readWord 63 = .ok (.ladd, 1) := by decide +kernel
theorem dX9_readWord_64 : decode cX9_readWord 64 = .ok (.ldc2_w 168, 3) := by decide +kernel
theorem dX9_readWord_67 : decode cX9_readWord 67 = .ok (.lsub, 1) := by decide +kernel
theorem dX9_readWord_68 : decode cX9_readWord 68 = .ok (.goto 6, 3) := by decide +kernel
theorem dX9_readWord_71 : decode cX9_readWord 71 = .ok (.ldc2_w 170, 3) := by decide +kernel
theorem dX9_readWord_74 : decode cX9_readWord 74 = .ok (.lstore_n 1, 1) := by decide +kernel
theorem dX9_readWord_75 : decode cX9_readWord 75 = .ok (.iinc 3 1, 3) := by decide +kernel
theorem dX9_readWord_78 : decode cX9_readWord 78 = .ok (.aload_n 0, 1) := by decide +kernel
theorem dX9_readWord_79 : decode cX9_readWord 79 = .ok (.dup, 1) := by decide +kernel
theorem dX9_readWord_80 : decode cX9_readWord 80 = .ok (.getfield 154, 3) := by decide +kernel
theorem dX9_readWord_83 : decode cX9_readWord 83 = .ok (.iconst 1, 1) := by decide +kernel
theorem dX9_readWord_84 : decode cX9_readWord 84 = .ok (.iadd, 1) := by decide +kernel
theorem dX9_readWord_85 : decode cX9_readWord 85 = .ok (.putfield 154, 3) := by decide +kernel
theorem dX9_readWord_88 : decode cX9_readWord 88 = .ok (.goto (-76), 3) := by decide +kernel
theorem dX9_readWord_91 : decode cX9_readWord 91 = .ok (.lload_n 1, 1) := by decide +kernel
theorem dX9_readWord_92 : decode cX9_readWord 92 = .ok (.lreturn, 1) := by decide +kernel
theorem dX9_number_0 : decode cX9_number 0 = .ok (.aload_n 0, 1) := by decide +kernel
theorem dX9_number_1 : decode cX9_number 1 = .ok (.invokevirtual 160, 3) := by decide +kernel
theorem dX9_number_4 : decode cX9_number 4 = .ok (.bipush 48, 2) := by decide +kernel
theorem dX9_number_6 : decode cX9_number 6 = .ok (.bipush 57, 2) := by decide +kernel
theorem dX9_number_8 : decode cX9_number 8 = .ok (.invokestatic 39, 3) := by decide +kernel
theorem dX9_number_11 : decode cX9_number 11 = .ok (.ifCond .ne 13, 3) := by decide +kernel
theorem dX9_number_14 : decode cX9_number 14 = .ok (.aload_n 0, 1) := by decide +kernel
theorem dX9_number_15 : decode cX9_number 15 = .ok (.iconst 1, 1) := by decide +kernel
theorem dX9_number_16 : decode cX9_number 16 = .ok (.aload_n 0, 1) := by decide +kernel
theorem dX9_number_17 : decode cX9_number 17 = .ok (.getfield 154, 3) := by decide +kernel
theorem dX9_number_20 : decode cX9_number 20 = .ok (.invokevirtual 172, 3) := by decide +kernel
theorem dX9_number_23 : decode cX9_number 23 = .ok (.ireturn, 1) := by decide +kernel
theorem dX9_number_24 : decode cX9_number 24 = .ok (.aload_n 0, 1) := by decide +kernel
theorem dX9_number_25 : decode cX9_number 25 = .ok (.aload_n 0, 1) := by decide +kernel
theorem dX9_number_26 : decode cX9_number 26 = .ok (.getfield 154, 3) := by decide +kernel
theorem dX9_number_29 : decode cX9_number 29 = .ok (.putfield 163, 3) := by decide +kernel
theorem dX9_number_32 : decode cX9_number 32 = .ok (.aload_n 0, 1) := by decide +kernel
theorem dX9_number_33 : decode cX9_number 33 = .ok (.iconst 0, 1) := by decide +kernel
theorem dX9_number_34 : decode cX9_number 34 = .ok (.putfield 175, 3) := by decide +kernel
theorem dX9_number_37 : decode cX9_number 37 = .ok (.aload_n 0, 1) := by decide +kernel
theorem dX9_number_38 : decode cX9_number 38 = .ok (.getfield 154, 3) := by decide +kernel
theorem dX9_number_41 : decode cX9_number 41 = .ok (.aload_n 0, 1) := by decide +kernel
theorem dX9_number_42 : decode cX9_number 42 = .ok (.getfield 148, 3) := by decide +kernel
theorem dX9_number_45 : decode cX9_number 45 = .ok (.if_icmp .ge 79, 3) := by decide +kernel
theorem dX9_number_48 : decode cX9_number 48 = .ok (.aload_n 0, 1) := by decide +kernel
theorem dX9_number_49 : decode cX9_number 49 = .ok (.getfield 32, 3) := by decide +kernel
theorem dX9_number_52 : decode cX9_number 52 = .ok (.aload_n 0, 1) := by decide +kernel
theorem dX9_number_53 : decode cX9_number 53 = .ok (.getfield 154, 3) := by decide +kernel
theorem dX9_number_56 : decode cX9_number 56 = .ok (.iaload, 1) := by decide +kernel
theorem dX9_number_57 : decode cX9_number 57 = .ok (.bipush 48, 2) := by decide +kernel
theorem dX9_number_59 : decode cX9_number 59 = .ok (.bipush 57, 2) := by decide +kernel
theorem dX9_number_61 : decode cX9_number 61 = .ok (.invokestatic 39, 3) := by decide +kernel
theorem dX9_number_64 : decode cX9_number 64 = .ok (.ifCond .eq 60, 3) := by decide +kernel
theorem dX9_number_67 : decode cX9_number 67 = .ok (.aload_n 0, 1) := by decide +kernel
theorem dX9_number_68 : decode cX9_number 68 = .ok (.aload_n 0, 1) := by decide +kernel
theorem dX9_number_69 : decode cX9_number 69 = .ok (.getfield 154, 3) := by decide +kernel
theorem dX9_number_72 : decode cX9_number 72 = .ok (.aload_n 0, 1) := by decide +kernel
theorem dX9_number_73 : decode cX9_number 73 = .ok (.getfield 163, 3) := by decide +kernel
theorem dX9_number_76 : decode cX9_number 76 = .ok (.isub, 1) := by decide +kernel
theorem dX9_number_77 : decode cX9_number 77 = .ok (.iconst 4, 1) := by decide +kernel
theorem dX9_number_78 : decode cX9_number 78 = .ok (.if_icmp .ge 26, 3) := by decide +kernel
theorem dX9_number_81 : decode cX9_number 81 = .ok (.bipush 10, 2) := by decide +kernel
theorem dX9_number_83 : decode cX9_number 83 = .ok (.aload_n 0, 1) := by decide +kernel
theorem dX9_number_84 : decode cX9_number 84 = .ok (.getfield 175, 3) := by decide +kernel
theorem dX9_number_87 : decode cX9_number 87 = .ok (.imul, 1) := by decide +kernel
theorem dX9_number_88 : decode cX9_number 88 = .ok (.aload_n 0, 1) := by decide +kernel
theorem dX9_number_89 : decode cX9_number 89 = .ok (.getfield 32, 3) := by decide +kernel
theorem dX9_number_92 : decode cX9_number 92 = .ok (.aload_n 0, 1) := by decide +kernel
theorem dX9_number_93 : decode cX9_number 93 = .ok (.getfield 154, 3) := by decide +kernel
theorem dX9_number_96 : decode cX9_number 96 = .ok (.iaload, 1) := by decide +kernel
theorem dX9_number_97 : decode cX9_number 97 = .ok (.iadd, 1) := by decide +kernel
theorem dX9_number_98 : decode cX9_number 98 = .ok (.bipush 48, 2) := by decide +kernel
theorem dX9_number_100 : decode cX9_number 100 = .ok (.isub, 1) := by decide +kernel
theorem dX9_number_101 : decode cX9_number 101 = .ok (.goto 7, 3) := by decide +kernel
theorem dX9_number_104 : decode cX9_number 104 = .ok (.aload_n 0, 1) := by decide +kernel
theorem dX9_number_105 : decode cX9_number 105 = .ok (.getfield 175, 3) := by decide +kernel
theorem dX9_number_108 : decode cX9_number 108 = .ok (.putfield 175, 3) := by decide +kernel
theorem dX9_number_111 : decode cX9_number 111 = .ok (.aload_n 0, 1) := by decide +kernel
theorem dX9_number_112 : decode cX9_number 112 = .ok (.dup, 1) := by decide +kernel
theorem dX9_number_113 : decode cX9_number 113 = .ok (.getfield 154, 3) := by decide +kernel
theorem dX9_number_116 : decode cX9_number 116 = .ok (.iconst 1, 1) := by decide +kernel
theorem dX9_number_117 : decode cX9_number 117 = .ok (.iadd, 1) := by decide +kernel
theorem dX9_number_118 : decode cX9_number 118 = .ok (.putfield 154, 3) := by decide +kernel
theorem dX9_number_121 : decode cX9_number 121 = .ok (.goto (-84), 3) := by decide +kernel
theorem dX9_number_124 : decode cX9_number 124 = .ok (.aload_n 0, 1) := by decide +kernel
theorem dX9_number_125 : decode cX9_number 125 = .ok (.getfield 154, 3) := by decide +kernel
theorem dX9_number_128 : decode cX9_number 128 = .ok (.aload_n 0, 1) := by decide +kernel
theorem dX9_number_129 : decode cX9_number 129 = .ok (.getfield 163, 3) := by decide +kernel
theorem dX9_number_132 : decode cX9_number 132 = .ok (.isub, 1) := by decide +kernel
theorem dX9_number_133 : decode cX9_number 133 = .ok (.iconst 4, 1) := by decide +kernel
theorem dX9_number_134 : decode cX9_number 134 = .ok (.if_icmp .le 13, 3) := by decide +kernel
theorem dX9_number_137 : decode cX9_number 137 = .ok (.aload_n 0, 1) := by decide +kernel
theorem dX9_number_138 : decode cX9_number 138 = .ok (.iconst 1, 1) := by decide +kernel
theorem dX9_number_139 : decode cX9_number 139 = .ok (.aload_n 0, 1) := by decide +kernel
theorem dX9_number_140 : decode cX9_number 140 = .ok (.getfield 163, 3) := by decide +kernel
theorem dX9_number_143 : decode cX9_number 143 = .ok (.invokevirtual 172, 3) := by decide +kernel
theorem dX9_number_146 : decode cX9_number 146 = .ok (.ireturn, 1) := by decide +kernel
theorem dX9_number_147 : decode cX9_number 147 = .ok (.aload_n 0, 1) := by decide +kernel
theorem dX9_number_148 : decode cX9_number 148 = .ok (.getfield 175, 3) := by decide +kernel
theorem dX9_number_151 : decode cX9_number 151 = .ok (.iload_n 1, 1) := by decide +kernel
theorem dX9_number_152 : decode cX9_number 152 = .ok (.iload_n 2, 1) := by decide +kernel
theorem dX9_number_153 : decode cX9_number 153 = .ok (.invokestatic 39, 3) := by decide +kernel
theorem dX9_number_156 : decode cX9_number 156 = .ok (.ifCond .ne 15, 3) := by decide +kernel
theorem dX9_number_159 : decode cX9_number 159 = .ok (.aload_n 0, 1) := by decide +kernel
theorem dX9_number_160 : decode cX9_number 160 = .ok (.iconst 2, 1) := by decide +kernel
theorem dX9_number_161 : decode cX9_number 161 = .ok (.aload_n 0, 1) := by decide +kernel
theorem dX9_number_162 : decode cX9_number 162 = .ok (.getfield 163, 3) := by decide +kernel
theorem dX9_number_165 : decode cX9_number 165 = .ok (.invokevirtual 172, 3) := by decide +kernel
theorem dX9_number_168 : decode cX9_number 168 = .ok (.ifCond .eq 7, 3) := by decide +kernel
theorem dX9_number_171 : decode cX9_number 171 = .ok (.iconst 1, 1) := by decide +kernel
theorem dX9_number_172 : decode cX9_number 172 = .ok (.goto 4, 3) := by decide +kernel
theorem dX9_number_175 : decode cX9_number 175 = .ok (.iconst 0, 1) := by decide +kernel
theorem dX9_number_176 : decode cX9_number 176 = .ok (.ireturn, 1) := by decide +kernel
theorem dX9_gates_0 : decode cX9_gates 0 = .ok (.aload_n 0, 1) := by decide +kernel
theorem dX9_gates_1 : decode cX9_gates 1 = .ok (.invokevirtual 178, 3) := by decide +kernel
theorem dX9_gates_4 : decode cX9_gates 4 = .ok (.ifCond .eq 37, 3) := by decide +kernel
theorem dX9_gates_7 : decode cX9_gates 7 = .ok (.aload_n 0, 1) := by decide +kernel
theorem dX9_gates_8 : decode cX9_gates 8 = .ok (.iconst (-1), 1) := by decide +kernel
theorem dX9_gates_9 : decode cX9_gates 9 = .ok (.putfield 182, 3) := by decide +kernel
theorem dX9_gates_12 : decode cX9_gates 12 = .ok (.aload_n 0, 1) := by decide +kernel
theorem dX9_gates_13 : decode cX9_gates 13 = .ok (.invokevirtual 185, 3) := by decide +kernel
theorem dX9_gates_16 : decode cX9_gates 16 = .ok (.ldc2_w 189, 3) := by decide +kernel
theorem dX9_gates_19 : decode cX9_gates 19 = .ok (.lcmp, 1) := by decide +kernel
theorem dX9_gates_20 : decode cX9_gates 20 = .ok (.ifCond .eq 15, 3) := by decide +kernel
theorem dX9_gates_23 : decode cX9_gates 23 = .ok (.aload_n 0, 1) := by decide +kernel
theorem dX9_gates_24 : decode cX9_gates 24 = .ok (.iconst 1, 1) := by decide +kernel
theorem dX9_gates_25 : decode cX9_gates 25 = .ok (.aload_n 0, 1) := by decide +kernel
theorem dX9_gates_26 : decode cX9_gates 26 = .ok (.getfield 163, 3) := by decide +kernel
theorem dX9_gates_29 : decode cX9_gates 29 = .ok (.invokevirtual 172, 3) := by decide +kernel
theorem dX9_gates_32 : decode cX9_gates 32 = .ok (.ifCond .eq 7, 3) := by decide +kernel
theorem dX9_gates_35 : decode cX9_gates 35 = .ok (.iconst 1, 1) := by decide +kernel
theorem dX9_gates_36 : decode cX9_gates 36 = .ok (.goto 4, 3) := by decide +kernel
theorem dX9_gates_39 : decode cX9_gates 39 = .ok (.iconst 0, 1) := by decide +kernel
theorem dX9_gates_40 : decode cX9_gates 40 = .ok (.ireturn, 1) := by decide +kernel
theorem dX9_gates_41 : decode cX9_gates 41 = .ok (.aload_n 0, 1) := by decide +kernel
theorem dX9_gates_42 : decode cX9_gates 42 = .ok (.iconst 0, 1) := by decide +kernel
theorem dX9_gates_43 : decode cX9_gates 43 = .ok (.iconst 3, 1) := by decide +kernel
theorem dX9_gates_44 : decode cX9_gates 44 = .ok (.invokevirtual 191, 3) := by decide +kernel
theorem dX9_gates_47 : decode cX9_gates 47 = .ok (.istore_n 1, 1) := by decide +kernel
theorem dX9_gates_48 : decode cX9_gates 48 = .ok (.aload_n 0, 1) := by decide +kernel
theorem dX9_gates_49 : decode cX9_gates 49 = .ok (.aload_n 0, 1) := by decide +kernel
theorem dX9_gates_50 : decode cX9_gates 50 = .ok (.getfield 175, 3) := by decide +kernel
theorem dX9_gates_53 : decode cX9_gates 53 = .ok (.putfield 182, 3) := by decide +kernel
theorem dX9_gates_56 : decode cX9_gates 56 = .ok (.iload_n 1, 1) := by decide +kernel
theorem dX9_gates_57 : decode cX9_gates 57 = .ok (.ireturn, 1) := by decide +kernel
theorem dX9_ends_0 : decode cX9_ends 0 = .ok (.aload_n 0, 1) := by decide +kernel
theorem dX9_ends_1 : decode cX9_ends 1 = .ok (.invokevirtual 160, 3) := by decide +kernel
theorem dX9_ends_4 : decode cX9_ends 4 = .ok (.bipush 59, 2) := by decide +kernel
theorem dX9_ends_6 : decode cX9_ends 6 = .ok (.if_icmp .eq 13, 3) := by decide +kernel
theorem dX9_ends_9 : decode cX9_ends 9 = .ok (.aload_n 0, 1) := by decide +kernel
theorem dX9_ends_10 : decode cX9_ends 10 = .ok (.iconst 1, 1) := by decide +kernel
theorem dX9_ends_11 : decode cX9_ends 11 = .ok (.aload_n 0, 1) := by decide +kernel
theorem dX9_ends_12 : decode cX9_ends 12 = .ok (.getfield 154, 3) := by decide +kernel
theorem dX9_ends_15 : decode cX9_ends 15 = .ok (.invokevirtual 172, 3) := by decide +kernel
theorem dX9_ends_18 : decode cX9_ends 18 = .ok (.ireturn, 1) := by decide +kernel
theorem dX9_ends_19 : decode cX9_ends 19 = .ok (.aload_n 0, 1) := by decide +kernel
theorem dX9_ends_20 : decode cX9_ends 20 = .ok (.dup, 1) := by decide +kernel
theorem dX9_ends_21 : decode cX9_ends 21 = .ok (.getfield 154, 3) := by decide +kernel
theorem dX9_ends_24 : decode cX9_ends 24 = .ok (.iconst 1, 1) := by decide +kernel
theorem dX9_ends_25 : decode cX9_ends 25 = .ok (.iadd, 1) := by decide +kernel
theorem dX9_ends_26 : decode cX9_ends 26 = .ok (.putfield 154, 3) := by decide +kernel
theorem dX9_ends_29 : decode cX9_ends 29 = .ok (.iconst 1, 1) := by decide +kernel
theorem dX9_ends_30 : decode cX9_ends 30 = .ok (.ireturn, 1) := by decide +kernel
theorem dX9_readSize_0 : decode cX9_readSize 0 = .ok (.aload_n 0, 1) := by decide +kernel
theorem dX9_readSize_1 : decode cX9_readSize 1 = .ok (.iconst 0, 1) := by decide +kernel
theorem dX9_readSize_2 : decode cX9_readSize 2 = .ok (.sipush 9999, 3) := by decide +kernel
theorem dX9_readSize_5 : decode cX9_readSize 5 = .ok (.invokevirtual 191, 3) := by decide +kernel
theorem dX9_readSize_8 : decode cX9_readSize 8 = .ok (.ifCond .ne 5, 3) := by decide +kernel
theorem dX9_readSize_11 : decode cX9_readSize 11 = .ok (.iconst 0, 1) := by decide +kernel
theorem dX9_readSize_12 : decode cX9_readSize 12 = .ok (.ireturn, 1) := by decide +kernel
theorem dX9_readSize_13 : decode cX9_readSize 13 = .ok (.aload_n 0, 1) := by decide +kernel
theorem dX9_readSize_14 : decode cX9_readSize 14 = .ok (.getfield 175, 3) := by decide +kernel
theorem dX9_readSize_17 : decode cX9_readSize 17 = .ok (.invokestatic 109, 3) := by decide +kernel
theorem dX9_readSize_20 : decode cX9_readSize 20 = .ok (.ifCond .ne 13, 3) := by decide +kernel
theorem dX9_readSize_23 : decode cX9_readSize 23 = .ok (.aload_n 0, 1) := by decide +kernel
theorem dX9_readSize_24 : decode cX9_readSize 24 = .ok (.iconst 2, 1) := by decide +kernel
theorem dX9_readSize_25 : decode cX9_readSize 25 = .ok (.aload_n 0, 1) := by decide +kernel
theorem dX9_readSize_26 : decode cX9_readSize 26 = .ok (.getfield 163, 3) := by decide +kernel
theorem dX9_readSize_29 : decode cX9_readSize 29 = .ok (.invokevirtual 172, 3) := by decide +kernel
theorem dX9_readSize_32 : decode cX9_readSize 32 = .ok (.ireturn, 1) := by decide +kernel
theorem dX9_readSize_33 : decode cX9_readSize 33 = .ok (.aload_n 0, 1) := by decide +kernel
theorem dX9_readSize_34 : decode cX9_readSize 34 = .ok (.invokevirtual 194, 3) := by decide +kernel
theorem dX9_readSize_37 : decode cX9_readSize 37 = .ok (.ifCond .ne 5, 3) := by decide +kernel
theorem dX9_readSize_40 : decode cX9_readSize 40 = .ok (.iconst 0, 1) := by decide +kernel
theorem dX9_readSize_41 : decode cX9_readSize 41 = .ok (.ireturn, 1) := by decide +kernel
theorem dX9_readSize_42 : decode cX9_readSize 42 = .ok (.aload_n 0, 1) := by decide +kernel
theorem dX9_readSize_43 : decode cX9_readSize 43 = .ok (.aload_n 0, 1) := by decide +kernel
theorem dX9_readSize_44 : decode cX9_readSize 44 = .ok (.getfield 175, 3) := by decide +kernel
theorem dX9_readSize_47 : decode cX9_readSize 47 = .ok (.invokevirtual 113, 3) := by decide +kernel
theorem dX9_readSize_50 : decode cX9_readSize 50 = .ok (.iconst 1, 1) := by decide +kernel
theorem dX9_readSize_51 : decode cX9_readSize 51 = .ok (.ireturn, 1) := by decide +kernel
theorem dX9_readBack_0 : decode cX9_readBack 0 = .ok (.aload_n 0, 1) := by decide +kernel
theorem dX9_readBack_1 : decode cX9_readBack 1 = .ok (.getfield 7, 3) := by decide +kernel
theorem dX9_readBack_4 : decode cX9_readBack 4 = .ok (.iconst 1, 1) := by decide +kernel
theorem dX9_readBack_5 : decode cX9_readBack 5 = .ok (.iaload, 1) := by decide +kernel
theorem dX9_readBack_6 : decode cX9_readBack 6 = .ok (.bipush 8, 2) := by decide +kernel
theorem dX9_readBack_8 : decode cX9_readBack 8 = .ok (.if_icmp .ne 10, 3) := by decide +kernel
theorem dX9_readBack_11 : decode cX9_readBack 11 = .ok (.aload_n 0, 1) := by decide +kernel
theorem dX9_readBack_12 : decode cX9_readBack 12 = .ok (.iconst 3, 1) := by decide +kernel
theorem dX9_readBack_13 : decode cX9_readBack 13 = .ok (.iload_n 1, 1) := by decide +kernel
theorem dX9_readBack_14 : decode cX9_readBack 14 = .ok (.invokevirtual 172, 3) := by decide +kernel
theorem dX9_readBack_17 : decode cX9_readBack 17 = .ok (.ireturn, 1) := by decide +kernel
theorem dX9_readBack_18 : decode cX9_readBack 18 = .ok (.aload_n 0, 1) := by decide +kernel
theorem dX9_readBack_19 : decode cX9_readBack 19 = .ok (.iconst 0, 1) := by decide +kernel
theorem dX9_readBack_20 : decode cX9_readBack 20 = .ok (.sipush 9999, 3) := by decide +kernel
theorem dX9_readBack_23 : decode cX9_readBack 23 = .ok (.invokevirtual 191, 3) := by decide +kernel
theorem dX9_readBack_26 : decode cX9_readBack 26 = .ok (.ifCond .ne 5, 3) := by decide +kernel
theorem dX9_readBack_29 : decode cX9_readBack 29 = .ok (.iconst 0, 1) := by decide +kernel
theorem dX9_readBack_30 : decode cX9_readBack 30 = .ok (.ireturn, 1) := by decide +kernel
theorem dX9_readBack_31 : decode cX9_readBack 31 = .ok (.aload_n 0, 1) := by decide +kernel
theorem dX9_readBack_32 : decode cX9_readBack 32 = .ok (.getfield 175, 3) := by decide +kernel
theorem dX9_readBack_35 : decode cX9_readBack 35 = .ok (.istore_n 2, 1) := by decide +kernel
theorem dX9_readBack_36 : decode cX9_readBack 36 = .ok (.aload_n 0, 1) := by decide +kernel
theorem dX9_readBack_37 : decode cX9_readBack 37 = .ok (.iload_n 2, 1) := by decide +kernel
theorem dX9_readBack_38 : decode cX9_readBack 38 = .ok (.invokevirtual 116, 3) := by decide +kernel
theorem dX9_readBack_41 : decode cX9_readBack 41 = .ok (.ifCond .eq 13, 3) := by decide +kernel
theorem dX9_readBack_44 : decode cX9_readBack 44 = .ok (.aload_n 0, 1) := by decide +kernel
theorem dX9_readBack_45 : decode cX9_readBack 45 = .ok (.iconst 2, 1) := by decide +kernel
theorem dX9_readBack_46 : decode cX9_readBack 46 = .ok (.aload_n 0, 1) := by decide +kernel
theorem dX9_readBack_47 : decode cX9_readBack 47 = .ok (.getfield 163, 3) := by decide +kernel
theorem dX9_readBack_50 : decode cX9_readBack 50 = .ok (.invokevirtual 172, 3) := by decide +kernel
theorem dX9_readBack_53 : decode cX9_readBack 53 = .ok (.ireturn, 1) := by decide +kernel
theorem dX9_readBack_54 : decode cX9_readBack 54 = .ok (.aload_n 0, 1) := by decide +kernel
theorem dX9_readBack_55 : decode cX9_readBack 55 = .ok (.iconst 1, 1) := by decide +kernel
theorem dX9_readBack_56 : decode cX9_readBack 56 = .ok (.bipush 9, 2) := by decide +kernel
theorem dX9_readBack_58 : decode cX9_readBack 58 = .ok (.invokevirtual 191, 3) := by decide +kernel
theorem dX9_readBack_61 : decode cX9_readBack 61 = .ok (.ifCond .eq 10, 3) := by decide +kernel
theorem dX9_readBack_64 : decode cX9_readBack 64 = .ok (.aload_n 0, 1) := by decide +kernel
theorem dX9_readBack_65 : decode cX9_readBack 65 = .ok (.invokevirtual 194, 3) := by decide +kernel
theorem dX9_readBack_68 : decode cX9_readBack 68 = .ok (.ifCond .ne 5, 3) := by decide +kernel
theorem dX9_readBack_71 : decode cX9_readBack 71 = .ok (.iconst 0, 1) := by decide +kernel
theorem dX9_readBack_72 : decode cX9_readBack 72 = .ok (.ireturn, 1) := by decide +kernel
theorem dX9_readBack_73 : decode cX9_readBack 73 = .ok (.aload_n 0, 1) := by decide +kernel
theorem dX9_readBack_74 : decode cX9_readBack 74 = .ok (.iload_n 2, 1) := by decide +kernel
theorem dX9_readBack_75 : decode cX9_readBack 75 = .ok (.aload_n 0, 1) := by decide +kernel
theorem dX9_readBack_76 : decode cX9_readBack 76 = .ok (.getfield 175, 3) := by decide +kernel
theorem dX9_readBack_79 : decode cX9_readBack 79 = .ok (.invokevirtual 119, 3) := by decide +kernel
theorem dX9_readBack_82 : decode cX9_readBack 82 = .ok (.ifCond .lt 7, 3) := by decide +kernel
