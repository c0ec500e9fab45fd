theorem dX7_init_34 : decode cX7_init 34 = .ok (.aastore, 1) := by decide +kernel
theorem dX7_init_35 : decode cX7_init 35 = .ok (.dup, 1) := by decide +kernel
theorem dX7_init_36 : decode cX7_init 36 = .ok (.iconst 1, 1) := by decide +kernel
theorem dX7_init_37 : decode cX7_init 37 = .ok (.new 18, 3) := by decide +kernel
theorem dX7_init_40 : decode cX7_init 40 = .ok (.dup, 1) := by decide +kernel
theorem dX7_init_41 : decode cX7_init 41 = .ok (.invokespecial 20, 3) := by decide +kernel
theorem dX7_init_44 : decode cX7_init 44 = .ok (.aastore, 1) := by decide +kernel
theorem dX7_init_45 : decode cX7_init 45 = .ok (.dup, 1) := by decide +kernel
theorem dX7_init_46 : decode cX7_init 46 = .ok (.iconst 2, 1) := by decide +kernel
theorem dX7_init_47 : decode cX7_init 47 = .ok (.new 18, 3) := by decide +kernel
theorem dX7_init_50 : decode cX7_init 50 = .ok (.dup, 1) := by decide +kernel
theorem dX7_init_51 : decode cX7_init 51 = .ok (.invokespecial 20, 3) := by decide +kernel
theorem dX7_init_54 : decode cX7_init 54 = .ok (.aastore, 1) := by decide +kernel
theorem dX7_init_55 : decode cX7_init 55 = .ok (.dup, 1) := by decide +kernel
theorem dX7_init_56 : decode cX7_init 56 = .ok (.iconst 3, 1) := by decide +kernel
theorem dX7_init_57 : decode cX7_init 57 = .ok (.new 18, 3) := by decide +kernel
theorem dX7_init_60 : decode cX7_init 60 = .ok (.dup, 1) := by decide +kernel
theorem dX7_init_61 : decode cX7_init 61 = .ok (.invokespecial 20, 3) := by decide +kernel
theorem dX7_init_64 : decode cX7_init 64 = .ok (.aastore, 1) := by decide +kernel
theorem dX7_init_65 : decode cX7_init 65 = .ok (.putfield 21, 3) := by decide +kernel
theorem dX7_init_68 : decode cX7_init 68 = .ok (.aload_n 0, 1) := by decide +kernel
theorem dX7_init_69 : decode cX7_init 69 = .ok (.bipush 7, 2) := by decide +kernel
theorem dX7_init_71 : decode cX7_init 71 = .ok (.putfield 25, 3) := by decide +kernel
theorem dX7_init_74 : decode cX7_init 74 = .ok (.aload_n 0, 1) := by decide +kernel
theorem dX7_init_75 : decode cX7_init 75 = .ok (.iconst 0, 1) := by decide +kernel
theorem dX7_init_76 : decode cX7_init 76 = .ok (.putfield 29, 3) := by decide +kernel
theorem dX7_init_79 : decode cX7_init 79 = .ok (.aload_n 0, 1) := by decide +kernel
theorem dX7_init_80 : decode cX7_init 80 = .ok (.iconst 0, 1) := by decide +kernel
theorem dX7_init_81 : decode cX7_init 81 = .ok (.putfield 32, 3) := by decide +kernel
theorem dX7_init_84 : decode cX7_init 84 = .ok (.aload_n 0, 1) := by decide +kernel
theorem dX7_init_85 : decode cX7_init 85 = .ok (.bipush 8, 2) := by decide +kernel
theorem dX7_init_87 : decode cX7_init 87 = .ok (.putfield 35, 3) := by decide +kernel
theorem dX7_init_90 : decode cX7_init 90 = .ok (.aload_n 0, 1) := by decide +kernel
theorem dX7_init_91 : decode cX7_init 91 = .ok (.bipush 20, 2) := by decide +kernel
theorem dX7_init_93 : decode cX7_init 93 = .ok (.putfield 38, 3) := by decide +kernel
theorem dX7_init_96 : decode cX7_init 96 = .ok (.aload_n 0, 1) := by decide +kernel
theorem dX7_init_97 : decode cX7_init 97 = .ok (.aload_n 1, 1) := by decide +kernel
theorem dX7_init_98 : decode cX7_init 98 = .ok (.putfield 41, 3) := by decide +kernel
theorem dX7_init_101 : decode cX7_init 101 = .ok (.return_, 1) := by decide +kernel
theorem dX7_copyFrom_0 : decode cX7_copyFrom 0 = .ok (.aload_n 1, 1) := by decide +kernel
theorem dX7_copyFrom_1 : decode cX7_copyFrom 1 = .ok (.getfield 9, 3) := by decide +kernel
theorem dX7_copyFrom_4 : decode cX7_copyFrom 4 = .ok (.iconst 0, 1) := by decide +kernel
theorem dX7_copyFrom_5 : decode cX7_copyFrom 5 = .ok (.aload_n 0, 1) := by decide +kernel
theorem dX7_copyFrom_6 : decode cX7_copyFrom 6 = .ok (.getfield 9, 3) := by decide +kernel
theorem dX7_copyFrom_9 : decode cX7_copyFrom 9 = .ok (.iconst 0, 1) := by decide +kernel
theorem dX7_copyFrom_10 : decode cX7_copyFrom 10 = .ok (.bipush 8, 2) := by decide +kernel
theorem dX7_copyFrom_12 : decode cX7_copyFrom 12 = .ok (.invokestatic 45, 3) := by decide +kernel
theorem dX7_copyFrom_15 : decode cX7_copyFrom 15 = .ok (.aload_n 1, 1) := by decide +kernel
theorem dX7_copyFrom_16 : decode cX7_copyFrom 16 = .ok (.getfield 15, 3) := by decide +kernel
theorem dX7_copyFrom_19 : decode cX7_copyFrom 19 = .ok (.iconst 0, 1) := by decide +kernel
theorem dX7_copyFrom_20 : decode cX7_copyFrom 20 = .ok (.aload_n 0, 1) := by decide +kernel
theorem dX7_copyFrom_21 : decode cX7_copyFrom 21 = .ok (.getfield 15, 3) := by decide +kernel
theorem dX7_copyFrom_24 : decode cX7_copyFrom 24 = .ok (.iconst 0, 1) := by decide +kernel
theorem dX7_copyFrom_25 : decode cX7_copyFrom 25 = .ok (.bipush 8, 2) := by decide +kernel
theorem dX7_copyFrom_27 : decode cX7_copyFrom 27 = .ok (.invokestatic 45, 3) := by decide +kernel
theorem dX7_copyFrom_30 : decode cX7_copyFrom 30 = .ok (.iconst 0, 1) := by decide +kernel
theorem dX7_copyFrom_31 : decode cX7_copyFrom 31 = .ok (.istore_n 2, 1) := by decide +kernel
theorem dX7_copyFrom_32 : decode cX7_copyFrom 32 = .ok (.iload_n 2, 1) := by decide +kernel
theorem dX7_copyFrom_33 : decode cX7_copyFrom 33 = .ok (.iconst 4, 1) := by decide +kernel
theorem dX7_copyFrom_34 : decode cX7_copyFrom 34 = .ok (.if_icmp .ge 24, 3) := by decide +kernel
theorem dX7_copyFrom_37 : decode cX7_copyFrom 37 = .ok (.aload_n 0, 1) := by decide +kernel
theorem dX7_copyFrom_38 : decode cX7_copyFrom 38 = .ok (.getfield 21, 3) := by decide +kernel
theorem dX7_copyFrom_41 : decode cX7_copyFrom 41 = .ok (.iload_n 2, 1) := by decide +kernel
theorem dX7_copyFrom_42 : decode cX7_copyFrom 42 = .ok (.aaload, 1) := by decide +kernel
theorem dX7_copyFrom_43 : decode cX7_copyFrom 43 = .ok (.aload_n 1, 1) := by decide +kernel
theorem dX7_copyFrom_44 : decode cX7_copyFrom 44 = .ok (.getfield 21, 3) := by decide +kernel
theorem dX7_copyFrom_47 : decode cX7_copyFrom 47 = .ok (.iload_n 2, 1) := by decide +kernel
theorem dX7_copyFrom_48 : decode cX7_copyFrom 48 = .ok (.aaload, 1) := by decide +kernel
theorem dX7_copyFrom_49 : decode cX7_copyFrom 49 = .ok (.invokevirtual 51, 3) := by decide +kernel
theorem dX7_copyFrom_52 : decode cX7_copyFrom 52 = .ok (.iinc 2 1, 3) := by decide +kernel
theorem dX7_copyFrom_55 : decode cX7_copyFrom 55 = .ok (.goto (-23), 3) := by decide +kernel
theorem dX7_copyFrom_58 : decode cX7_copyFrom 58 = .ok (.aload_n 0, 1) := by decide +kernel
theorem dX7_copyFrom_59 : decode cX7_copyFrom 59 = .ok (.aload_n 1, 1) := by decide +kernel
theorem dX7_copyFrom_60 : decode cX7_copyFrom 60 = .ok (.getfield 25, 3) := by decide +kernel
theorem dX7_copyFrom_63 : decode cX7_copyFrom 63 = .ok (.putfield 25, 3) := by decide +kernel
theorem dX7_copyFrom_66 : decode cX7_copyFrom 66 = .ok (.aload_n 0, 1) := by decide +kernel
theorem dX7_copyFrom_67 : decode cX7_copyFrom 67 = .ok (.aload_n 1, 1) := by decide +kernel
theorem dX7_copyFrom_68 : decode cX7_copyFrom 68 = .ok (.getfield 29, 3) := by decide +kernel
theorem dX7_copyFrom_71 : decode cX7_copyFrom 71 = .ok (.putfield 29, 3) := by decide +kernel
theorem dX7_copyFrom_74 : decode cX7_copyFrom 74 = .ok (.aload_n 0, 1) := by decide +kernel
theorem dX7_copyFrom_75 : decode cX7_copyFrom 75 = .ok (.aload_n 1, 1) := by decide +kernel
theorem dX7_copyFrom_76 : decode cX7_copyFrom 76 = .ok (.getfield 32, 3) := by decide +kernel
theorem dX7_copyFrom_79 : decode cX7_copyFrom 79 = .ok (.putfield 32, 3) := by decide +kernel
theorem dX7_copyFrom_82 : decode cX7_copyFrom 82 = .ok (.aload_n 0, 1) := by decide +kernel
theorem dX7_copyFrom_83 : decode cX7_copyFrom 83 = .ok (.aload_n 1, 1) := by decide +kernel
theorem dX7_copyFrom_84 : decode cX7_copyFrom 84 = .ok (.getfield 35, 3) := by decide +kernel
theorem dX7_copyFrom_87 : decode cX7_copyFrom 87 = .ok (.putfield 35, 3) := by decide +kernel
theorem dX7_copyFrom_90 : decode cX7_copyFrom 90 = .ok (.aload_n 0, 1) := by decide +kernel
theorem dX7_copyFrom_91 : decode cX7_copyFrom 91 = .ok (.aload_n 1, 1) := by decide +kernel
theorem dX7_copyFrom_92 : decode cX7_copyFrom 92 = .ok (.getfield 38, 3) := by decide +kernel
theorem dX7_copyFrom_95 : decode cX7_copyFrom 95 = .ok (.putfield 38, 3) := by decide +kernel
theorem dX7_copyFrom_98 : decode cX7_copyFrom 98 = .ok (.return_, 1) := by decide +kernel
theorem dX7_isBackend_0 : decode cX7_isBackend 0 = .ok (.iload_n 1, 1) := by decide +kernel
theorem dX7_isBackend_1 : decode cX7_isBackend 1 = .ok (.ifCond .lt 15, 3) := by decide +kernel
theorem dX7_isBackend_4 : decode cX7_isBackend 4 = .ok (.iload_n 1, 1) := by decide +kernel
theorem dX7_isBackend_5 : decode cX7_isBackend 5 = .ok (.aload_n 0, 1) := by decide +kernel
theorem dX7_isBackend_6 : decode cX7_isBackend 6 = .ok (.getfield 29, 3) := by decide +kernel
theorem dX7_isBackend_9 : decode cX7_isBackend 9 = .ok (.if_icmp .ge 7, 3) := by decide +kernel
theorem dX7_isBackend_12 : decode cX7_isBackend 12 = .ok (.iconst 1, 1) := by decide +kernel
theorem dX7_isBackend_13 : decode cX7_isBackend 13 = .ok (.goto 4, 3) := by decide +kernel
theorem dX7_isBackend_16 : decode cX7_isBackend 16 = .ok (.iconst 0, 1) := by decide +kernel
theorem dX7_isBackend_17 : decode cX7_isBackend 17 = .ok (.ireturn, 1) := by decide +kernel
theorem dX7_isSlot_0 : decode cX7_isSlot 0 = .ok (.iload_n 1, 1) := by decide +kernel
theorem dX7_isSlot_1 : decode cX7_isSlot 1 = .ok (.ifCond .lt 15, 3) := by decide +kernel
theorem dX7_isSlot_4 : decode cX7_isSlot 4 = .ok (.iload_n 1, 1) := by decide +kernel
theorem dX7_isSlot_5 : decode cX7_isSlot 5 = .ok (.aload_n 0, 1) := by decide +kernel
theorem dX7_isSlot_6 : decode cX7_isSlot 6 = .ok (.getfield 25, 3) := by decide +kernel
theorem dX7_isSlot_9 : decode cX7_isSlot 9 = .ok (.if_icmp .ge 7, 3) := by decide +kernel
theorem dX7_isSlot_12 : decode cX7_isSlot 12 = .ok (.iconst 1, 1) := by decide +kernel
theorem dX7_isSlot_13 : decode cX7_isSlot 13 = .ok (.goto 4, 3) := by decide +kernel
theorem dX7_isSlot_16 : decode cX7_isSlot 16 = .ok (.iconst 0, 1) := by decide +kernel
theorem dX7_isSlot_17 : decode cX7_isSlot 17 = .ok (.ireturn, 1) := by decide +kernel
theorem dX7_hasKey_0 : decode cX7_hasKey 0 = .ok (.iconst 0, 1) := by decide +kernel
theorem dX7_hasKey_1 : decode cX7_hasKey 1 = .ok (.istore_n 2, 1) := by decide +kernel
theorem dX7_hasKey_2 : decode cX7_hasKey 2 = .ok (.iload_n 2, 1) := by decide +kernel
theorem dX7_hasKey_3 : decode cX7_hasKey 3 = .ok (.aload_n 0, 1) := by decide +kernel
theorem dX7_hasKey_4 : decode cX7_hasKey 4 = .ok (.getfield 29, 3) := by decide +kernel
theorem dX7_hasKey_7 : decode cX7_hasKey 7 = .ok (.if_icmp .ge 21, 3) := by decide +kernel
theorem dX7_hasKey_10 : decode cX7_hasKey 10 = .ok (.aload_n 0, 1) := by decide +kernel
theorem dX7_hasKey_11 : decode cX7_hasKey 11 = .ok (.getfield 9, 3) := by decide +kernel
theorem dX7_hasKey_14 : decode cX7_hasKey 14 = .ok (.iload_n 2, 1) := by decide +kernel
theorem dX7_hasKey_15 : decode cX7_hasKey 15 = .ok (.iaload, 1) := by decide +kernel
theorem dX7_hasKey_16 : decode cX7_hasKey 16 = .ok (.iload_n 1, 1) := by decide +kernel
theorem dX7_hasKey_17 : decode cX7_hasKey 17 = .ok (.if_icmp .ne 5, 3) := by decide +kernel
theorem dX7_hasKey_20 : decode cX7_hasKey 20 = .ok (.iconst 1, 1) := by decide +kernel
theorem dX7_hasKey_21 : decode cX7_hasKey 21 = .ok (.ireturn, 1) := by decide +kernel
theorem dX7_hasKey_22 : decode cX7_hasKey 22 = .ok (.iinc 2 1, 3) := by decide +kernel
theorem dX7_hasKey_25 : decode cX7_hasKey 25 = .ok (.goto (-23), 3) := by decide +kernel
theorem dX7_hasKey_28 : decode cX7_hasKey 28 = .ok (.iconst 0, 1) := by decide +kernel
theorem dX7_hasKey_29 : decode cX7_hasKey 29 = .ok (.ireturn, 1) := by decide +kernel
theorem dX7_resize_0 : decode cX7_resize 0 = .ok (.aload_n 0, 1) := by decide +kernel
theorem dX7_resize_1 : decode cX7_resize 1 = .ok (.iload_n 1, 1) := by decide +kernel
theorem dX7_resize_2 : decode cX7_resize 2 = .ok (.putfield 25, 3) := by decide +kernel
theorem dX7_resize_5 : decode cX7_resize 5 = .ok (.iconst 0, 1) := by decide +kernel
theorem dX7_resize_6 : decode cX7_resize 6 = .ok (.istore_n 2, 1) := by decide +kernel
theorem dX7_resize_7 : decode cX7_resize 7 = .ok (.iload_n 2, 1) := by decide +kernel
theorem dX7_resize_8 : decode cX7_resize 8 = .ok (.iconst 4, 1) := by decide +kernel
theorem dX7_resize_9 : decode cX7_resize 9 = .ok (.if_icmp .ge 19, 3) := by decide +kernel
theorem dX7_resize_12 : decode cX7_resize 12 = .ok (.aload_n 0, 1) := by decide +kernel
theorem dX7_resize_13 : decode cX7_resize 13 = .ok (.getfield 21, 3) := by decide +kernel
theorem dX7_resize_16 : decode cX7_resize 16 = .ok (.iload_n 2, 1) := by decide +kernel
theorem dX7_resize_17 : decode cX7_resize 17 = .ok (.aaload, 1) := by decide +kernel
theorem dX7_resize_18 : decode cX7_resize 18 = .ok (.iconst 0, 1) := by decide +kernel
theorem dX7_resize_19 : decode cX7_resize 19 = .ok (.putfield 55, 3) := by decide +kernel
theorem dX7_resize_22 : decode cX7_resize 22 = .ok (.iinc 2 1, 3) := by decide +kernel
theorem dX7_resize_25 : decode cX7_resize 25 = .ok (.goto (-18), 3) := by decide +kernel
theorem dX7_resize_28 : decode cX7_resize 28 = .ok (.return_, 1) := by decide +kernel
theorem dX7_addBackend_0 : decode cX7_addBackend 0 = .ok (.aload_n 0, 1) := by decide +kernel
theorem dX7_addBackend_1 : decode cX7_addBackend 1 = .ok (.getfield 29, 3) := by decide +kernel
theorem dX7_addBackend_4 : decode cX7_addBackend 4 = .ok (.bipush 8, 2) := by decide +kernel
theorem dX7_addBackend_6 : decode cX7_addBackend 6 = .ok (.if_icmp .ge 46, 3) := by decide +kernel
theorem dX7_addBackend_9 : decode cX7_addBackend 9 = .ok (.aload_n 0, 1) := by decide +kernel
theorem dX7_addBackend_10 : decode cX7_addBackend 10 = .ok (.getfield 9, 3) := by decide +kernel
theorem dX7_addBackend_13 : decode cX7_addBackend 13 = .ok (.aload_n 0, 1) := by decide +kernel
theorem dX7_addBackend_14 : decode cX7_addBackend 14 = .ok (.getfield 29, 3) := by decide +kernel
theorem dX7_addBackend_17 : decode cX7_addBackend 17 = .ok (.iload_n 1, 1) := by decide +kernel
theorem dX7_addBackend_18 : decode cX7_addBackend 18 = .ok (.iastore, 1) := by decide +kernel
theorem dX7_addBackend_19 : decode cX7_addBackend 19 = .ok (.aload_n 0, 1) := by decide +kernel
theorem dX7_addBackend_20 : decode cX7_addBackend 20 = .ok (.getfield 15, 3) := by decide +kernel
theorem dX7_addBackend_23 : decode cX7_addBackend 23 = .ok (.aload_n 0, 1) := by decide +kernel
theorem dX7_addBackend_24 : decode cX7_addBackend 24 = .ok (.getfield 29, 3) := by decide +kernel
theorem dX7_addBackend_27 : decode cX7_addBackend 27 = .ok (.iload_n 2, 1) := by decide +kernel
theorem dX7_addBackend_28 : decode cX7_addBackend 28 = .ok (.iastore, 1) := by decide +kernel
theorem dX7_addBackend_29 : decode cX7_addBackend 29 = .ok (.aload_n 0, 1) := by decide +kernel
theorem dX7_addBackend_30 : decode cX7_addBackend 30 = .ok (.dup, 1) := by decide +kernel
theorem dX7_addBackend_31 : decode cX7_addBackend 31 = .ok (.getfield 29, 3) := by decide +kernel
theorem dX7_addBackend_34 : decode cX7_addBackend 34 = .ok (.iconst 1, 1) := by decide +kernel
theorem dX7_addBackend_35 : decode cX7_addBackend 35 = .ok (.iadd, 1) := by decide +kernel
theorem dX7_addBackend_36 : decode cX7_addBackend 36 = .ok (.putfield 29, 3) := by decide +kernel
theorem dX7_addBackend_39 : decode cX7_addBackend 39 = .ok (.aload_n 0, 1) := by decide +kernel
theorem dX7_addBackend_40 : decode cX7_addBackend 40 = .ok (.iconst (-1), 1) := by decide +kernel
theorem dX7_addBackend_41 : decode cX7_addBackend 41 = .ok (.aload_n 0, 1) := by decide +kernel
theorem dX7_addBackend_42 : decode cX7_addBackend 42 = .ok (.getfield 29, 3) := by decide +kernel
theorem dX7_addBackend_45 : decode cX7_addBackend 45 = .ok (.iconst 1, 1) := by decide +kernel
theorem dX7_addBackend_46 : decode cX7_addBackend 46 = .ok (.isub, 1) := by decide +kernel
theorem dX7_addBackend_47 : decode cX7_addBackend 47 = .ok (.iconst 1, 1) := by decide +kernel
theorem dX7_addBackend_48 : decode cX7_addBackend 48 = .ok (.invokevirtual 59, 3) := by decide +kernel
theorem dX7_addBackend_51 : decode cX7_addBackend 51 = .ok (.pop, 1) := by decide +kernel
theorem dX7_addBackend_52 : decode cX7_addBackend 52 = .ok (.return_, 1) := by decide +kernel
theorem dX7_show_0 : decode cX7_show 0 = .ok (.iconst 0, 1) := by decide +kernel
theorem dX7_show_1 : decode cX7_show 1 = .ok (.istore 4, 2) := by decide +kernel
theorem dX7_show_3 : decode cX7_show 3 = .ok (.iconst 0, 1) := by decide +kernel
theorem dX7_show_4 : decode cX7_show 4 = .ok (.istore 5, 2) := by decide +kernel
theorem dX7_show_6 : decode cX7_show 6 = .ok (.iload 5, 2) := by decide +kernel
theorem dX7_show_8 : decode cX7_show 8 = .ok (.iconst 4, 1) := by decide +kernel
theorem dX7_show_9 : decode cX7_show 9 = .ok (.if_icmp .ge 52, 3) := by decide +kernel
theorem dX7_show_12 : decode cX7_show 12 = .ok (.iload_n 1, 1) := by decide +kernel
theorem dX7_show_13 : decode cX7_show 13 = .ok (.iconst (-1), 1) := by decide +kernel
theorem dX7_show_14 : decode cX7_show 14 = .ok (.if_icmp .eq 9, 3) := by decide +kernel
theorem dX7_show_17 : decode cX7_show 17 = .ok (.iload_n 1, 1) := by decide +kernel
theorem dX7_show_18 : decode cX7_show 18 = .ok (.iload 5, 2) := by decide +kernel
theorem dX7_show_20 : decode cX7_show 20 = .ok (.if_icmp .ne 35, 3) := by decide +kernel
theorem dX7_show_23 : decode cX7_show 23 = .ok (.aload_n 0, 1) := by decide +kernel
theorem dX7_show_24 : decode cX7_show 24 = .ok (.getfield 21, 3) := by decide +kernel
theorem dX7_show_27 : decode cX7_show 27 = .ok (.iload 5, 2) := by decide +kernel
theorem dX7_show_29 : decode cX7_show 29 = .ok (.aaload, 1) := by decide +kernel
theorem dX7_show_30 : decode cX7_show 30 = .ok (.getfield 63, 3) := by decide +kernel
theorem dX7_show_33 : decode cX7_show 33 = .ok (.iload_n 2, 1) := by decide +kernel
theorem dX7_show_34 : decode cX7_show 34 = .ok (.iaload, 1) := by decide +kernel
theorem dX7_show_35 : decode cX7_show 35 = .ok (.iload_n 3, 1) := by decide +kernel
theorem dX7_show_36 : decode cX7_show 36 = .ok (.if_icmp .eq 19, 3) := by decide +kernel
theorem dX7_show_39 : decode cX7_show 39 = .ok (.aload_n 0, 1) := by decide +kernel
theorem dX7_show_40 : decode cX7_show 40 = .ok (.getfield 21, 3) := by decide +kernel
theorem dX7_show_43 : decode cX7_show 43 = .ok (.iload 5, 2) := by decide +kernel
theorem dX7_show_45 : decode cX7_show 45 = .ok (.aaload, 1) := by decide +kernel
theorem dX7_show_46 : decode cX7_show 46 = .ok (.getfield 63, 3) := by decide +kernel
theorem dX7_show_49 : decode cX7_show 49 = .ok (.iload_n 2, 1) := by decide +kernel
theorem dX7_show_50 : decode cX7_show 50 = .ok (.iload_n 3, 1) := by decide +kernel
theorem dX7_show_51 : decode cX7_show 51 = .ok (.iastore, 1) := by decide +kernel
theorem dX7_show_52 : decode cX7_show 52 = .ok (.iinc 4 1, 3) := by decide +kernel
theorem dX7_show_55 : decode cX7_show 55 = .ok (.iinc 5 1, 3) := by decide +kernel
theorem dX7_show_58 : decode cX7_show 58 = .ok (.goto (-52), 3) := by decide +kernel
theorem dX7_show_61 : decode cX7_show 61 = .ok (.iload 4, 2) := by decide +kernel
theorem dX7_show_63 : decode cX7_show 63 = .ok (.ireturn, 1) := by decide +kernel
theorem dX7_changeRoom_0 : decode cX7_changeRoom 0 = .ok (.aload_n 0, 1) := by decide +kernel
theorem dX7_changeRoom_1 : decode cX7_changeRoom 1 = .ok (.iload_n 1, 1) := by decide +kernel
theorem dX7_changeRoom_2 : decode cX7_changeRoom 2 = .ok (.putfield 35, 3) := by decide +kernel
theorem dX7_changeRoom_5 : decode cX7_changeRoom 5 = .ok (.iconst 0, 1) := by decide +kernel
theorem dX7_changeRoom_6 : decode cX7_changeRoom 6 = .ok (.istore_n 2, 1) := by decide +kernel
theorem dX7_changeRoom_7 : decode cX7_changeRoom 7 = .ok (.iload_n 2, 1) := by decide +kernel
theorem dX7_changeRoom_8 : decode cX7_changeRoom 8 = .ok (.iconst 4, 1) := by decide +kernel
theorem dX7_changeRoom_9 : decode cX7_changeRoom 9 = .ok (.if_icmp .ge 25, 3) := by decide +kernel
theorem dX7_changeRoom_12 : decode cX7_changeRoom 12 = .ok (.aload_n 0, 1) := by decide +kernel
theorem dX7_changeRoom_13 : decode cX7_changeRoom 13 = .ok (.getfield 21, 3) := by decide +kernel
theorem dX7_changeRoom_16 : decode cX7_changeRoom 16 = .ok (.iload_n 2, 1) := by decide +kernel
theorem dX7_changeRoom_17 : decode cX7_changeRoom 17 = .ok (.aaload, 1) := by decide +kernel
theorem dX7_changeRoom_18 : decode cX7_changeRoom 18 = .ok (.getfield 66, 3) := by decide +kernel
theorem dX7_changeRoom_21 : decode cX7_changeRoom 21 = .ok (.aload_n 0, 1) := by decide +kernel
theorem dX7_changeRoom_22 : decode cX7_changeRoom 22 = .ok (.getfield 35, 3) := by decide +kernel
theorem dX7_changeRoom_25 : decode cX7_changeRoom 25 = .ok (.invokevirtual 70, 3) := by decide +kernel
theorem dX7_changeRoom_28 : decode cX7_changeRoom 28 = .ok (.iinc 2 1, 3) := by decide +kernel
theorem dX7_changeRoom_31 : decode cX7_changeRoom 31 = .ok (.goto (-24), 3) := by decide +kernel
theorem dX7_changeRoom_34 : decode cX7_changeRoom 34 = .ok (.return_, 1) := by decide +kernel
theorem dX7_changeAge_0 : decode cX7_changeAge 0 = .ok (.aload_n 0, 1) := by decide +kernel
theorem dX7_changeAge_1 : decode cX7_changeAge 1 = .ok (.iload_n 1, 1) := by decide +kernel
theorem dX7_changeAge_2 : decode cX7_changeAge 2 = .ok (.putfield 38, 3) := by decide +kernel
theorem dX7_changeAge_5 : decode cX7_changeAge 5 = .ok (.aload_n 0, 1) := by decide +kernel
theorem dX7_changeAge_6 : decode cX7_changeAge 6 = .ok (.invokevirtual 76, 3) := by decide +kernel
theorem dX7_changeAge_9 : decode cX7_changeAge 9 = .ok (.return_, 1) := by decide +kernel
theorem dX7_passTicks_0 : decode cX7_passTicks 0 = .ok (.aload_n 0, 1) := by decide +kernel
theorem dX7_passTicks_1 : decode cX7_passTicks 1 = .ok (.dup, 1) := by decide +kernel
theorem dX7_passTicks_2 : decode cX7_passTicks 2 = .ok (.getfield 32, 3) := by decide +kernel
theorem dX7_passTicks_5 : decode cX7_passTicks 5 = .ok (.iload_n 1, 1) := by decide +kernel
theorem dX7_passTicks_6 : decode cX7_passTicks 6 = .ok (.iadd, 1) := by decide +kernel
theorem dX7_passTicks_7 : decode cX7_passTicks 7 = .ok (.putfield 32, 3) := by decide +kernel
theorem dX7_passTicks_10 : decode cX7_passTicks 10 = .ok (.aload_n 0, 1) := by decide +kernel
theorem dX7_passTicks_11 : decode cX7_passTicks 11 = .ok (.invokevirtual 76, 3) := by decide +kernel
theorem dX7_passTicks_14 : decode cX7_passTicks 14 = .ok (.return_, 1) := by decide +kernel
theorem dX7_forgetAged_0 : decode cX7_forgetAged 0 = .ok (.iconst 0, 1) := by decide +kernel
theorem dX7_forgetAged_1 : decode cX7_forgetAged 1 = .ok (.istore_n 1, 1) := by decide +kernel
theorem dX7_forgetAged_2 : decode cX7_forgetAged 2 = .ok (.iload_n 1, 1) := by decide +kernel
theorem dX7_forgetAged_3 : decode cX7_forgetAged 3 = .ok (.iconst 4, 1) := by decide +kernel
theorem dX7_forgetAged_4 : decode cX7_forgetAged 4 = .ok (.if_icmp .ge 30, 3) := by decide +kernel
theorem dX7_forgetAged_7 : decode cX7_forgetAged 7 = .ok (.aload_n 0, 1) := by decide +kernel
theorem dX7_forgetAged_8 : decode cX7_forgetAged 8 = .ok (.getfield 21, 3) := by decide +kernel
theorem dX7_forgetAged_11 : decode cX7_forgetAged 11 = .ok (.iload_n 1, 1) := by decide +kernel
theorem dX7_forgetAged_12 : decode cX7_forgetAged 12 = .ok (.aaload, 1) := by decide +kernel
theorem dX7_forgetAged_13 : decode cX7_forgetAged 13 = .ok (.getfield 66, 3) := by decide +kernel
theorem dX7_forgetAged_16 : decode cX7_forgetAged 16 = .ok (.aload_n 0, 1) := by decide +kernel
theorem dX7_forgetAged_17 : decode cX7_forgetAged 17 = .ok (.getfield 32, 3) := by decide +kernel
theorem dX7_forgetAged_20 : decode cX7_forgetAged 20 = .ok (.aload_n 0, 1) := by decide +kernel
theorem dX7_forgetAged_21 : decode cX7_forgetAged 21 = .ok (.getfield 38, 3) := by decide +kernel
theorem dX7_forgetAged_24 : decode cX7_forgetAged 24 = .ok (.isub, 1) := by decide +kernel
theorem dX7_forgetAged_25 : decode cX7_forgetAged 25 = .ok (.invokevirtual 79, 3) := by decide +kernel
theorem dX7_forgetAged_28 : decode cX7_forgetAged 28 = .ok (.iinc 1 1, 3) := by decide +kernel
theorem dX7_forgetAged_31 : decode cX7_forgetAged 31 = .ok (.goto (-29), 3) := by decide +kernel
theorem dX7_forgetAged_34 : decode cX7_forgetAged 34 = .ok (.return_, 1) := by decide +kernel
theorem dX7_send_0 : decode cX7_send 0 = .ok (.aload_n 0, 1) := by decide +kernel
theorem dX7_send_1 : decode cX7_send 1 = .ok (.getfield 21, 3) := by decide +kernel
theorem dX7_send_4 : decode cX7_send 4 = .ok (.iload_n 1, 1) := by decide +kernel
theorem dX7_send_5 : decode cX7_send 5 = .ok (.aaload, 1) := by decide +kernel
theorem dX7_send_6 : decode cX7_send 6 = .ok (.astore_n 3, 1) := by decide +kernel
theorem dX7_send_7 : decode cX7_send 7 = .ok (.aload_n 3, 1) := by decide +kernel
theorem dX7_send_8 : decode cX7_send 8 = .ok (.iload_n 2, 1) := by decide +kernel
theorem dX7_send_9 : decode cX7_send 9 = .ok (.invokevirtual 82, 3) := by decide +kernel
theorem dX7_send_12 : decode cX7_send 12 = .ok (.istore 4, 2) := by decide +kernel
theorem dX7_send_14 : decode cX7_send 14 = .ok (.iload 4, 2) := by decide +kernel
theorem dX7_send_16 : decode cX7_send 16 = .ok (.iconst (-1), 1) := by decide +kernel
theorem dX7_send_17 : decode cX7_send 17 = .ok (.if_icmp .ne 44, 3) := by decide +kernel
theorem dX7_send_20 : decode cX7_send 20 = .ok (.aload_n 0, 1) := by decide +kernel
theorem dX7_send_21 : decode cX7_send 21 = .ok (.getfield 41, 3) := by decide +kernel
theorem dX7_send_24 : decode cX7_send 24 = .ok (.aload_n 0, 1) := by decide +kernel
theorem dX7_send_25 : decode cX7_send 25 = .ok (.getfield 41, 3) := by decide +kernel
theorem dX7_send_28 : decode cX7_send 28 = .ok (.getfield 86, 3) := by decide +kernel
theorem dX7_send_31 : decode cX7_send 31 = .ok (.aload_n 0, 1) := by decide +kernel
theorem dX7_send_32 : decode cX7_send 32 = .ok (.aload_n 3, 1) := by decide +kernel
theorem dX7_send_33 : decode cX7_send 33 = .ok (.invokevirtual 91, 3) := by decide +kernel
theorem dX7_send_36 : decode cX7_send 36 = .ok (.aload_n 0, 1) := by decide +kernel
theorem dX7_send_37 : decode cX7_send 37 = .ok (.getfield 25, 3) := by decide +kernel
theorem dX7_send_40 : decode cX7_send 40 = .ok (.invokevirtual 95, 3) := by decide +kernel
theorem dX7_send_43 : decode cX7_send 43 = .ok (.aload_n 0, 1) := by decide +kernel
theorem dX7_send_44 : decode cX7_send 44 = .ok (.getfield 41, 3) := by decide +kernel
theorem dX7_send_47 : decode cX7_send 47 = .ok (.getfield 86, 3) := by decide +kernel
theorem dX7_send_50 : decode cX7_send 50 = .ok (.iload_n 2, 1) := by decide +kernel
theorem dX7_send_51 : decode cX7_send 51 = .ok (.aload_n 0, 1) := by decide +kernel
theorem dX7_send_52 : decode cX7_send 52 = .ok (.getfield 25, 3) := by decide +kernel
theorem dX7_send_55 : decode cX7_send 55 = .ok (.invokestatic 99, 3) := by decide +kernel
theorem dX7_send_58 : decode cX7_send 58 = .ok (.iaload, 1) := by decide +kernel
theorem dX7_send_59 : decode cX7_send 59 = .ok (.istore 4, 2) := by decide +kernel
theorem dX7_send_61 : decode cX7_send 61 = .ok (.iload 4, 2) := by decide +kernel
theorem dX7_send_63 : decode cX7_send 63 = .ok (.iconst (-1), 1) := by decide +kernel
theorem dX7_send_64 : decode cX7_send 64 = .ok (.if_icmp .eq 24, 3) := by decide +kernel
theorem dX7_send_67 : decode cX7_send 67 = .ok (.aload_n 3, 1) := by decide +kernel
theorem dX7_send_68 : decode cX7_send 68 = .ok (.getfield 66, 3) := by decide +kernel
theorem dX7_send_71 : decode cX7_send 71 = .ok (.iload_n 2, 1) := by decide +kernel
theorem dX7_send_72 : decode cX7_send 72 = .ok (.iload 4, 2) := by decide +kernel
theorem dX7_send_74 : decode cX7_send 74 = .ok (.aload_n 0, 1) := by decide +kernel
theorem dX7_send_75 : decode cX7_send 75 = .ok (.getfield 32, 3) := by decide +kernel
theorem dX7_send_78 : decode cX7_send 78 = .ok (.aload_n 0, 1) := by decide +kernel
theorem dX7_send_79 : decode cX7_send 79 = .ok (.getfield 35, 3) := by decide +kernel
theorem dX7_send_82 : decode cX7_send 82 = .ok (.invokevirtual 103, 3) := by decide +kernel
theorem dX7_send_85 : decode cX7_send 85 = .ok (.iload 4, 2) := by decide +kernel
theorem dX7_send_87 : decode cX7_send 87 = .ok (.ireturn, 1) := by decide +kernel
theorem dX7_send_88 : decode cX7_send 88 = .ok (.aload_n 3, 1) := by decide +kernel
theorem dX7_send_89 : decode cX7_send 89 = .ok (.getfield 66, 3) := by decide +kernel
theorem dX7_send_92 : decode cX7_send 92 = .ok (.iload_n 2, 1) := by decide +kernel
theorem dX7_send_93 : decode cX7_send 93 = .ok (.invokevirtual 107, 3) := by decide +kernel
theorem dX7_send_96 : decode cX7_send 96 = .ok (.istore 5, 2) := by decide +kernel
theorem dX7_send_98 : decode cX7_send 98 = .ok (.iload 5, 2) := by decide +kernel
theorem dX7_send_100 : decode cX7_send 100 = .ok (.iconst (-1), 1) := by decide +kernel
theorem dX7_send_101 : decode cX7_send 101 = .ok (.if_icmp .eq 12, 3) := by decide +kernel
theorem dX7_send_104 : decode cX7_send 104 = .ok (.aload_n 3, 1) := by decide +kernel
theorem dX7_send_105 : decode cX7_send 105 = .ok (.getfield 66, 3) := by decide +kernel
theorem dX7_send_108 : decode cX7_send 108 = .ok (.iload 5, 2) := by decide +kernel
theorem dX7_send_110 : decode cX7_send 110 = .ok (.invokevirtual 110, 3) := by decide +kernel
theorem dX7_send_113 : decode cX7_send 113 = .ok (.iconst (-1), 1) := by decide +kernel
theorem dX7_send_114 : decode cX7_send 114 = .ok (.ireturn, 1) := by decide +kernel
theorem dX7_perform_0 : decode cX7_perform 0 = .ok (.getstatic 113, 3) := by decide +kernel
theorem dX7_perform_3 : decode cX7_perform 3 = .ok (.aload_n 1, 1) := by decide +kernel
theorem dX7_perform_4 : decode cX7_perform 4 = .ok (.invokevirtual 118, 3) := by decide +kernel
theorem dX7_perform_7 : decode cX7_perform 7 = .ok (.iaload, 1) := by decide +kernel
theorem dX7_perform_8 : decode cX7_perform 8 = .ok (.tableswitch 128 1 7 #[44, 54, 67, 81, 98, 108, 118], 44) := by decide +kernel
theorem dX7_perform_52 : decode cX7_perform 52 = .ok (.aload_n 0, 1) := by decide +kernel
theorem dX7_perform_53 : decode cX7_perform 53 = .ok (.aload_n 2, 1) := by decide +kernel
theorem dX7_perform_54 : decode cX7_perform 54 = .ok (.iconst 0, 1) := by decide +kernel
theorem dX7_perform_55 : decode cX7_perform 55 = .ok (.iaload, 1) := by decide +kernel
theorem dX7_perform_56 : decode cX7_perform 56 = .ok (.invokevirtual 123, 3) := by decide +kernel
theorem dX7_perform_59 : decode cX7_perform 59 = .ok (.goto 113, 3) := by decide +kernel
theorem dX7_perform_62 : decode cX7_perform 62 = .ok (.aload_n 0, 1) := by decide +kernel
theorem dX7_perform_63 : decode cX7_perform 63 = .ok (.aload_n 2, 1) := by decide +kernel
theorem dX7_perform_64 : decode cX7_perform 64 = .ok (.iconst 0, 1) := by decide +kernel
theorem dX7_perform_65 : decode cX7_perform 65 = .ok (.iaload, 1) := by decide +kernel
theorem dX7_perform_66 : decode cX7_perform 66 = .ok (.aload_n 2, 1) := by decide +kernel
theorem dX7_perform_67 : decode cX7_perform 67 = .ok (.iconst 1, 1) := by decide +kernel
theorem dX7_perform_68 : decode cX7_perform 68 = .ok (.iaload, 1) := by decide +kernel
theorem dX7_perform_69 : decode cX7_perform 69 = .ok (.invokevirtual 126, 3) := by decide +kernel
theorem dX7_perform_72 : decode cX7_perform 72 = .ok (.goto 100, 3) := by decide +kernel
theorem dX7_perform_75 : decode cX7_perform 75 = .ok (.aload_n 0, 1) := by decide +kernel
theorem dX7_perform_76 : decode cX7_perform 76 = .ok (.getfield 15, 3) := by decide +kernel
theorem dX7_perform_79 : decode cX7_perform 79 = .ok (.aload_n 2, 1) := by decide +kernel
theorem dX7_perform_80 : decode cX7_perform 80 = .ok (.iconst 0, 1) := by decide +kernel
theorem dX7_perform_81 : decode cX7_perform 81 = .ok (.iaload, 1) := by decide +kernel
theorem dX7_perform_82 : decode cX7_perform 82 = .ok (.aload_n 2, 1) := by decide +kernel
theorem dX7_perform_83 : decode cX7_perform 83 = .ok (.iconst 1, 1) := by decide +kernel
theorem dX7_perform_84 : decode cX7_perform 84 = .ok (.iaload, 1) := by decide +kernel
theorem dX7_perform_85 : decode cX7_perform 85 = .ok (.iastore, 1) := by decide +kernel
theorem dX7_perform_86 : decode cX7_perform 86 = .ok (.goto 86, 3) := by decide +kernel
theorem dX7_perform_89 : decode cX7_perform 89 = .ok (.aload_n 0, 1) := by decide +kernel
theorem dX7_perform_90 : decode cX7_perform 90 = .ok (.aload_n 2, 1) := by decide +kernel
theorem dX7_perform_91 : decode cX7_perform 91 = .ok (.iconst 0, 1) := by decide +kernel
theorem dX7_perform_92 : decode cX7_perform 92 = .ok (.iaload, 1) := by decide +kernel
theorem dX7_perform_93 : decode cX7_perform 93 = .ok (.aload_n 2, 1) := by decide +kernel
theorem dX7_perform_94 : decode cX7_perform 94 = .ok (.iconst 1, 1) := by decide +kernel
theorem dX7_perform_95 : decode cX7_perform 95 = .ok (.iaload, 1) := by decide +kernel
theorem dX7_perform_96 : decode cX7_perform 96 = .ok (.aload_n 2, 1) := by decide +kernel
theorem dX7_perform_97 : decode cX7_perform 97 = .ok (.iconst 2, 1) := by decide +kernel
theorem dX7_perform_98 : decode cX7_perform 98 = .ok (.iaload, 1) := by decide +kernel
theorem dX7_perform_99 : decode cX7_perform 99 = .ok (.invokevirtual 59, 3) := by decide +kernel
theorem dX7_perform_102 : decode cX7_perform 102 = .ok (.pop, 1) := by decide +kernel
theorem dX7_perform_103 : decode cX7_perform 103 = .ok (.goto 69, 3) := by decide +kernel
theorem dX7_perform_106 : decode cX7_perform 106 = .ok (.aload_n 0, 1) := by decide +kernel
theorem dX7_perform_107 : decode cX7_perform 107 = .ok (.aload_n 2, 1) := by decide +kernel
theorem dX7_perform_108 : decode cX7_perform 108 = .ok (.iconst 0, 1) := by decide +kernel
theorem dX7_perform_109 : decode cX7_perform 109 = .ok (.iaload, 1) := by decide +kernel
theorem dX7_perform_110 : decode cX7_perform 110 = .ok (.invokevirtual 130, 3) := by decide +kernel
theorem dX7_perform_113 : decode cX7_perform 113 = .ok (.goto 59, 3) := by decide +kernel
theorem dX7_perform_116 : decode cX7_perform 116 = .ok (.aload_n 0, 1) := by decide +kernel
theorem dX7_perform_117 : decode cX7_perform 117 = .ok (.aload_n 2, 1) := by decide +kernel
theorem dX7_perform_118 : decode cX7_perform 118 = .ok (.iconst 0, 1) := by decide +kernel
theorem dX7_perform_119 : decode cX7_perform 119 = .ok (.iaload, 1) := by decide +kernel
theorem dX7_perform_120 : decode cX7_perform 120 = .ok (.invokevirtual 133, 3) := by decide +kernel
theorem dX7_perform_123 : decode cX7_perform 123 = .ok (.goto 49, 3) := by decide +kernel
theorem dX7_perform_126 : decode cX7_perform 126 = .ok (.aload_n 0, 1) := by decide +kernel
theorem dX7_perform_127 : decode cX7_perform 127 = .ok (.aload_n 2, 1) := by decide +kernel
theorem dX7_perform_128 : decode cX7_perform 128 = .ok (.iconst 0, 1) := by decide +kernel
theorem dX7_perform_129 : decode cX7_perform 129 = .ok (.iaload, 1) := by decide +kernel
theorem dX7_perform_130 : decode cX7_perform 130 = .ok (.invokevirtual 136, 3) := by decide +kernel
theorem dX7_perform_133 : decode cX7_perform 133 = .ok (.goto 39, 3) := by decide +kernel
theorem dX7_perform_136 : decode cX7_perform 136 = .ok (.iconst 0, 1) := by decide +kernel
theorem dX7_perform_137 : decode cX7_perform 137 = .ok (.istore_n 3, 1) := by decide +kernel
theorem dX7_perform_138 : decode cX7_perform 138 = .ok (.iload_n 3, 1) := by decide +kernel
theorem dX7_perform_139 : decode cX7_perform 139 = .ok (.iconst 4, 1) := by decide +kernel
theorem dX7_perform_140 : decode cX7_perform 140 = .ok (.if_icmp .ge 32, 3) := by decide +kernel
theorem dX7_perform_143 : decode cX7_perform 143 = .ok (.aload_n 2, 1) := by decide +kernel
theorem dX7_perform_144 : decode cX7_perform 144 = .ok (.iconst 0, 1) := by decide +kernel
theorem dX7_perform_145 : decode cX7_perform 145 = .ok (.iaload, 1) := by decide +kernel
theorem dX7_perform_146 : decode cX7_perform 146 = .ok (.iconst (-1), 1) := by decide +kernel
theorem dX7_perform_147 : decode cX7_perform 147 = .ok (.if_icmp .eq 10, 3) := by decide +kernel
theorem dX7_perform_150 : decode cX7_perform 150 = .ok (.aload_n 2, 1) := by decide +kernel
theorem dX7_perform_151 : decode cX7_perform 151 = .ok (.iconst 0, 1) := by decide +kernel
theorem dX7_perform_152 : decode cX7_perform 152 = .ok (.iaload, 1) := by decide +kernel
theorem dX7_perform_153 : decode cX7_perform 153 = .ok (.iload_n 3, 1) := by decide +kernel
theorem dX7_perform_154 : decode cX7_perform 154 = .ok (.if_icmp .ne 12, 3) := by decide +kernel
theorem dX7_perform_157 : decode cX7_perform 157 = .ok (.aload_n 0, 1) := by decide +kernel
theorem dX7_perform_158 : decode cX7_perform 158 = .ok (.iload_n 3, 1) := by decide +kernel
theorem dX7_perform_159 : decode cX7_perform 159 = .ok (.aload_n 2, 1) := by decide +kernel
theorem dX7_perform_160 : decode cX7_perform 160 = .ok (.iconst 1, 1) := by decide +kernel
theorem dX7_perform_161 : decode cX7_perform 161 = .ok (.iaload, 1) := by decide +kernel
theorem dX7_perform_162 : decode cX7_perform 162 = .ok (.invokevirtual 139, 3) := by decide +kernel
theorem dX7_perform_165 : decode cX7_perform 165 = .ok (.pop, 1) := by decide +kernel
theorem dX7_perform_166 : decode cX7_perform 166 = .ok (.iinc 3 1, 3) := by decide +kernel
theorem dX7_perform_169 : decode cX7_perform 169 = .ok (.goto (-31), 3) := by decide +kernel
theorem dX7_perform_172 : decode cX7_perform 172 = .ok (.return_, 1) := by decide +kernel
theorem dX8_init_0 : decode cX8_init 0 = .ok (.aload_n 0, 1) := by decide +kernel
theorem dX8_init_1 : decode cX8_init 1 = .ok (.invokespecial 1, 3) := by decide +kernel
theorem dX8_init_4 : decode cX8_init 4 = .ok (.aload_n 0, 1) := by decide +kernel
theorem dX8_init_5 : decode cX8_init 5 = .ok (.new 7, 3) := by decide +kernel
theorem dX8_init_8 : decode cX8_init 8 = .ok (.dup, 1) := by decide +kernel
theorem dX8_init_9 : decode cX8_init 9 = .ok (.invokespecial 9, 3) := by decide +kernel
theorem dX8_init_12 : decode cX8_init 12 = .ok (.putfield 10, 3) := by decide +kernel
theorem dX8_init_15 : decode cX8_init 15 = .ok (.aload_n 0, 1) := by decide +kernel
theorem dX8_init_16 : decode cX8_init 16 = .ok (.new 16, 3) := by decide +kernel
theorem dX8_init_19 : decode cX8_init 19 = .ok (.dup, 1) := by decide +kernel
theorem dX8_init_20 : decode cX8_init 20 = .ok (.invokespecial 18, 3) := by decide +kernel
theorem dX8_init_23 : decode cX8_init 23 = .ok (.putfield 19, 3) := by decide +kernel
theorem dX8_init_26 : decode cX8_init 26 = .ok (.aload_n 0, 1) := by decide +kernel
theorem dX8_init_27 : decode cX8_init 27 = .ok (.new 23, 3) := by decide +kernel
theorem dX8_init_30 : decode cX8_init 30 = .ok (.dup, 1) := by decide +kernel
theorem dX8_init_31 : decode cX8_init 31 = .ok (.aload_n 0, 1) := by decide +kernel
theorem dX8_init_32 : decode cX8_init 32 = .ok (.getfield 19, 3) := by decide +kernel
theorem dX8_init_35 : decode cX8_init 35 = .ok (.invokespecial 25, 3) := by decide +kernel
theorem dX8_init_38 : decode cX8_init 38 = .ok (.putfield 28, 3) := by decide +kernel
theorem dX8_init_41 : decode cX8_init 41 = .ok (.aload_n 0, 1) := by decide +kernel
theorem dX8_init_42 : decode cX8_init 42 = .ok (.new 23, 3) := by decide +kernel
theorem dX8_init_45 : decode cX8_init 45 = .ok (.dup, 1) := by decide +kernel
theorem dX8_init_46 : decode cX8_init 46 = .ok (.aload_n 0, 1) := by decide +kernel
theorem dX8_init_47 : decode cX8_init 47 = .ok (.getfield 19, 3) := by decide +kernel
theorem dX8_init_50 : decode cX8_init 50 = .ok (.invokespecial 25, 3) := by decide +kernel
theorem dX8_init_53 : decode cX8_init 53 = .ok (.putfield 32, 3) := by decide +kernel
theorem dX8_init_56 : decode cX8_init 56 = .ok (.aload_n 0, 1) := by decide +kernel
theorem dX8_init_57 : decode cX8_init 57 = .ok (.new 35, 3) := by decide +kernel
theorem dX8_init_60 : decode cX8_init 60 = .ok (.dup, 1) := by decide +kernel
theorem dX8_init_61 : decode cX8_init 61 = .ok (.aload_n 0, 1) := by decide +kernel
theorem dX8_init_62 : decode cX8_init 62 = .ok (.getfield 10, 3) := by decide +kernel
theorem dX8_init_65 : decode cX8_init 65 = .ok (.invokespecial 37, 3) := by decide +kernel
theorem dX8_init_68 : decode cX8_init 68 = .ok (.putfield 40, 3) := by decide +kernel
theorem dX8_init_71 : decode cX8_init 71 = .ok (.return_, 1) := by decide +kernel
theorem dX8_feed_0 : decode cX8_feed 0 = .ok (.aload_n 0, 1) := by decide +kernel
theorem dX8_feed_1 : decode cX8_feed 1 = .ok (.getfield 10, 3) := by decide +kernel
theorem dX8_feed_4 : decode cX8_feed 4 = .ok (.getfield 44, 3) := by decide +kernel
theorem dX8_feed_7 : decode cX8_feed 7 = .ok (.bipush 20, 2) := by decide +kernel
theorem dX8_feed_9 : decode cX8_feed 9 = .ok (.iadd, 1) := by decide +kernel
theorem dX8_feed_10 : decode cX8_feed 10 = .ok (.sipush 400, 3) := by decide +kernel
theorem dX8_feed_13 : decode cX8_feed 13 = .ok (.if_icmp .le 5, 3) := by decide +kernel
theorem dX8_feed_16 : decode cX8_feed 16 = .ok (.iconst (-1), 1) := by decide +kernel
theorem dX8_feed_17 : decode cX8_feed 17 = .ok (.ireturn, 1) := by decide +kernel
theorem dX8_feed_18 : decode cX8_feed 18 = .ok (.aload_n 0, 1) := by decide +kernel
theorem dX8_feed_19 : decode cX8_feed 19 = .ok (.getfield 10, 3) := by decide +kernel
theorem dX8_feed_22 : decode cX8_feed 22 = .ok (.iload_n 1, 1) := by decide +kernel
theorem dX8_feed_23 : decode cX8_feed 23 = .ok (.invokevirtual 48, 3) := by decide +kernel
theorem dX8_feed_26 : decode cX8_feed 26 = .ok (.aload_n 0, 1) := by decide +kernel
theorem dX8_feed_27 : decode cX8_feed 27 = .ok (.getfield 10, 3) := by decide +kernel
theorem dX8_feed_30 : decode cX8_feed 30 = .ok (.iload_n 2, 1) := by decide +kernel
theorem dX8_feed_31 : decode cX8_feed 31 = .ok (.invokevirtual 48, 3) := by decide +kernel
theorem dX8_feed_34 : decode cX8_feed 34 = .ok (.aload_n 0, 1) := by decide +kernel
theorem dX8_feed_35 : decode cX8_feed 35 = .ok (.getfield 10, 3) := by decide +kernel
theorem dX8_feed_38 : decode cX8_feed 38 = .ok (.iload_n 3, 1) := by decide +kernel
theorem dX8_feed_39 : decode cX8_feed 39 = .ok (.invokevirtual 48, 3) := by decide +kernel
theorem dX8_feed_42 : decode cX8_feed 42 = .ok (.aload_n 0, 1) := by decide +kernel
theorem dX8_feed_43 : decode cX8_feed 43 = .ok (.getfield 10, 3) := by decide +kernel
theorem dX8_feed_46 : decode cX8_feed 46 = .ok (.iload 4, 2) := by decide +kernel
theorem dX8_feed_48 : decode cX8_feed 48 = .ok (.invokevirtual 48, 3) := by decide +kernel
theorem dX8_feed_51 : decode cX8_feed 51 = .ok (.aload_n 0, 1) := by decide +kernel
theorem dX8_feed_52 : decode cX8_feed 52 = .ok (.getfield 10, 3) := by decide +kernel
theorem dX8_feed_55 : decode cX8_feed 55 = .ok (.iload 5, 2) := by decide +kernel
theorem dX8_feed_57 : decode cX8_feed 57 = .ok (.invokevirtual 48, 3) := by decide +kernel
theorem dX8_feed_60 : decode cX8_feed 60 = .ok (.aload_n 0, 1) := by decide +kernel
theorem dX8_feed_61 : decode cX8_feed 61 = .ok (.getfield 10, 3) := by decide +kernel
theorem dX8_feed_64 : decode cX8_feed 64 = .ok (.getfield 44, 3) := by decide +kernel
theorem dX8_feed_67 : decode cX8_feed 67 = .ok (.ireturn, 1) := by decide +kernel
theorem dX8_end_0 : decode cX8_end 0 = .ok (.iload_n 1, 1) := by decide +kernel
theorem dX8_end_1 : decode cX8_end 1 = .ok (.ifCond .lt 14, 3) := by decide +kernel
theorem dX8_end_4 : decode cX8_end 4 = .ok (.iload_n 1, 1) := by decide +kernel
theorem dX8_end_5 : decode cX8_end 5 = .ok (.aload_n 0, 1) := by decide +kernel
theorem dX8_end_6 : decode cX8_end 6 = .ok (.getfield 10, 3) := by decide +kernel
theorem dX8_end_9 : decode cX8_end 9 = .ok (.getfield 44, 3) := by decide +kernel
theorem dX8_end_12 : decode cX8_end 12 = .ok (.if_icmp .le 5, 3) := by decide +kernel
theorem dX8_end_15 : decode cX8_end 15 = .ok (.iconst 0, 1) := by decide +kernel
theorem dX8_end_16 : decode cX8_end 16 = .ok (.ireturn, 1) := by decide +kernel
theorem dX8_end_17 : decode cX8_end 17 = .ok (.aload_n 0, 1) := by decide +kernel
theorem dX8_end_18 : decode cX8_end 18 = .ok (.getfield 10, 3) := by decide +kernel
theorem dX8_end_21 : decode cX8_end 21 = .ok (.iload_n 1, 1) := by decide +kernel
theorem dX8_end_22 : decode cX8_end 22 = .ok (.putfield 44, 3) := by decide +kernel
theorem dX8_end_25 : decode cX8_end 25 = .ok (.iconst 1, 1) := by decide +kernel
theorem dX8_end_26 : decode cX8_end 26 = .ok (.ireturn, 1) := by decide +kernel
theorem dX8_tell_0 : decode cX8_tell 0 = .ok (.iconst 0, 1) := by decide +kernel
theorem dX8_tell_1 : decode cX8_tell 1 = .ok (.istore_n 1, 1) := by decide +kernel
theorem dX8_tell_2 : decode cX8_tell 2 = .ok (.aload_n 0, 1) := by decide +kernel
theorem dX8_tell_3 : decode cX8_tell 3 = .ok (.getfield 32, 3) := by decide +kernel
theorem dX8_tell_6 : decode cX8_tell 6 = .ok (.aload_n 0, 1) := by decide +kernel
theorem dX8_tell_7 : decode cX8_tell 7 = .ok (.getfield 28, 3) := by decide +kernel
theorem dX8_tell_10 : decode cX8_tell 10 = .ok (.invokevirtual 52, 3) := by decide +kernel
theorem dX8_tell_13 : decode cX8_tell 13 = .ok (.aload_n 0, 1) := by decide +kernel
theorem dX8_tell_14 : decode cX8_tell 14 = .ok (.getfield 40, 3) := by decide +kernel
theorem dX8_tell_17 : decode cX8_tell 17 = .ok (.invokevirtual 56, 3) := by decide +kernel
theorem dX8_tell_20 : decode cX8_tell 20 = .ok (.iconst 0, 1) := by decide +kernel
theorem dX8_tell_21 : decode cX8_tell 21 = .ok (.istore_n 2, 1) := by decide +kernel
theorem dX8_tell_22 : decode cX8_tell 22 = .ok (.iload_n 2, 1) := by decide +kernel
theorem dX8_tell_23 : decode cX8_tell 23 = .ok (.sipush 400, 3) := by decide +kernel
theorem dX8_tell_26 : decode cX8_tell 26 = .ok (.if_icmp .ge 57, 3) := by decide +kernel
theorem dX8_tell_29 : decode cX8_tell 29 = .ok (.aload_n 0, 1) := by decide +kernel
theorem dX8_tell_30 : decode cX8_tell 30 = .ok (.getfield 40, 3) := by decide +kernel
theorem dX8_tell_33 : decode cX8_tell 33 = .ok (.invokevirtual 59, 3) := by decide +kernel
theorem dX8_tell_36 : decode cX8_tell 36 = .ok (.ifCond .eq 47, 3) := by decide +kernel
theorem dX8_tell_39 : decode cX8_tell 39 = .ok (.aload_n 0, 1) := by decide +kernel
theorem dX8_tell_40 : decode cX8_tell 40 = .ok (.getfield 40, 3) := by decide +kernel
theorem dX8_tell_43 : decode cX8_tell 43 = .ok (.aload_n 0, 1) := by decide +kernel
theorem dX8_tell_44 : decode cX8_tell 44 = .ok (.getfield 32, 3) := by decide +kernel
theorem dX8_tell_47 : decode cX8_tell 47 = .ok (.invokevirtual 63, 3) := by decide +kernel
theorem dX8_tell_50 : decode cX8_tell 50 = .ok (.ifCond .eq 27, 3) := by decide +kernel
theorem dX8_tell_53 : decode cX8_tell 53 = .ok (.aload_n 0, 1) := by decide +kernel
theorem dX8_tell_54 : decode cX8_tell 54 = .ok (.getfield 32, 3) := by decide +kernel
theorem dX8_tell_57 : decode cX8_tell 57 = .ok (.aload_n 0, 1) := by decide +kernel
theorem dX8_tell_58 : decode cX8_tell 58 = .ok (.getfield 40, 3) := by decide +kernel
theorem dX8_tell_61 : decode cX8_tell 61 = .ok (.getfield 67, 3) := by decide +kernel
theorem dX8_tell_64 : decode cX8_tell 64 = .ok (.aload_n 0, 1) := by decide +kernel
theorem dX8_tell_65 : decode cX8_tell 65 = .ok (.getfield 40, 3) := by decide +kernel
theorem dX8_tell_68 : decode cX8_tell 68 = .ok (.getfield 71, 3) := by decide +kernel
theorem dX8_tell_71 : decode cX8_tell 71 = .ok (.invokevirtual 75, 3) := by decide +kernel
theorem dX8_tell_74 : decode cX8_tell 74 = .ok (.iinc 1 1, 3) := by decide +kernel
theorem dX8_tell_77 : decode cX8_tell 77 = .ok (.iinc 2 1, 3) := by decide +kernel
theorem dX8_tell_80 : decode cX8_tell 80 = .ok (.goto (-58), 3) := by decide +kernel
theorem dX8_tell_83 : decode cX8_tell 83 = .ok (.aload_n 0, 1) := by decide +kernel
theorem dX8_tell_84 : decode cX8_tell 84 = .ok (.getfield 10, 3) := by decide +kernel
theorem dX8_tell_87 : decode cX8_tell 87 = .ok (.iconst 0, 1) := by decide +kernel
theorem dX8_tell_88 : decode cX8_tell 88 = .ok (.putfield 44, 3) := by decide +kernel
theorem dX8_tell_91 : decode cX8_tell 91 = .ok (.aload_n 0, 1) := by decide +kernel
theorem dX8_tell_92 : decode cX8_tell 92 = .ok (.getfield 40, 3) := by decide +kernel
theorem dX8_tell_95 : decode cX8_tell 95 = .ok (.getfield 79, 3) := by decide +kernel
theorem dX8_tell_98 : decode cX8_tell 98 = .ok (.ifCond .eq 5, 3) := by decide +kernel
theorem dX8_tell_101 : decode cX8_tell 101 = .ok (.iconst (-1), 1) := by decide +kernel
theorem dX8_tell_102 : decode cX8_tell 102 = .ok (.ireturn, 1) := by decide +kernel
theorem dX8_tell_103 : decode cX8_tell 103 = .ok (.aload_n 0, 1) := by decide +kernel
theorem dX8_tell_104 : decode cX8_tell 104 = .ok (.getfield 28, 3) := by decide +kernel
theorem dX8_tell_107 : decode cX8_tell 107 = .ok (.astore_n 2, 1) := by decide +kernel
theorem dX8_tell_108 : decode cX8_tell 108 = .ok (.aload_n 0, 1) := by decide +kernel
theorem dX8_tell_109 : decode cX8_tell 109 = .ok (.aload_n 0, 1) := by decide +kernel
theorem dX8_tell_110 : decode cX8_tell 110 = .ok (.getfield 32, 3) := by decide +kernel
theorem dX8_tell_113 : decode cX8_tell 113 = .ok (.putfield 28, 3) := by decide +kernel
theorem dX8_tell_116 : decode cX8_tell 116 = .ok (.aload_n 0, 1) := by decide +kernel
theorem dX8_tell_117 : decode cX8_tell 117 = .ok (.aload_n 2, 1) := by decide +kernel
theorem dX8_tell_118 : decode cX8_tell 118 = .ok (.putfield 32, 3) := by decide +kernel
theorem dX8_tell_121 : decode cX8_tell 121 = .ok (.iload_n 1, 1) := by decide +kernel
theorem dX8_tell_122 : decode cX8_tell 122 = .ok (.ireturn, 1) := by decide +kernel
theorem dX8_fault_0 : decode cX8_fault 0 = .ok (.aload_n 0, 1) := by decide +kernel
theorem dX8_fault_1 : decode cX8_fault 1 = .ok (.getfield 40, 3) := by decide +kernel
theorem dX8_fault_4 : decode cX8_fault 4 = .ok (.getfield 79, 3) := by decide +kernel
theorem dX8_fault_7 : decode cX8_fault 7 = .ok (.ireturn, 1) := by decide +kernel
theorem dX8_size_0 : decode cX8_size 0 = .ok (.iload_n 1, 1) := by decide +kernel
theorem dX8_size_1 : decode cX8_size 1 = .ok (.aload_n 0, 1) := by decide +kernel
theorem dX8_size_2 : decode cX8_size 2 = .ok (.getfield 28, 3) := by decide +kernel
theorem dX8_size_5 : decode cX8_size 5 = .ok (.getfield 82, 3) := by decide +kernel
theorem dX8_size_8 : decode cX8_size 8 = .ok (.if_icmp .eq 10, 3) := by decide +kernel
theorem dX8_size_11 : decode cX8_size 11 = .ok (.iload_n 1, 1) := by decide +kernel
theorem dX8_size_12 : decode cX8_size 12 = .ok (.invokestatic 85, 3) := by decide +kernel
theorem dX8_size_15 : decode cX8_size 15 = .ok (.ifCond .ne 5, 3) := by decide +kernel
theorem dX8_size_18 : decode cX8_size 18 = .ok (.iconst 0, 1) := by decide +kernel
theorem dX8_size_19 : decode cX8_size 19 = .ok (.ireturn, 1) := by decide +kernel
theorem dX8_size_20 : decode cX8_size 20 = .ok (.aload_n 0, 1) := by decide +kernel
theorem dX8_size_21 : decode cX8_size 21 = .ok (.getfield 28, 3) := by decide +kernel
theorem dX8_size_24 : decode cX8_size 24 = .ok (.iload_n 1, 1) := by decide +kernel
theorem dX8_size_25 : decode cX8_size 25 = .ok (.invokevirtual 89, 3) := by decide +kernel
theorem dX8_size_28 : decode cX8_size 28 = .ok (.iconst 1, 1) := by decide +kernel
theorem dX8_size_29 : decode cX8_size 29 = .ok (.ireturn, 1) := by decide +kernel
theorem dX8_back_0 : decode cX8_back 0 = .ok (.iload_n 1, 1) := by decide +kernel
theorem dX8_back_1 : decode cX8_back 1 = .ok (.iconst 0, 1) := by decide +kernel
theorem dX8_back_2 : decode cX8_back 2 = .ok (.sipush 9999, 3) := by decide +kernel
theorem dX8_back_5 : decode cX8_back 5 = .ok (.invokestatic 92, 3) := by decide +kernel
theorem dX8_back_8 : decode cX8_back 8 = .ok (.ifCond .eq 24, 3) := by decide +kernel
theorem dX8_back_11 : decode cX8_back 11 = .ok (.iload_n 2, 1) := by decide +kernel
theorem dX8_back_12 : decode cX8_back 12 = .ok (.iconst 1, 1) := by decide +kernel
theorem dX8_back_13 : decode cX8_back 13 = .ok (.bipush 9, 2) := by decide +kernel
theorem dX8_back_15 : decode cX8_back 15 = .ok (.invokestatic 92, 3) := by decide +kernel
theorem dX8_back_18 : decode cX8_back 18 = .ok (.ifCond .eq 14, 3) := by decide +kernel
theorem dX8_back_21 : decode cX8_back 21 = .ok (.aload_n 0, 1) := by decide +kernel
theorem dX8_back_22 : decode cX8_back 22 = .ok (.getfield 28, 3) := by decide +kernel
theorem dX8_back_25 : decode cX8_back 25 = .ok (.iload_n 1, 1) := by decide +kernel
theorem dX8_back_26 : decode cX8_back 26 = .ok (.invokevirtual 96, 3) := by decide +kernel
theorem dX8_back_29 : decode cX8_back 29 = .ok (.ifCond .eq 5, 3) := by decide +kernel
theorem dX8_back_32 : decode cX8_back 32 = .ok (.iconst (-1), 1) := by decide +kernel
theorem dX8_back_33 : decode cX8_back 33 = .ok (.ireturn, 1) := by decide +kernel
theorem dX8_back_34 : decode cX8_back 34 = .ok (.aload_n 0, 1) := by decide +kernel
theorem dX8_back_35 : decode cX8_back 35 = .ok (.getfield 28, 3) := by decide +kernel
theorem dX8_back_38 : decode cX8_back 38 = .ok (.getfield 99, 3) := by decide +kernel
theorem dX8_back_41 : decode cX8_back 41 = .ok (.bipush 8, 2) := by decide +kernel
theorem dX8_back_43 : decode cX8_back 43 = .ok (.if_icmp .lt 6, 3) := by decide +kernel
theorem dX8_back_46 : decode cX8_back 46 = .ok (.bipush (-2), 2) := by decide +kernel
theorem dX8_back_48 : decode cX8_back 48 = .ok (.ireturn, 1) := by decide +kernel
theorem dX8_back_49 : decode cX8_back 49 = .ok (.aload_n 0, 1) := by decide +kernel
theorem dX8_back_50 : decode cX8_back 50 = .ok (.getfield 28, 3) := by decide +kernel
theorem dX8_back_53 : decode cX8_back 53 = .ok (.iload_n 1, 1) := by decide +kernel
theorem dX8_back_54 : decode cX8_back 54 = .ok (.iload_n 2, 1) := by decide +kernel
theorem dX8_back_55 : decode cX8_back 55 = .ok (.invokevirtual 102, 3) := by decide +kernel
theorem dX8_back_58 : decode cX8_back 58 = .ok (.aload_n 0, 1) := by decide +kernel
theorem dX8_back_59 : decode cX8_back 59 = .ok (.getfield 28, 3) := by decide +kernel
theorem dX8_back_62 : decode cX8_back 62 = .ok (.getfield 99, 3) := by decide +kernel
theorem dX8_back_65 : decode cX8_back 65 = .ok (.iconst 1, 1) := by decide +kernel
theorem dX8_back_66 : decode cX8_back 66 = .ok (.isub, 1) := by decide +kernel
theorem dX8_back_67 : decode cX8_back 67 = .ok (.ireturn, 1) := by decide +kernel
theorem dX8_weigh_0 : decode cX8_weigh 0 = .ok (.aload_n 0, 1) := by decide +kernel
theorem dX8_weigh_1 : decode cX8_weigh 1 = .ok (.getfield 28, 3) := by decide +kernel
theorem dX8_weigh_4 : decode cX8_weigh 4 = .ok (.iload_n 1, 1) := by decide +kernel
theorem dX8_weigh_5 : decode cX8_weigh 5 = .ok (.invokevirtual 106, 3) := by decide +kernel
theorem dX8_weigh_8 : decode cX8_weigh 8 = .ok (.ifCond .eq 26, 3) := by decide +kernel
theorem dX8_weigh_11 : decode cX8_weigh 11 = .ok (.iload_n 2, 1) := by decide +kernel
theorem dX8_weigh_12 : decode cX8_weigh 12 = .ok (.iconst 1, 1) := by decide +kernel
theorem dX8_weigh_13 : decode cX8_weigh 13 = .ok (.bipush 9, 2) := by decide +kernel
theorem dX8_weigh_15 : decode cX8_weigh 15 = .ok (.invokestatic 92, 3) := by decide +kernel
theorem dX8_weigh_18 : decode cX8_weigh 18 = .ok (.ifCond .eq 16, 3) := by decide +kernel
theorem dX8_weigh_21 : decode cX8_weigh 21 = .ok (.aload_n 0, 1) := by decide +kernel
theorem dX8_weigh_22 : decode cX8_weigh 22 = .ok (.getfield 28, 3) := by decide +kernel
theorem dX8_weigh_25 : decode cX8_weigh 25 = .ok (.getfield 109, 3) := by decide +kernel
theorem dX8_weigh_28 : decode cX8_weigh 28 = .ok (.iload_n 1, 1) := by decide +kernel
theorem dX8_weigh_29 : decode cX8_weigh 29 = .ok (.iaload, 1) := by decide +kernel
theorem dX8_weigh_30 : decode cX8_weigh 30 = .ok (.iload_n 2, 1) := by decide +kernel
theorem dX8_weigh_31 : decode cX8_weigh 31 = .ok (.if_icmp .ne 5, 3) := by decide +kernel
theorem dX8_weigh_34 : decode cX8_weigh 34 = .ok (.iconst 0, 1) := by decide +kernel
theorem dX8_weigh_35 : decode cX8_weigh 35 = .ok (.ireturn, 1) := by decide +kernel
theorem dX8_weigh_36 : decode cX8_weigh 36 = .ok (.aload_n 0, 1) := by decide +kernel
theorem dX8_weigh_37 : decode cX8_weigh 37 = .ok (.getfield 28, 3) := by decide +kernel
theorem dX8_weigh_40 : decode cX8_weigh 40 = .ok (.getfield 109, 3) := by decide +kernel
theorem dX8_weigh_43 : decode cX8_weigh 43 = .ok (.iload_n 1, 1) := by decide +kernel
theorem dX8_weigh_44 : decode cX8_weigh 44 = .ok (.iload_n 2, 1) := by decide +kernel
theorem dX8_weigh_45 : decode cX8_weigh 45 = .ok (.iastore, 1) := by decide +kernel
theorem dX8_weigh_46 : decode cX8_weigh 46 = .ok (.iconst 1, 1) := by decide +kernel
theorem dX8_weigh_47 : decode cX8_weigh 47 = .ok (.ireturn, 1) := by decide +kernel
theorem dX8_see_0 : decode cX8_see 0 = .ok (.iload_n 1, 1) := by decide +kernel
theorem dX8_see_1 : decode cX8_see 1 = .ok (.iconst (-1), 1) := by decide +kernel
theorem dX8_see_2 : decode cX8_see 2 = .ok (.if_icmp .eq 10, 3) := by decide +kernel
theorem dX8_see_5 : decode cX8_see 5 = .ok (.iload_n 1, 1) := by decide +kernel
theorem dX8_see_6 : decode cX8_see 6 = .ok (.invokestatic 112, 3) := by decide +kernel
theorem dX8_see_9 : decode cX8_see 9 = .ok (.ifCond .eq 21, 3) := by decide +kernel
theorem dX8_see_12 : decode cX8_see 12 = .ok (.aload_n 0, 1) := by decide +kernel
theorem dX8_see_13 : decode cX8_see 13 = .ok (.getfield 28, 3) := by decide +kernel
theorem dX8_see_16 : decode cX8_see 16 = .ok (.iload_n 2, 1) := by decide +kernel
theorem dX8_see_17 : decode cX8_see 17 = .ok (.invokevirtual 106, 3) := by decide +kernel
theorem dX8_see_20 : decode cX8_see 20 = .ok (.ifCond .eq 10, 3) := by decide +kernel
theorem dX8_see_23 : decode cX8_see 23 = .ok (.iload_n 3, 1) := by decide +kernel
theorem dX8_see_24 : decode cX8_see 24 = .ok (.invokestatic 115, 3) := by decide +kernel
theorem dX8_see_27 : decode cX8_see 27 = .ok (.ifCond .ne 5, 3) := by decide +kernel
theorem dX8_see_30 : decode cX8_see 30 = .ok (.iconst (-1), 1) := by decide +kernel
theorem dX8_see_31 : decode cX8_see 31 = .ok (.ireturn, 1) := by decide +kernel
theorem dX8_see_32 : decode cX8_see 32 = .ok (.aload_n 0, 1) := by decide +kernel
theorem dX8_see_33 : decode cX8_see 33 = .ok (.getfield 28, 3) := by decide +kernel
theorem dX8_see_36 : decode cX8_see 36 = .ok (.iload_n 1, 1) := by decide +kernel
theorem dX8_see_37 : decode cX8_see 37 = .ok (.iload_n 2, 1) := by decide +kernel
theorem dX8_see_38 : decode cX8_see 38 = .ok (.iload_n 3, 1) := by decide +kernel
theorem dX8_see_39 : decode cX8_see 39 = .ok (.invokevirtual 118, 3) := by decide +kernel
theorem dX8_see_42 : decode cX8_see 42 = .ok (.ireturn, 1) := by decide +kernel
theorem dX8_set_0 : decode cX8_set 0 = .ok (.iload_n 1, 1) := by decide +kernel
theorem dX8_set_1 : decode cX8_set 1 = .ok (.ifCond .ne 34, 3) := by decide +kernel
theorem dX8_set_4 : decode cX8_set 4 = .ok (.iload_n 2, 1) := by decide +kernel
theorem dX8_set_5 : decode cX8_set 5 = .ok (.iconst 1, 1) := by decide +kernel
theorem dX8_set_6 : decode cX8_set 6 = .ok (.bipush 16, 2) := by decide +kernel
theorem dX8_set_8 : decode cX8_set 8 = .ok (.invokestatic 92, 3) := by decide +kernel
theorem dX8_set_11 : decode cX8_set 11 = .ok (.ifCond .eq 24, 3) := by decide +kernel
theorem dX8_set_14 : decode cX8_set 14 = .ok (.iload_n 2, 1) := by decide +kernel
theorem dX8_set_15 : decode cX8_set 15 = .ok (.aload_n 0, 1) := by decide +kernel
theorem dX8_set_16 : decode cX8_set 16 = .ok (.getfield 28, 3) := by decide +kernel
theorem dX8_set_19 : decode cX8_set 19 = .ok (.getfield 122, 3) := by decide +kernel
theorem dX8_set_22 : decode cX8_set 22 = .ok (.if_icmp .eq 13, 3) := by decide +kernel
theorem dX8_set_25 : decode cX8_set 25 = .ok (.aload_n 0, 1) := by decide +kernel
theorem dX8_set_26 : decode cX8_set 26 = .ok (.getfield 28, 3) := by decide +kernel
theorem dX8_set_29 : decode cX8_set 29 = .ok (.iload_n 2, 1) := by decide +kernel
theorem dX8_set_30 : decode cX8_set 30 = .ok (.invokevirtual 125, 3) := by decide +kernel
theorem dX8_set_33 : decode cX8_set 33 = .ok (.iconst 1, 1) := by decide +kernel
theorem dX8_set_34 : decode cX8_set 34 = .ok (.ireturn, 1) := by decide +kernel
theorem dX8_set_35 : decode cX8_set 35 = .ok (.iload_n 1, 1) := by decide +kernel
theorem dX8_set_36 : decode cX8_set 36 = .ok (.iconst 1, 1) := by decide +kernel
theorem dX8_set_37 : decode cX8_set 37 = .ok (.if_icmp .ne 34, 3) := by decide +kernel
theorem dX8_set_40 : decode cX8_set 40 = .ok (.iload_n 2, 1) := by decide +kernel
theorem dX8_set_41 : decode cX8_set 41 = .ok (.iconst 0, 1) := by decide +kernel
theorem dX8_set_42 : decode cX8_set 42 = .ok (.bipush 99, 2) := by decide +kernel
theorem dX8_set_44 : decode cX8_set 44 = .ok (.invokestatic 92, 3) := by decide +kernel
theorem dX8_set_47 : decode cX8_set 47 = .ok (.ifCond .eq 24, 3) := by decide +kernel
theorem dX8_set_50 : decode cX8_set 50 = .ok (.iload_n 2, 1) := by decide +kernel
theorem dX8_set_51 : decode cX8_set 51 = .ok (.aload_n 0, 1) := by decide +kernel
theorem dX8_set_52 : decode cX8_set 52 = .ok (.getfield 28, 3) := by decide +kernel
theorem dX8_set_55 : decode cX8_set 55 = .ok (.getfield 128, 3) := by decide +kernel
theorem dX8_set_58 : decode cX8_set 58 = .ok (.if_icmp .eq 13, 3) := by decide +kernel
theorem dX8_set_61 : decode cX8_set 61 = .ok (.aload_n 0, 1) := by decide +kernel
theorem dX8_set_62 : decode cX8_set 62 = .ok (.getfield 28, 3) := by decide +kernel
theorem dX8_set_65 : decode cX8_set 65 = .ok (.iload_n 2, 1) := by decide +kernel
theorem dX8_set_66 : decode cX8_set 66 = .ok (.invokevirtual 131, 3) := by decide +kernel
theorem dX8_set_69 : decode cX8_set 69 = .ok (.iconst 1, 1) := by decide +kernel
theorem dX8_set_70 : decode cX8_set 70 = .ok (.ireturn, 1) := by decide +kernel
theorem dX8_set_71 : decode cX8_set 71 = .ok (.iconst 0, 1) := by decide +kernel
theorem dX8_set_72 : decode cX8_set 72 = .ok (.ireturn, 1) := by decide +kernel
theorem dX8_tick_0 : decode cX8_tick 0 = .ok (.iload_n 1, 1) := by decide +kernel
theorem dX8_tick_1 : decode cX8_tick 1 = .ok (.iconst 1, 1) := by decide +kernel
theorem dX8_tick_2 : decode cX8_tick 2 = .ok (.sipush 999, 3) := by decide +kernel
theorem dX8_tick_5 : decode cX8_tick 5 = .ok (.invokestatic 92, 3) := by decide +kernel
theorem dX8_tick_8 : decode cX8_tick 8 = .ok (.ifCond .ne 5, 3) := by decide +kernel
theorem dX8_tick_11 : decode cX8_tick 11 = .ok (.iconst (-1), 1) := by decide +kernel
theorem dX8_tick_12 : decode cX8_tick 12 = .ok (.ireturn, 1) := by decide +kernel
theorem dX8_tick_13 : decode cX8_tick 13 = .ok (.aload_n 0, 1) := by decide +kernel
theorem dX8_tick_14 : decode cX8_tick 14 = .ok (.getfield 28, 3) := by decide +kernel
theorem dX8_tick_17 : decode cX8_tick 17 = .ok (.iload_n 1, 1) := by decide +kernel
theorem dX8_tick_18 : decode cX8_tick 18 = .ok (.invokevirtual 134, 3) := by decide +kernel
theorem dX8_tick_21 : decode cX8_tick 21 = .ok (.aload_n 0, 1) := by decide +kernel
theorem dX8_tick_22 : decode cX8_tick 22 = .ok (.getfield 28, 3) := by decide +kernel
theorem dX8_tick_25 : decode cX8_tick 25 = .ok (.getfield 137, 3) := by decide +kernel
theorem dX8_tick_28 : decode cX8_tick 28 = .ok (.ireturn, 1) := by decide +kernel
theorem dX8_pack_0 : decode cX8_pack 0 = .ok (.iload_n 1, 1) := by decide +kernel
theorem dX8_pack_1 : decode cX8_pack 1 = .ok (.invokestatic 112, 3) := by decide +kernel
theorem dX8_pack_4 : decode cX8_pack 4 = .ok (.ifCond .eq 10, 3) := by decide +kernel
theorem dX8_pack_7 : decode cX8_pack 7 = .ok (.iload_n 2, 1) := by decide +kernel
theorem dX8_pack_8 : decode cX8_pack 8 = .ok (.invokestatic 140, 3) := by decide +kernel
theorem dX8_pack_11 : decode cX8_pack 11 = .ok (.ifCond .ne 6, 3) := by decide +kernel
theorem dX8_pack_14 : decode cX8_pack 14 = .ok (.bipush (-2), 2) := by decide +kernel
theorem dX8_pack_16 : decode cX8_pack 16 = .ok (.ireturn, 1) := by decide +kernel
theorem dX8_pack_17 : decode cX8_pack 17 = .ok (.aload_n 0, 1) := by decide +kernel
theorem dX8_pack_18 : decode cX8_pack 18 = .ok (.getfield 28, 3) := by decide +kernel
theorem dX8_pack_21 : decode cX8_pack 21 = .ok (.iload_n 1, 1) := by decide +kernel
theorem dX8_pack_22 : decode cX8_pack 22 = .ok (.iload_n 2, 1) := by decide +kernel
theorem dX8_pack_23 : decode cX8_pack 23 = .ok (.invokevirtual 143, 3) := by decide +kernel
theorem dX8_pack_26 : decode cX8_pack 26 = .ok (.ireturn, 1) := by decide +kernel
theorem dX8_keep_0 : decode cX8_keep 0 = .ok (.iload_n 1, 1) := by decide +kernel
theorem dX8_keep_1 : decode cX8_keep 1 = .ok (.invokestatic 112, 3) := by decide +kernel
theorem dX8_keep_4 : decode cX8_keep 4 = .ok (.ifCond .ne 5, 3) := by decide +kernel
theorem dX8_keep_7 : decode cX8_keep 7 = .ok (.iconst 0, 1) := by decide +kernel
theorem dX8_keep_8 : decode cX8_keep 8 = .ok (.ireturn, 1) := by decide +kernel
theorem dX8_keep_9 : decode cX8_keep 9 = .ok (.aload_n 0, 1) := by decide +kernel
theorem dX8_keep_10 : decode cX8_keep 10 = .ok (.getfield 28, 3) := by decide +kernel
theorem dX8_keep_13 : decode cX8_keep 13 = .ok (.getfield 147, 3) := by decide +kernel
theorem dX8_keep_16 : decode cX8_keep 16 = .ok (.iload_n 1, 1) := by decide +kernel
theorem dX8_keep_17 : decode cX8_keep 17 = .ok (.aaload, 1) := by decide +kernel
theorem dX8_keep_18 : decode cX8_keep 18 = .ok (.astore_n 2, 1) := by decide +kernel
theorem dX8_keep_19 : decode cX8_keep 19 = .ok (.aload_n 0, 1) := by decide +kernel
theorem dX8_keep_20 : decode cX8_keep 20 = .ok (.aload_n 2, 1) := by decide +kernel
theorem dX8_keep_21 : decode cX8_keep 21 = .ok (.getfield 151, 3) := by decide +kernel
theorem dX8_keep_24 : decode cX8_keep 24 = .ok (.aload_n 2, 1) := by decide +kernel
theorem dX8_keep_25 : decode cX8_keep 25 = .ok (.invokevirtual 156, 3) := by decide +kernel
theorem dX8_keep_28 : decode cX8_keep 28 = .ok (.invokevirtual 160, 3) := by decide +kernel
theorem dX8_keep_31 : decode cX8_keep 31 = .ok (.aload_n 2, 1) := by decide +kernel
theorem dX8_keep_32 : decode cX8_keep 32 = .ok (.iconst 1, 1) := by decide +kernel
theorem dX8_keep_33 : decode cX8_keep 33 = .ok (.putfield 164, 3) := by decide +kernel
theorem dX8_keep_36 : decode cX8_keep 36 = .ok (.iconst 1, 1) := by decide +kernel
theorem dX8_keep_37 : decode cX8_keep 37 = .ok (.ireturn, 1) := by decide +kernel
theorem dX8_count_0 : decode cX8_count 0 = .ok (.iload_n 1, 1) := by decide +kernel
theorem dX8_count_1 : decode cX8_count 1 = .ok (.tableswitch 87 0 5 #[39, 47, 55, 63, 71, 79], 39) := by decide +kernel
theorem dX8_count_40 : decode cX8_count 40 = .ok (.aload_n 0, 1) := by decide +kernel
theorem dX8_count_41 : decode cX8_count 41 = .ok (.getfield 28, 3) := by decide +kernel
theorem dX8_count_44 : decode cX8_count 44 = .ok (.getfield 82, 3) := by decide +kernel
theorem dX8_count_47 : decode cX8_count 47 = .ok (.ireturn, 1) := by decide +kernel
theorem dX8_count_48 : decode cX8_count 48 = .ok (.aload_n 0, 1) := by decide +kernel
theorem dX8_count_49 : decode cX8_count 49 = .ok (.getfield 28, 3) := by decide +kernel
theorem dX8_count_52 : decode cX8_count 52 = .ok (.getfield 99, 3) := by decide +kernel
theorem dX8_count_55 : decode cX8_count 55 = .ok (.ireturn, 1) := by decide +kernel
theorem dX8_count_56 : decode cX8_count 56 = .ok (.aload_n 0, 1) := by decide +kernel
theorem dX8_count_57 : decode cX8_count 57 = .ok (.getfield 28, 3) := by decide +kernel
theorem dX8_count_60 : decode cX8_count 60 = .ok (.getfield 137, 3) := by decide +kernel
theorem dX8_count_63 : decode cX8_count 63 = .ok (.ireturn, 1) := by decide +kernel
theorem dX8_count_64 : decode cX8_count 64 = .ok (.aload_n 0, 1) := by decide +kernel
theorem dX8_count_65 : decode cX8_count 65 = .ok (.getfield 28, 3) := by decide +kernel
theorem dX8_count_68 : decode cX8_count 68 = .ok (.getfield 122, 3) := by decide +kernel
theorem dX8_count_71 : decode cX8_count 71 = .ok (.ireturn, 1) := by decide +kernel
theorem dX8_count_72 : decode cX8_count 72 = .ok (.aload_n 0, 1) := by decide +kernel
theorem dX8_count_73 : decode cX8_count 73 = .ok (.getfield 28, 3) := by decide +kernel
theorem dX8_count_76 : decode cX8_count 76 = .ok (.getfield 128, 3) := by decide +kernel
theorem dX8_count_79 : decode cX8_count 79 = .ok (.ireturn, 1) := by decide +kernel
theorem dX8_count_80 : decode cX8_count 80 = .ok (.aload_n 0, 1) := by decide +kernel
theorem dX8_count_81 : decode cX8_count 81 = .ok (.getfield 10, 3) := by decide +kernel
theorem dX8_count_84 : decode cX8_count 84 = .ok (.getfield 44, 3) := by decide +kernel
theorem dX8_count_87 : decode cX8_count 87 = .ok (.ireturn, 1) := by decide +kernel
theorem dX8_count_88 : decode cX8_count 88 = .ok (.iconst (-1), 1) := by decide +kernel
theorem dX8_count_89 : decode cX8_count 89 = .ok (.ireturn, 1) := by decide +kernel
theorem dX8_of_0 : decode cX8_of 0 = .ok (.aload_n 0, 1) := by decide +kernel
theorem dX8_of_1 : decode cX8_of 1 = .ok (.getfield 28, 3) := by decide +kernel
theorem dX8_of_4 : decode cX8_of 4 = .ok (.iload_n 1, 1) := by decide +kernel
theorem dX8_of_5 : decode cX8_of 5 = .ok (.invokevirtual 106, 3) := by decide +kernel
theorem dX8_of_8 : decode cX8_of 8 = .ok (.ifCond .ne 13, 3) := by decide +kernel
theorem dX8_of_11 : decode cX8_of 11 = .ok (.new 168, 3) := by decide +kernel
theorem dX8_of_14 : decode cX8_of 14 = .ok (.dup, 1) := by decide +kernel
theorem dX8_of_15 : decode cX8_of 15 = .ok (.ldc 170, 2) := by decide +kernel
theorem dX8_of_17 : decode cX8_of 17 = .ok (.invokespecial 172, 3) := by decide +kernel
theorem dX8_of_20 : decode cX8_of 20 = .ok (.athrow, 1) := by decide +kernel
theorem dX8_of_21 : decode cX8_of 21 = .ok (.iload_n 2, 1) := by decide +kernel
theorem dX8_of_22 : decode cX8_of 22 = .ok (.bipush 10, 2) := by decide +kernel
theorem dX8_of_24 : decode cX8_of 24 = .ok (.if_icmp .lt 31, 3) := by decide +kernel
theorem dX8_of_27 : decode cX8_of 27 = .ok (.iload_n 2, 1) := by decide +kernel
theorem dX8_of_28 : decode cX8_of 28 = .ok (.bipush 10, 2) := by decide +kernel
theorem dX8_of_30 : decode cX8_of 30 = .ok (.isub, 1) := by decide +kernel
theorem dX8_of_31 : decode cX8_of 31 = .ok (.invokestatic 112, 3) := by decide +kernel
theorem dX8_of_34 : decode cX8_of 34 = .ok (.ifCond .eq 21, 3) := by decide +kernel
theorem dX8_of_37 : decode cX8_of 37 = .ok (.aload_n 0, 1) := by decide +kernel
theorem dX8_of_38 : decode cX8_of 38 = .ok (.getfield 28, 3) := by decide +kernel
theorem dX8_of_41 : decode cX8_of 41 = .ok (.getfield 147, 3) := by decide +kernel
theorem dX8_of_44 : decode cX8_of 44 = .ok (.iload_n 2, 1) := by decide +kernel
theorem dX8_of_45 : decode cX8_of 45 = .ok (.bipush 10, 2) := by decide +kernel
theorem dX8_of_47 : decode cX8_of 47 = .ok (.isub, 1) := by decide +kernel
theorem dX8_of_48 : decode cX8_of 48 = .ok (.aaload, 1) := by decide +kernel
theorem dX8_of_49 : decode cX8_of 49 = .ok (.getfield 175, 3) := by decide +kernel
theorem dX8_of_52 : decode cX8_of 52 = .ok (.iload_n 1, 1) := by decide +kernel
theorem dX8_of_53 : decode cX8_of 53 = .ok (.iaload, 1) := by decide +kernel
theorem dX8_of_54 : decode cX8_of 54 = .ok (.ireturn, 1) := by decide +kernel
theorem dX8_of_55 : decode cX8_of 55 = .ok (.iload_n 2, 1) := by decide +kernel
theorem dX8_of_56 : decode cX8_of 56 = .ok (.tableswitch 92 0 3 #[32, 42, 52, 72], 32) := by decide +kernel
theorem dX8_of_88 : decode cX8_of 88 = .ok (.aload_n 0, 1) := by decide +kernel
theorem dX8_of_89 : decode cX8_of 89 = .ok (.getfield 28, 3) := by decide +kernel
theorem dX8_of_92 : decode cX8_of 92 = .ok (.getfield 178, 3) := by decide +kernel
theorem dX8_of_95 : decode cX8_of 95 = .ok (.iload_n 1, 1) := by decide +kernel
theorem dX8_of_96 : decode cX8_of 96 = .ok (.iaload, 1) := by decide +kernel
theorem dX8_of_97 : decode cX8_of 97 = .ok (.ireturn, 1) := by decide +kernel
theorem dX8_of_98 : decode cX8_of 98 = .ok (.aload_n 0, 1) := by decide +kernel
theorem dX8_of_99 : decode cX8_of 99 = .ok (.getfield 28, 3) := by decide +kernel
theorem dX8_of_102 : decode cX8_of 102 = .ok (.getfield 109, 3) := by decide +kernel
theorem dX8_of_105 : decode cX8_of 105 = .ok (.iload_n 1, 1) := by decide +kernel
theorem dX8_of_106 : decode cX8_of 106 = .ok (.iaload, 1) := by decide +kernel
theorem dX8_of_107 : decode cX8_of 107 = .ok (.ireturn, 1) := by decide +kernel
theorem dX8_of_108 : decode cX8_of 108 = .ok (.aload_n 0, 1) := by decide +kernel
theorem dX8_of_109 : decode cX8_of 109 = .ok (.getfield 28, 3) := by decide +kernel
theorem dX8_of_112 : decode cX8_of 112 = .ok (.getfield 178, 3) := by decide +kernel
theorem dX8_of_115 : decode cX8_of 115 = .ok (.iload_n 1, 1) := by decide +kernel
theorem dX8_of_116 : decode cX8_of 116 = .ok (.iaload, 1) := by decide +kernel
theorem dX8_of_117 : decode cX8_of 117 = .ok (.aload_n 0, 1) := by decide +kernel
theorem dX8_of_118 : decode cX8_of 118 = .ok (.getfield 28, 3) := by decide +kernel
theorem dX8_of_121 : decode cX8_of 121 = .ok (.getfield 82, 3) := by decide +kernel
theorem dX8_of_124 : decode cX8_of 124 = .ok (.invokestatic 181, 3) := by decide +kernel
theorem dX8_of_127 : decode cX8_of 127 = .ok (.ireturn, 1) := by decide +kernel
theorem dX8_of_128 : decode cX8_of 128 = .ok (.aload_n 0, 1) := by decide +kernel
theorem dX8_of_129 : decode cX8_of 129 = .ok (.getfield 28, 3) := by decide +kernel
theorem dX8_of_132 : decode cX8_of 132 = .ok (.getfield 178, 3) := by decide +kernel
theorem dX8_of_135 : decode cX8_of 135 = .ok (.iload_n 1, 1) := by decide +kernel
theorem dX8_of_136 : decode cX8_of 136 = .ok (.iaload, 1) := by decide +kernel
theorem dX8_of_137 : decode cX8_of 137 = .ok (.aload_n 0, 1) := by decide +kernel
theorem dX8_of_138 : decode cX8_of 138 = .ok (.getfield 28, 3) := by decide +kernel
theorem dX8_of_141 : decode cX8_of 141 = .ok (.getfield 82, 3) := by decide +kernel
theorem dX8_of_144 : decode cX8_of 144 = .ok (.invokestatic 184, 3) := by decide +kernel
theorem dX8_of_147 : decode cX8_of 147 = .ok (.ireturn, 1) := by decide +kernel
theorem dX8_of_148 : decode cX8_of 148 = .ok (.new 168, 3) := by decide +kernel
theorem dX8_of_151 : decode cX8_of 151 = .ok (.dup, 1) := by decide +kernel
theorem dX8_of_152 : decode cX8_of 152 = .ok (.ldc 187, 2) := by decide +kernel
theorem dX8_of_154 : decode cX8_of 154 = .ok (.invokespecial 172, 3) := by decide +kernel
theorem dX8_of_157 : decode cX8_of 157 = .ok (.athrow, 1) := by decide +kernel
theorem dX8_slot_0 : decode cX8_slot 0 = .ok (.aload_n 0, 1) := by decide +kernel
theorem dX8_slot_1 : decode cX8_slot 1 = .ok (.getfield 28, 3) := by decide +kernel
theorem dX8_slot_4 : decode cX8_slot 4 = .ok (.iload_n 1, 1) := by decide +kernel
theorem dX8_slot_5 : decode cX8_slot 5 = .ok (.invokevirtual 106, 3) := by decide +kernel
theorem dX8_slot_8 : decode cX8_slot 8 = .ok (.ifCond .eq 14, 3) := by decide +kernel
theorem dX8_slot_11 : decode cX8_slot 11 = .ok (.aload_n 0, 1) := by decide +kernel
theorem dX8_slot_12 : decode cX8_slot 12 = .ok (.getfield 28, 3) := by decide +kernel
theorem dX8_slot_15 : decode cX8_slot 15 = .ok (.iload_n 2, 1) := by decide +kernel
theorem dX8_slot_16 : decode cX8_slot 16 = .ok (.invokevirtual 189, 3) := by decide +kernel
theorem dX8_slot_19 : decode cX8_slot 19 = .ok (.ifCond .ne 5, 3) := by decide +kernel
theorem dX8_slot_22 : decode cX8_slot 22 = .ok (.iconst (-1), 1) := by decide +kernel
theorem dX8_slot_23 : decode cX8_slot 23 = .ok (.ireturn, 1) := by decide +kernel
theorem dX8_slot_24 : decode cX8_slot 24 = .ok (.aload_n 0, 1) := by decide +kernel
theorem dX8_slot_25 : decode cX8_slot 25 = .ok (.getfield 28, 3) := by decide +kernel
theorem dX8_slot_28 : decode cX8_slot 28 = .ok (.getfield 178, 3) := by decide +kernel
theorem dX8_slot_31 : decode cX8_slot 31 = .ok (.iload_n 1, 1) := by decide +kernel
theorem dX8_slot_32 : decode cX8_slot 32 = .ok (.iaload, 1) := by decide +kernel
theorem dX8_slot_33 : decode cX8_slot 33 = .ok (.istore_n 3, 1) := by decide +kernel
theorem dX8_slot_34 : decode cX8_slot 34 = .ok (.iload_n 3, 1) := by decide +kernel
theorem dX8_slot_35 : decode cX8_slot 35 = .ok (.aload_n 0, 1) := by decide +kernel
theorem dX8_slot_36 : decode cX8_slot 36 = .ok (.getfield 28, 3) := by decide +kernel
theorem dX8_slot_39 : decode cX8_slot 39 = .ok (.getfield 82, 3) := by decide +kernel
theorem dX8_slot_42 : decode cX8_slot 42 = .ok (.invokestatic 181, 3) := by decide +kernel
theorem dX8_slot_45 : decode cX8_slot 45 = .ok (.iload_n 2, 1) := by decide +kernel
theorem dX8_slot_46 : decode cX8_slot 46 = .ok (.iload_n 3, 1) := by decide +kernel
theorem dX8_slot_47 : decode cX8_slot 47 = .ok (.aload_n 0, 1) := by decide +kernel
theorem dX8_slot_48 : decode cX8_slot 48 = .ok (.getfield 28, 3) := by decide +kernel
theorem dX8_slot_51 : decode cX8_slot 51 = .ok (.getfield 82, 3) := by decide +kernel
theorem dX8_slot_54 : decode cX8_slot 54 = .ok (.invokestatic 184, 3) := by decide +kernel
theorem dX8_slot_57 : decode cX8_slot 57 = .ok (.imul, 1) := by decide +kernel
theorem dX8_slot_58 : decode cX8_slot 58 = .ok (.iadd, 1) := by decide +kernel
theorem dX8_slot_59 : decode cX8_slot 59 = .ok (.aload_n 0, 1) := by decide +kernel
theorem dX8_slot_60 : decode cX8_slot 60 = .ok (.getfield 28, 3) := by decide +kernel
theorem dX8_slot_63 : decode cX8_slot 63 = .ok (.getfield 82, 3) := by decide +kernel
theorem dX8_slot_66 : decode cX8_slot 66 = .ok (.invokestatic 192, 3) := by decide +kernel
theorem dX8_slot_69 : decode cX8_slot 69 = .ok (.ireturn, 1) := by decide +kernel
theorem dX8_table_0 : decode cX8_table 0 = .ok (.iload_n 1, 1) := by decide +kernel
theorem dX8_table_1 : decode cX8_table 1 = .ok (.invokestatic 112, 3) := by decide +kernel
theorem dX8_table_4 : decode cX8_table 4 = .ok (.ifCond .eq 14, 3) := by decide +kernel
theorem dX8_table_7 : decode cX8_table 7 = .ok (.aload_n 0, 1) := by decide +kernel
theorem dX8_table_8 : decode cX8_table 8 = .ok (.getfield 28, 3) := by decide +kernel
theorem dX8_table_11 : decode cX8_table 11 = .ok (.iload_n 2, 1) := by decide +kernel
theorem dX8_table_12 : decode cX8_table 12 = .ok (.invokevirtual 189, 3) := by decide +kernel
theorem dX8_table_15 : decode cX8_table 15 = .ok (.ifCond .ne 5, 3) := by decide +kernel
theorem dX8_table_18 : decode cX8_table 18 = .ok (.iconst (-1), 1) := by decide +kernel
theorem dX8_table_19 : decode cX8_table 19 = .ok (.ireturn, 1) := by decide +kernel
theorem dX8_table_20 : decode cX8_table 20 = .ok (.aload_n 0, 1) := by decide +kernel
theorem dX8_table_21 : decode cX8_table 21 = .ok (.aload_n 0, 1) := by decide +kernel
theorem dX8_table_22 : decode cX8_table 22 = .ok (.getfield 19, 3) := by decide +kernel
theorem dX8_table_25 : decode cX8_table 25 = .ok (.getfield 195, 3) := by decide +kernel
theorem dX8_table_28 : decode cX8_table 28 = .ok (.aload_n 0, 1) := by decide +kernel
theorem dX8_table_29 : decode cX8_table 29 = .ok (.getfield 28, 3) := by decide +kernel
theorem dX8_table_32 : decode cX8_table 32 = .ok (.getfield 147, 3) := by decide +kernel
theorem dX8_table_35 : decode cX8_table 35 = .ok (.iload_n 1, 1) := by decide +kernel
theorem dX8_table_36 : decode cX8_table 36 = .ok (.aaload, 1) := by decide +kernel
theorem dX8_table_37 : decode cX8_table 37 = .ok (.invokevirtual 156, 3) := by decide +kernel
theorem dX8_table_40 : decode cX8_table 40 = .ok (.invokevirtual 160, 3) := by decide +kernel
theorem dX8_table_43 : decode cX8_table 43 = .ok (.aload_n 0, 1) := by decide +kernel
theorem dX8_table_44 : decode cX8_table 44 = .ok (.getfield 19, 3) := by decide +kernel
theorem dX8_table_47 : decode cX8_table 47 = .ok (.getfield 195, 3) := by decide +kernel
theorem dX8_table_50 : decode cX8_table 50 = .ok (.iload_n 2, 1) := by decide +kernel
theorem dX8_table_51 : decode cX8_table 51 = .ok (.iaload, 1) := by decide +kernel
theorem dX8_table_52 : decode cX8_table 52 = .ok (.ireturn, 1) := by decide +kernel
theorem dX8_share_0 : decode cX8_share 0 = .ok (.iload_n 1, 1) := by decide +kernel
theorem dX8_share_1 : decode cX8_share 1 = .ok (.invokestatic 112, 3) := by decide +kernel
theorem dX8_share_4 : decode cX8_share 4 = .ok (.ifCond .eq 14, 3) := by decide +kernel
theorem dX8_share_7 : decode cX8_share 7 = .ok (.aload_n 0, 1) := by decide +kernel
theorem dX8_share_8 : decode cX8_share 8 = .ok (.getfield 28, 3) := by decide +kernel
theorem dX8_share_11 : decode cX8_share 11 = .ok (.iload_n 2, 1) := by decide +kernel
theorem dX8_share_12 : decode cX8_share 12 = .ok (.invokevirtual 106, 3) := by decide +kernel
theorem dX8_share_15 : decode cX8_share 15 = .ok (.ifCond .ne 5, 3) := by decide +kernel
theorem dX8_share_18 : decode cX8_share 18 = .ok (.iconst (-1), 1) := by decide +kernel
theorem dX8_share_19 : decode cX8_share 19 = .ok (.ireturn, 1) := by decide +kernel
theorem dX8_share_20 : decode cX8_share 20 = .ok (.aload_n 0, 1) := by decide +kernel
theorem dX8_share_21 : decode cX8_share 21 = .ok (.aload_n 0, 1) := by decide +kernel
theorem dX8_share_22 : decode cX8_share 22 = .ok (.getfield 19, 3) := by decide +kernel
theorem dX8_share_25 : decode cX8_share 25 = .ok (.getfield 195, 3) := by decide +kernel
theorem dX8_share_28 : decode cX8_share 28 = .ok (.aload_n 0, 1) := by decide +kernel
theorem dX8_share_29 : decode cX8_share 29 = .ok (.getfield 28, 3) := by decide +kernel
theorem dX8_share_32 : decode cX8_share 32 = .ok (.getfield 147, 3) := by decide +kernel
theorem dX8_share_35 : decode cX8_share 35 = .ok (.iload_n 1, 1) := by decide +kernel
theorem dX8_share_36 : decode cX8_share 36 = .ok (.aaload, 1) := by decide +kernel
theorem dX8_share_37 : decode cX8_share 37 = .ok (.invokevirtual 156, 3) := by decide +kernel
theorem dX8_share_40 : decode cX8_share 40 = .ok (.invokevirtual 160, 3) := by decide +kernel
theorem dX8_share_43 : decode cX8_share 43 = .ok (.aload_n 0, 1) := by decide +kernel
theorem dX8_share_44 : decode cX8_share 44 = .ok (.getfield 19, 3) := by decide +kernel
theorem dX8_share_47 : decode cX8_share 47 = .ok (.getfield 195, 3) := by decide +kernel
theorem dX8_share_50 : decode cX8_share 50 = .ok (.aload_n 0, 1) := by decide +kernel
theorem dX8_share_51 : decode cX8_share 51 = .ok (.getfield 28, 3) := by decide +kernel
theorem dX8_share_54 : decode cX8_share 54 = .ok (.getfield 82, 3) := by decide +kernel
theorem dX8_share_57 : decode cX8_share 57 = .ok (.iload_n 2, 1) := by decide +kernel
theorem dX8_share_58 : decode cX8_share 58 = .ok (.invokestatic 198, 3) := by decide +kernel
theorem dX8_share_61 : decode cX8_share 61 = .ok (.ireturn, 1) := by decide +kernel
theorem dX8_shareBits_0 : decode cX8_shareBits 0 = .ok (.aload_n 0, 1) := by decide +kernel
theorem dX8_shareBits_1 : decode cX8_shareBits 1 = .ok (.iload_n 1, 1) := by decide +kernel
theorem dX8_shareBits_2 : decode cX8_shareBits 2 = .ok (.iload_n 2, 1) := by decide +kernel
theorem dX8_shareBits_3 : decode cX8_shareBits 3 = .ok (.invokevirtual 202, 3) := by decide +kernel
theorem dX8_shareBits_6 : decode cX8_shareBits 6 = .ok (.istore_n 3, 1) := by decide +kernel
theorem dX8_shareBits_7 : decode cX8_shareBits 7 = .ok (.iload_n 3, 1) := by decide +kernel
theorem dX8_shareBits_8 : decode cX8_shareBits 8 = .ok (.iconst (-1), 1) := by decide +kernel
theorem dX8_shareBits_9 : decode cX8_shareBits 9 = .ok (.if_icmp .ne 7, 3) := by decide +kernel
theorem dX8_shareBits_12 : decode cX8_shareBits 12 = .ok (.iconst (-1), 1) := by decide +kernel
theorem dX8_shareBits_13 : decode cX8_shareBits 13 = .ok (.goto 17, 3) := by decide +kernel
theorem dX8_shareBits_16 : decode cX8_shareBits 16 = .ok (.iload_n 3, 1) := by decide +kernel
theorem dX8_shareBits_17 : decode cX8_shareBits 17 = .ok (.i2f, 1) := by decide +kernel
theorem dX8_shareBits_18 : decode cX8_shareBits 18 = .ok (.aload_n 0, 1) := by decide +kernel
theorem dX8_shareBits_19 : decode cX8_shareBits 19 = .ok (.getfield 28, 3) := by decide +kernel
theorem dX8_shareBits_22 : decode cX8_shareBits 22 = .ok (.getfield 82, 3) := by decide +kernel
theorem dX8_shareBits_25 : decode cX8_shareBits 25 = .ok (.i2f, 1) := by decide +kernel
theorem dX8_shareBits_26 : decode cX8_shareBits 26 = .ok (.fdiv, 1) := by decide +kernel
theorem dX8_shareBits_27 : decode cX8_shareBits 27 = .ok (.invokestatic 205, 3) := by decide +kernel
theorem dX8_shareBits_30 : decode cX8_shareBits 30 = .ok (.ireturn, 1) := by decide +kernel
theorem dX8_uneven_0 : decode cX8_uneven 0 = .ok (.iload_n 1, 1) := by decide +kernel
theorem dX8_uneven_1 : decode cX8_uneven 1 = .ok (.invokestatic 112, 3) := by decide +kernel
theorem dX8_uneven_4 : decode cX8_uneven 4 = .ok (.ifCond .eq 18, 3) := by decide +kernel
theorem dX8_uneven_7 : decode cX8_uneven 7 = .ok (.aload_n 0, 1) := by decide +kernel
theorem dX8_uneven_8 : decode cX8_uneven 8 = .ok (.getfield 28, 3) := by decide +kernel
theorem dX8_uneven_11 : decode cX8_uneven 11 = .ok (.getfield 147, 3) := by decide +kernel
theorem dX8_uneven_14 : decode cX8_uneven 14 = .ok (.iload_n 1, 1) := by decide +kernel
theorem dX8_uneven_15 : decode cX8_uneven 15 = .ok (.aaload, 1) := by decide +kernel
theorem dX8_uneven_16 : decode cX8_uneven 16 = .ok (.invokevirtual 156, 3) := by decide +kernel
theorem dX8_uneven_19 : decode cX8_uneven 19 = .ok (.ifCond .ne 5, 3) := by decide +kernel
theorem dX8_uneven_22 : decode cX8_uneven 22 = .ok (.iconst (-1), 1) := by decide +kernel
theorem dX8_uneven_23 : decode cX8_uneven 23 = .ok (.ireturn, 1) := by decide +kernel
theorem dX8_uneven_24 : decode cX8_uneven 24 = .ok (.aload_n 0, 1) := by decide +kernel
theorem dX8_uneven_25 : decode cX8_uneven 25 = .ok (.aload_n 0, 1) := by decide +kernel
theorem dX8_uneven_26 : decode cX8_uneven 26 = .ok (.getfield 28, 3) := by decide +kernel
theorem dX8_uneven_29 : decode cX8_uneven 29 = .ok (.getfield 147, 3) := by decide +kernel
theorem dX8_uneven_32 : decode cX8_uneven 32 = .ok (.iload_n 1, 1) := by decide +kernel
theorem dX8_uneven_33 : decode cX8_uneven 33 = .ok (.aaload, 1) := by decide +kernel
theorem dX8_uneven_34 : decode cX8_uneven 34 = .ok (.invokevirtual 156, 3) := by decide +kernel
theorem dX8_uneven_37 : decode cX8_uneven 37 = .ok (.aload_n 0, 1) := by decide +kernel
theorem dX8_uneven_38 : decode cX8_uneven 38 = .ok (.getfield 28, 3) := by decide +kernel
theorem dX8_uneven_41 : decode cX8_uneven 41 = .ok (.getfield 82, 3) := by decide +kernel
theorem dX8_uneven_44 : decode cX8_uneven 44 = .ok (.invokevirtual 209, 3) := by decide +kernel
theorem dX8_uneven_47 : decode cX8_uneven 47 = .ok (.ireturn, 1) := by decide +kernel
theorem dX8_evenest_0 : decode cX8_evenest 0 = .ok (.iload_n 1, 1) := by decide +kernel
theorem dX8_evenest_1 : decode cX8_evenest 1 = .ok (.invokestatic 112, 3) := by decide +kernel
theorem dX8_evenest_4 : decode cX8_evenest 4 = .ok (.ifCond .eq 18, 3) := by decide +kernel
theorem dX8_evenest_7 : decode cX8_evenest 7 = .ok (.aload_n 0, 1) := by decide +kernel
theorem dX8_evenest_8 : decode cX8_evenest 8 = .ok (.getfield 28, 3) := by decide +kernel
theorem dX8_evenest_11 : decode cX8_evenest 11 = .ok (.getfield 147, 3) := by decide +kernel
theorem dX8_evenest_14 : decode cX8_evenest 14 = .ok (.iload_n 1, 1) := by decide +kernel
theorem dX8_evenest_15 : decode cX8_evenest 15 = .ok (.aaload, 1) := by decide +kernel
theorem dX8_evenest_16 : decode cX8_evenest 16 = .ok (.invokevirtual 156, 3) := by decide +kernel
theorem dX8_evenest_19 : decode cX8_evenest 19 = .ok (.ifCond .ne 5, 3) := by decide +kernel
theorem dX8_evenest_22 : decode cX8_evenest 22 = .ok (.iconst (-1), 1) := by decide +kernel
theorem dX8_evenest_23 : decode cX8_evenest 23 = .ok (.ireturn, 1) := by decide +kernel
theorem dX8_evenest_24 : decode cX8_evenest 24 = .ok (.aload_n 0, 1) := by decide +kernel
theorem dX8_evenest_25 : decode cX8_evenest 25 = .ok (.getfield 28, 3) := by decide +kernel
theorem dX8_evenest_28 : decode cX8_evenest 28 = .ok (.getfield 147, 3) := by decide +kernel
theorem dX8_evenest_31 : decode cX8_evenest 31 = .ok (.iload_n 1, 1) := by decide +kernel
theorem dX8_evenest_32 : decode cX8_evenest 32 = .ok (.aaload, 1) := by decide +kernel
theorem dX8_evenest_33 : decode cX8_evenest 33 = .ok (.invokevirtual 156, 3) := by decide +kernel
theorem dX8_evenest_36 : decode cX8_evenest 36 = .ok (.istore_n 2, 1) := by decide +kernel
theorem dX8_evenest_37 : decode cX8_evenest 37 = .ok (.getstatic 212, 3) := by decide +kernel
theorem dX8_evenest_40 : decode cX8_evenest 40 = .ok (.iconst 0, 1) := by decide +kernel
theorem dX8_evenest_41 : decode cX8_evenest 41 = .ok (.iaload, 1) := by decide +kernel
theorem dX8_evenest_42 : decode cX8_evenest 42 = .ok (.istore_n 3, 1) := by decide +kernel
theorem dX8_evenest_43 : decode cX8_evenest 43 = .ok (.aload_n 0, 1) := by decide +kernel
theorem dX8_evenest_44 : decode cX8_evenest 44 = .ok (.iload_n 2, 1) := by decide +kernel
theorem dX8_evenest_45 : decode cX8_evenest 45 = .ok (.iload_n 3, 1) := by decide +kernel
theorem dX8_evenest_46 : decode cX8_evenest 46 = .ok (.invokevirtual 209, 3) := by decide +kernel
theorem dX8_evenest_49 : decode cX8_evenest 49 = .ok (.istore 4, 2) := by decide +kernel
theorem dX8_evenest_51 : decode cX8_evenest 51 = .ok (.iconst 1, 1) := by decide +kernel
theorem dX8_evenest_52 : decode cX8_evenest 52 = .ok (.istore 5, 2) := by decide +kernel
theorem dX8_evenest_54 : decode cX8_evenest 54 = .ok (.iload 5, 2) := by decide +kernel
theorem dX8_evenest_56 : decode cX8_evenest 56 = .ok (.getstatic 212, 3) := by decide +kernel
theorem dX8_evenest_59 : decode cX8_evenest 59 = .ok (.arraylength, 1) := by decide +kernel
theorem dX8_evenest_60 : decode cX8_evenest 60 = .ok (.if_icmp .ge 49, 3) := by decide +kernel
theorem dX8_evenest_63 : decode cX8_evenest 63 = .ok (.aload_n 0, 1) := by decide +kernel
theorem dX8_evenest_64 : decode cX8_evenest 64 = .ok (.iload_n 2, 1) := by decide +kernel
theorem dX8_evenest_65 : decode cX8_evenest 65 = .ok (.getstatic 212, 3) := by decide +kernel
theorem dX8_evenest_68 : decode cX8_evenest 68 = .ok (.iload 5, 2) := by decide +kernel
theorem dX8_evenest_70 : decode cX8_evenest 70 = .ok (.iaload, 1) := by decide +kernel
theorem dX8_evenest_71 : decode cX8_evenest 71 = .ok (.invokevirtual 209, 3) := by decide +kernel
theorem dX8_evenest_74 : decode cX8_evenest 74 = .ok (.istore 6, 2) := by decide +kernel
theorem dX8_evenest_76 : decode cX8_evenest 76 = .ok (.iload 6, 2) := by decide +kernel
theorem dX8_evenest_78 : decode cX8_evenest 78 = .ok (.iload_n 3, 1) := by decide +kernel
theorem dX8_evenest_79 : decode cX8_evenest 79 = .ok (.imul, 1) := by decide +kernel
theorem dX8_evenest_80 : decode cX8_evenest 80 = .ok (.iload 4, 2) := by decide +kernel
theorem dX8_evenest_82 : decode cX8_evenest 82 = .ok (.getstatic 212, 3) := by decide +kernel
theorem dX8_evenest_85 : decode cX8_evenest 85 = .ok (.iload 5, 2) := by decide +kernel
theorem dX8_evenest_87 : decode cX8_evenest 87 = .ok (.iaload, 1) := by decide +kernel
theorem dX8_evenest_88 : decode cX8_evenest 88 = .ok (.imul, 1) := by decide +kernel
theorem dX8_evenest_89 : decode cX8_evenest 89 = .ok (.if_icmp .ge 14, 3) := by decide +kernel
theorem dX8_evenest_92 : decode cX8_evenest 92 = .ok (.getstatic 212, 3) := by decide +kernel
theorem dX8_evenest_95 : decode cX8_evenest 95 = .ok (.iload 5, 2) := by decide +kernel
theorem dX8_evenest_97 : decode cX8_evenest 97 = .ok (.iaload, 1) := by decide +kernel
theorem dX8_evenest_98 : decode cX8_evenest 98 = .ok (.istore_n 3, 1) := by decide +kernel
theorem dX8_evenest_99 : decode cX8_evenest 99 = .ok (.iload 6, 2) := by decide +kernel
theorem dX8_evenest_101 : decode cX8_evenest 101 = .ok (.istore 4, 2) := by decide +kernel
theorem dX8_evenest_103 : decode cX8_evenest 103 = .ok (.iinc 5 1, 3) := by decide +kernel
theorem dX8_evenest_106 : decode cX8_evenest 106 = .ok (.goto (-52), 3) := by decide +kernel
theorem dX8_evenest_109 : decode cX8_evenest 109 = .ok (.iload_n 3, 1) := by decide +kernel
theorem dX8_evenest_110 : decode cX8_evenest 110 = .ok (.ireturn, 1) := by decide +kernel
theorem dX8_changed_0 : decode cX8_changed 0 = .ok (.iload_n 1, 1) := by decide +kernel
theorem dX8_changed_1 : decode cX8_changed 1 = .ok (.invokestatic 112, 3) := by decide +kernel
theorem dX8_changed_4 : decode cX8_changed 4 = .ok (.ifCond .eq 18, 3) := by decide +kernel
theorem dX8_changed_7 : decode cX8_changed 7 = .ok (.aload_n 0, 1) := by decide +kernel
theorem dX8_changed_8 : decode cX8_changed 8 = .ok (.getfield 28, 3) := by decide +kernel
theorem dX8_changed_11 : decode cX8_changed 11 = .ok (.getfield 147, 3) := by decide +kernel
theorem dX8_changed_14 : decode cX8_changed 14 = .ok (.iload_n 1, 1) := by decide +kernel
theorem dX8_changed_15 : decode cX8_changed 15 = .ok (.aaload, 1) := by decide +kernel
theorem dX8_changed_16 : decode cX8_changed 16 = .ok (.getfield 164, 3) := by decide +kernel
theorem dX8_changed_19 : decode cX8_changed 19 = .ok (.ifCond .ne 5, 3) := by decide +kernel
theorem dX8_changed_22 : decode cX8_changed 22 = .ok (.iconst (-1), 1) := by decide +kernel
theorem dX8_changed_23 : decode cX8_changed 23 = .ok (.ireturn, 1) := by decide +kernel
theorem dX8_changed_24 : decode cX8_changed 24 = .ok (.aload_n 0, 1) := by decide +kernel
theorem dX8_changed_25 : decode cX8_changed 25 = .ok (.getfield 28, 3) := by decide +kernel
theorem dX8_changed_28 : decode cX8_changed 28 = .ok (.getfield 147, 3) := by decide +kernel
theorem dX8_changed_31 : decode cX8_changed 31 = .ok (.iload_n 1, 1) := by decide +kernel
theorem dX8_changed_32 : decode cX8_changed 32 = .ok (.aaload, 1) := by decide +kernel
theorem dX8_changed_33 : decode cX8_changed 33 = .ok (.astore_n 3, 1) := by decide +kernel
theorem dX8_changed_34 : decode cX8_changed 34 = .ok (.iload_n 2, 1) := by decide +kernel
theorem dX8_changed_35 : decode cX8_changed 35 = .ok (.bipush 10, 2) := by decide +kernel
theorem dX8_changed_37 : decode cX8_changed 37 = .ok (.if_icmp .lt 27, 3) := by decide +kernel
theorem dX8_changed_40 : decode cX8_changed 40 = .ok (.aload_n 0, 1) := by decide +kernel
theorem dX8_changed_41 : decode cX8_changed 41 = .ok (.getfield 28, 3) := by decide +kernel
theorem dX8_changed_44 : decode cX8_changed 44 = .ok (.iload_n 2, 1) := by decide +kernel
theorem dX8_changed_45 : decode cX8_changed 45 = .ok (.bipush 10, 2) := by decide +kernel
theorem dX8_changed_47 : decode cX8_changed 47 = .ok (.isub, 1) := by decide +kernel
theorem dX8_changed_48 : decode cX8_changed 48 = .ok (.invokevirtual 189, 3) := by decide +kernel
theorem dX8_changed_51 : decode cX8_changed 51 = .ok (.ifCond .eq 13, 3) := by decide +kernel
theorem dX8_changed_54 : decode cX8_changed 54 = .ok (.aload_n 3, 1) := by decide +kernel
theorem dX8_changed_55 : decode cX8_changed 55 = .ok (.getfield 151, 3) := by decide +kernel
theorem dX8_changed_58 : decode cX8_changed 58 = .ok (.iload_n 2, 1) := by decide +kernel
theorem dX8_changed_59 : decode cX8_changed 59 = .ok (.bipush 10, 2) := by decide +kernel
theorem dX8_changed_61 : decode cX8_changed 61 = .ok (.isub, 1) := by decide +kernel
theorem dX8_changed_62 : decode cX8_changed 62 = .ok (.iaload, 1) := by decide +kernel
theorem dX8_changed_63 : decode cX8_changed 63 = .ok (.ireturn, 1) := by decide +kernel
theorem dX8_changed_64 : decode cX8_changed 64 = .ok (.iload_n 2, 1) := by decide +kernel
theorem dX8_changed_65 : decode cX8_changed 65 = .ok (.ifCond .eq 10, 3) := by decide +kernel
theorem dX8_changed_68 : decode cX8_changed 68 = .ok (.iload_n 2, 1) := by decide +kernel
theorem dX8_changed_69 : decode cX8_changed 69 = .ok (.iconst 1, 1) := by decide +kernel
theorem dX8_changed_70 : decode cX8_changed 70 = .ok (.if_icmp .eq 5, 3) := by decide +kernel
theorem dX8_changed_73 : decode cX8_changed 73 = .ok (.iconst (-1), 1) := by decide +kernel
theorem dX8_changed_74 : decode cX8_changed 74 = .ok (.ireturn, 1) := by decide +kernel
theorem dX8_changed_75 : decode cX8_changed 75 = .ok (.aload_n 0, 1) := by decide +kernel
theorem dX8_changed_76 : decode cX8_changed 76 = .ok (.aload_n 0, 1) := by decide +kernel
theorem dX8_changed_77 : decode cX8_changed 77 = .ok (.getfield 19, 3) := by decide +kernel
theorem dX8_changed_80 : decode cX8_changed 80 = .ok (.getfield 195, 3) := by decide +kernel
theorem dX8_changed_83 : decode cX8_changed 83 = .ok (.aload_n 3, 1) := by decide +kernel
theorem dX8_changed_84 : decode cX8_changed 84 = .ok (.invokevirtual 156, 3) := by decide +kernel
theorem dX8_changed_87 : decode cX8_changed 87 = .ok (.invokevirtual 160, 3) := by decide +kernel
theorem dX8_changed_90 : decode cX8_changed 90 = .ok (.aload_n 0, 1) := by decide +kernel
theorem dX8_changed_91 : decode cX8_changed 91 = .ok (.aload_n 3, 1) := by decide +kernel
theorem dX8_changed_92 : decode cX8_changed 92 = .ok (.getfield 151, 3) := by decide +kernel
theorem dX8_changed_95 : decode cX8_changed 95 = .ok (.aload_n 0, 1) := by decide +kernel
theorem dX8_changed_96 : decode cX8_changed 96 = .ok (.getfield 19, 3) := by decide +kernel
theorem dX8_changed_99 : decode cX8_changed 99 = .ok (.getfield 195, 3) := by decide +kernel
theorem dX8_changed_102 : decode cX8_changed 102 = .ok (.aload_n 3, 1) := by decide +kernel
theorem dX8_changed_103 : decode cX8_changed 103 = .ok (.invokevirtual 156, 3) := by decide +kernel
theorem dX8_changed_106 : decode cX8_changed 106 = .ok (.iload_n 2, 1) := by decide +kernel
theorem dX8_changed_107 : decode cX8_changed 107 = .ok (.iconst 1, 1) := by decide +kernel
