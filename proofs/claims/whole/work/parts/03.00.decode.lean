theorem dX1_init_0 : decode cX1_init 0 = .ok (.aload_n 0, 1) := by decide +kernel
theorem dX1_init_1 : decode cX1_init 1 = .ok (.invokespecial 3, 3) := by decide +kernel
theorem dX1_init_4 : decode cX1_init 4 = .ok (.aload_n 0, 1) := by decide +kernel
theorem dX1_init_5 : decode cX1_init 5 = .ok (.bipush 8, 2) := by decide +kernel
theorem dX1_init_7 : decode cX1_init 7 = .ok (.newarray .int, 2) := by decide +kernel
theorem dX1_init_9 : decode cX1_init 9 = .ok (.putfield 9, 3) := by decide +kernel
theorem dX1_init_12 : decode cX1_init 12 = .ok (.aload_n 0, 1) := by decide +kernel
theorem dX1_init_13 : decode cX1_init 13 = .ok (.bipush 97, 2) := by decide +kernel
theorem dX1_init_15 : decode cX1_init 15 = .ok (.newarray .int, 2) := by decide +kernel
theorem dX1_init_17 : decode cX1_init 17 = .ok (.putfield 15, 3) := by decide +kernel
theorem dX1_init_20 : decode cX1_init 20 = .ok (.aload_n 0, 1) := by decide +kernel
theorem dX1_init_21 : decode cX1_init 21 = .ok (.new 18, 3) := by decide +kernel
theorem dX1_init_24 : decode cX1_init 24 = .ok (.dup, 1) := by decide +kernel
theorem dX1_init_25 : decode cX1_init 25 = .ok (.invokespecial 20, 3) := by decide +kernel
theorem dX1_init_28 : decode cX1_init 28 = .ok (.putfield 21, 3) := by decide +kernel
theorem dX1_init_31 : decode cX1_init 31 = .ok (.aload_n 0, 1) := by decide +kernel
theorem dX1_init_32 : decode cX1_init 32 = .ok (.iconst 0, 1) := by decide +kernel
theorem dX1_init_33 : decode cX1_init 33 = .ok (.putfield 25, 3) := by decide +kernel
theorem dX1_init_36 : decode cX1_init 36 = .ok (.return_, 1) := by decide +kernel
theorem dX1_copyFrom_0 : decode cX1_copyFrom 0 = .ok (.aload_n 1, 1) := by decide +kernel
theorem dX1_copyFrom_1 : decode cX1_copyFrom 1 = .ok (.getfield 9, 3) := by decide +kernel
theorem dX1_copyFrom_4 : decode cX1_copyFrom 4 = .ok (.iconst 0, 1) := by decide +kernel
theorem dX1_copyFrom_5 : decode cX1_copyFrom 5 = .ok (.aload_n 0, 1) := by decide +kernel
theorem dX1_copyFrom_6 : decode cX1_copyFrom 6 = .ok (.getfield 9, 3) := by decide +kernel
theorem dX1_copyFrom_9 : decode cX1_copyFrom 9 = .ok (.iconst 0, 1) := by decide +kernel
theorem dX1_copyFrom_10 : decode cX1_copyFrom 10 = .ok (.bipush 8, 2) := by decide +kernel
theorem dX1_copyFrom_12 : decode cX1_copyFrom 12 = .ok (.invokestatic 29, 3) := by decide +kernel
theorem dX1_copyFrom_15 : decode cX1_copyFrom 15 = .ok (.aload_n 1, 1) := by decide +kernel
theorem dX1_copyFrom_16 : decode cX1_copyFrom 16 = .ok (.getfield 15, 3) := by decide +kernel
theorem dX1_copyFrom_19 : decode cX1_copyFrom 19 = .ok (.iconst 0, 1) := by decide +kernel
theorem dX1_copyFrom_20 : decode cX1_copyFrom 20 = .ok (.aload_n 0, 1) := by decide +kernel
theorem dX1_copyFrom_21 : decode cX1_copyFrom 21 = .ok (.getfield 15, 3) := by decide +kernel
theorem dX1_copyFrom_24 : decode cX1_copyFrom 24 = .ok (.iconst 0, 1) := by decide +kernel
theorem dX1_copyFrom_25 : decode cX1_copyFrom 25 = .ok (.bipush 97, 2) := by decide +kernel
theorem dX1_copyFrom_27 : decode cX1_copyFrom 27 = .ok (.invokestatic 29, 3) := by decide +kernel
theorem dX1_copyFrom_30 : decode cX1_copyFrom 30 = .ok (.aload_n 0, 1) := by decide +kernel
theorem dX1_copyFrom_31 : decode cX1_copyFrom 31 = .ok (.getfield 21, 3) := by decide +kernel
theorem dX1_copyFrom_34 : decode cX1_copyFrom 34 = .ok (.aload_n 1, 1) := by decide +kernel
theorem dX1_copyFrom_35 : decode cX1_copyFrom 35 = .ok (.getfield 21, 3) := by decide +kernel
theorem dX1_copyFrom_38 : decode cX1_copyFrom 38 = .ok (.invokevirtual 35, 3) := by decide +kernel
theorem dX1_copyFrom_41 : decode cX1_copyFrom 41 = .ok (.aload_n 0, 1) := by decide +kernel
theorem dX1_copyFrom_42 : decode cX1_copyFrom 42 = .ok (.aload_n 1, 1) := by decide +kernel
theorem dX1_copyFrom_43 : decode cX1_copyFrom 43 = .ok (.getfield 25, 3) := by decide +kernel
theorem dX1_copyFrom_46 : decode cX1_copyFrom 46 = .ok (.putfield 25, 3) := by decide +kernel
theorem dX1_copyFrom_49 : decode cX1_copyFrom 49 = .ok (.return_, 1) := by decide +kernel
theorem dX1_ups_0 : decode cX1_ups 0 = .ok (.iconst 0, 1) := by decide +kernel
theorem dX1_ups_1 : decode cX1_ups 1 = .ok (.istore_n 1, 1) := by decide +kernel
theorem dX1_ups_2 : decode cX1_ups 2 = .ok (.iconst 0, 1) := by decide +kernel
theorem dX1_ups_3 : decode cX1_ups 3 = .ok (.istore_n 2, 1) := by decide +kernel
theorem dX1_ups_4 : decode cX1_ups 4 = .ok (.iload_n 2, 1) := by decide +kernel
theorem dX1_ups_5 : decode cX1_ups 5 = .ok (.bipush 8, 2) := by decide +kernel
theorem dX1_ups_7 : decode cX1_ups 7 = .ok (.if_icmp .ge 25, 3) := by decide +kernel
theorem dX1_ups_10 : decode cX1_ups 10 = .ok (.aload_n 0, 1) := by decide +kernel
theorem dX1_ups_11 : decode cX1_ups 11 = .ok (.getfield 9, 3) := by decide +kernel
theorem dX1_ups_14 : decode cX1_ups 14 = .ok (.iload_n 2, 1) := by decide +kernel
theorem dX1_ups_15 : decode cX1_ups 15 = .ok (.iaload, 1) := by decide +kernel
theorem dX1_ups_16 : decode cX1_ups 16 = .ok (.iconst 1, 1) := by decide +kernel
theorem dX1_ups_17 : decode cX1_ups 17 = .ok (.if_icmp .ne 9, 3) := by decide +kernel
theorem dX1_ups_20 : decode cX1_ups 20 = .ok (.iload_n 1, 1) := by decide +kernel
theorem dX1_ups_21 : decode cX1_ups 21 = .ok (.iconst 1, 1) := by decide +kernel
theorem dX1_ups_22 : decode cX1_ups 22 = .ok (.iload_n 2, 1) := by decide +kernel
theorem dX1_ups_23 : decode cX1_ups 23 = .ok (.ishl, 1) := by decide +kernel
theorem dX1_ups_24 : decode cX1_ups 24 = .ok (.ior, 1) := by decide +kernel
theorem dX1_ups_25 : decode cX1_ups 25 = .ok (.istore_n 1, 1) := by decide +kernel
theorem dX1_ups_26 : decode cX1_ups 26 = .ok (.iinc 2 1, 3) := by decide +kernel
theorem dX1_ups_29 : decode cX1_ups 29 = .ok (.goto (-25), 3) := by decide +kernel
theorem dX1_ups_32 : decode cX1_ups 32 = .ok (.iload_n 1, 1) := by decide +kernel
theorem dX1_ups_33 : decode cX1_ups 33 = .ok (.ireturn, 1) := by decide +kernel
theorem dX1_knownGoal_0 : decode cX1_knownGoal 0 = .ok (.aload_n 0, 1) := by decide +kernel
theorem dX1_knownGoal_1 : decode cX1_knownGoal 1 = .ok (.getfield 21, 3) := by decide +kernel
theorem dX1_knownGoal_4 : decode cX1_knownGoal 4 = .ok (.iload_n 1, 1) := by decide +kernel
theorem dX1_knownGoal_5 : decode cX1_knownGoal 5 = .ok (.invokevirtual 39, 3) := by decide +kernel
theorem dX1_knownGoal_8 : decode cX1_knownGoal 8 = .ok (.istore_n 2, 1) := by decide +kernel
theorem dX1_knownGoal_9 : decode cX1_knownGoal 9 = .ok (.iload_n 2, 1) := by decide +kernel
theorem dX1_knownGoal_10 : decode cX1_knownGoal 10 = .ok (.iconst (-1), 1) := by decide +kernel
theorem dX1_knownGoal_11 : decode cX1_knownGoal 11 = .ok (.if_icmp .eq 20, 3) := by decide +kernel
theorem dX1_knownGoal_14 : decode cX1_knownGoal 14 = .ok (.aload_n 0, 1) := by decide +kernel
theorem dX1_knownGoal_15 : decode cX1_knownGoal 15 = .ok (.getfield 9, 3) := by decide +kernel
theorem dX1_knownGoal_18 : decode cX1_knownGoal 18 = .ok (.aload_n 0, 1) := by decide +kernel
theorem dX1_knownGoal_19 : decode cX1_knownGoal 19 = .ok (.getfield 21, 3) := by decide +kernel
theorem dX1_knownGoal_22 : decode cX1_knownGoal 22 = .ok (.getfield 43, 3) := by decide +kernel
theorem dX1_knownGoal_25 : decode cX1_knownGoal 25 = .ok (.iload_n 2, 1) := by decide +kernel
theorem dX1_knownGoal_26 : decode cX1_knownGoal 26 = .ok (.iaload, 1) := by decide +kernel
theorem dX1_knownGoal_27 : decode cX1_knownGoal 27 = .ok (.iaload, 1) := by decide +kernel
theorem dX1_knownGoal_28 : decode cX1_knownGoal 28 = .ok (.ifCond .ne 5, 3) := by decide +kernel
theorem dX1_knownGoal_31 : decode cX1_knownGoal 31 = .ok (.iconst (-1), 1) := by decide +kernel
theorem dX1_knownGoal_32 : decode cX1_knownGoal 32 = .ok (.ireturn, 1) := by decide +kernel
theorem dX1_knownGoal_33 : decode cX1_knownGoal 33 = .ok (.aload_n 0, 1) := by decide +kernel
theorem dX1_knownGoal_34 : decode cX1_knownGoal 34 = .ok (.getfield 21, 3) := by decide +kernel
theorem dX1_knownGoal_37 : decode cX1_knownGoal 37 = .ok (.getfield 43, 3) := by decide +kernel
theorem dX1_knownGoal_40 : decode cX1_knownGoal 40 = .ok (.iload_n 2, 1) := by decide +kernel
theorem dX1_knownGoal_41 : decode cX1_knownGoal 41 = .ok (.iaload, 1) := by decide +kernel
theorem dX1_knownGoal_42 : decode cX1_knownGoal 42 = .ok (.ireturn, 1) := by decide +kernel
theorem dX2_init_0 : decode cX2_init 0 = .ok (.aload_n 0, 1) := by decide +kernel
theorem dX2_init_1 : decode cX2_init 1 = .ok (.invokespecial 3, 3) := by decide +kernel
theorem dX2_init_4 : decode cX2_init 4 = .ok (.aload_n 0, 1) := by decide +kernel
theorem dX2_init_5 : decode cX2_init 5 = .ok (.bipush 16, 2) := by decide +kernel
theorem dX2_init_7 : decode cX2_init 7 = .ok (.newarray .int, 2) := by decide +kernel
theorem dX2_init_9 : decode cX2_init 9 = .ok (.putfield 9, 3) := by decide +kernel
theorem dX2_init_12 : decode cX2_init 12 = .ok (.aload_n 0, 1) := by decide +kernel
theorem dX2_init_13 : decode cX2_init 13 = .ok (.bipush 16, 2) := by decide +kernel
theorem dX2_init_15 : decode cX2_init 15 = .ok (.newarray .int, 2) := by decide +kernel
theorem dX2_init_17 : decode cX2_init 17 = .ok (.putfield 15, 3) := by decide +kernel
theorem dX2_init_20 : decode cX2_init 20 = .ok (.aload_n 0, 1) := by decide +kernel
theorem dX2_init_21 : decode cX2_init 21 = .ok (.bipush 16, 2) := by decide +kernel
theorem dX2_init_23 : decode cX2_init 23 = .ok (.newarray .int, 2) := by decide +kernel
theorem dX2_init_25 : decode cX2_init 25 = .ok (.putfield 18, 3) := by decide +kernel
theorem dX2_init_28 : decode cX2_init 28 = .ok (.aload_n 0, 1) := by decide +kernel
theorem dX2_init_29 : decode cX2_init 29 = .ok (.iconst 0, 1) := by decide +kernel
theorem dX2_init_30 : decode cX2_init 30 = .ok (.putfield 21, 3) := by decide +kernel
theorem dX2_init_33 : decode cX2_init 33 = .ok (.return_, 1) := by decide +kernel
theorem dX2_copyFrom_0 : decode cX2_copyFrom 0 = .ok (.aload_n 1, 1) := by decide +kernel
theorem dX2_copyFrom_1 : decode cX2_copyFrom 1 = .ok (.getfield 9, 3) := by decide +kernel
theorem dX2_copyFrom_4 : decode cX2_copyFrom 4 = .ok (.iconst 0, 1) := by decide +kernel
theorem dX2_copyFrom_5 : decode cX2_copyFrom 5 = .ok (.aload_n 0, 1) := by decide +kernel
theorem dX2_copyFrom_6 : decode cX2_copyFrom 6 = .ok (.getfield 9, 3) := by decide +kernel
theorem dX2_copyFrom_9 : decode cX2_copyFrom 9 = .ok (.iconst 0, 1) := by decide +kernel
theorem dX2_copyFrom_10 : decode cX2_copyFrom 10 = .ok (.bipush 16, 2) := by decide +kernel
theorem dX2_copyFrom_12 : decode cX2_copyFrom 12 = .ok (.invokestatic 25, 3) := by decide +kernel
theorem dX2_copyFrom_15 : decode cX2_copyFrom 15 = .ok (.aload_n 1, 1) := by decide +kernel
theorem dX2_copyFrom_16 : decode cX2_copyFrom 16 = .ok (.getfield 15, 3) := by decide +kernel
theorem dX2_copyFrom_19 : decode cX2_copyFrom 19 = .ok (.iconst 0, 1) := by decide +kernel
theorem dX2_copyFrom_20 : decode cX2_copyFrom 20 = .ok (.aload_n 0, 1) := by decide +kernel
theorem dX2_copyFrom_21 : decode cX2_copyFrom 21 = .ok (.getfield 15, 3) := by decide +kernel
theorem dX2_copyFrom_24 : decode cX2_copyFrom 24 = .ok (.iconst 0, 1) := by decide +kernel
theorem dX2_copyFrom_25 : decode cX2_copyFrom 25 = .ok (.bipush 16, 2) := by decide +kernel
theorem dX2_copyFrom_27 : decode cX2_copyFrom 27 = .ok (.invokestatic 25, 3) := by decide +kernel
theorem dX2_copyFrom_30 : decode cX2_copyFrom 30 = .ok (.aload_n 1, 1) := by decide +kernel
theorem dX2_copyFrom_31 : decode cX2_copyFrom 31 = .ok (.getfield 18, 3) := by decide +kernel
theorem dX2_copyFrom_34 : decode cX2_copyFrom 34 = .ok (.iconst 0, 1) := by decide +kernel
theorem dX2_copyFrom_35 : decode cX2_copyFrom 35 = .ok (.aload_n 0, 1) := by decide +kernel
theorem dX2_copyFrom_36 : decode cX2_copyFrom 36 = .ok (.getfield 18, 3) := by decide +kernel
theorem dX2_copyFrom_39 : decode cX2_copyFrom 39 = .ok (.iconst 0, 1) := by decide +kernel
theorem dX2_copyFrom_40 : decode cX2_copyFrom 40 = .ok (.bipush 16, 2) := by decide +kernel
theorem dX2_copyFrom_42 : decode cX2_copyFrom 42 = .ok (.invokestatic 25, 3) := by decide +kernel
theorem dX2_copyFrom_45 : decode cX2_copyFrom 45 = .ok (.aload_n 0, 1) := by decide +kernel
theorem dX2_copyFrom_46 : decode cX2_copyFrom 46 = .ok (.aload_n 1, 1) := by decide +kernel
theorem dX2_copyFrom_47 : decode cX2_copyFrom 47 = .ok (.getfield 21, 3) := by decide +kernel
theorem dX2_copyFrom_50 : decode cX2_copyFrom 50 = .ok (.putfield 21, 3) := by decide +kernel
theorem dX2_copyFrom_53 : decode cX2_copyFrom 53 = .ok (.return_, 1) := by decide +kernel
theorem dX2_find_0 : decode cX2_find 0 = .ok (.iconst 0, 1) := by decide +kernel
theorem dX2_find_1 : decode cX2_find 1 = .ok (.istore_n 2, 1) := by decide +kernel
theorem dX2_find_2 : decode cX2_find 2 = .ok (.iload_n 2, 1) := by decide +kernel
theorem dX2_find_3 : decode cX2_find 3 = .ok (.aload_n 0, 1) := by decide +kernel
theorem dX2_find_4 : decode cX2_find 4 = .ok (.getfield 21, 3) := by decide +kernel
theorem dX2_find_7 : decode cX2_find 7 = .ok (.if_icmp .ge 21, 3) := by decide +kernel
theorem dX2_find_10 : decode cX2_find 10 = .ok (.aload_n 0, 1) := by decide +kernel
theorem dX2_find_11 : decode cX2_find 11 = .ok (.getfield 9, 3) := by decide +kernel
theorem dX2_find_14 : decode cX2_find 14 = .ok (.iload_n 2, 1) := by decide +kernel
theorem dX2_find_15 : decode cX2_find 15 = .ok (.iaload, 1) := by decide +kernel
theorem dX2_find_16 : decode cX2_find 16 = .ok (.iload_n 1, 1) := by decide +kernel
theorem dX2_find_17 : decode cX2_find 17 = .ok (.if_icmp .ne 5, 3) := by decide +kernel
theorem dX2_find_20 : decode cX2_find 20 = .ok (.iload_n 2, 1) := by decide +kernel
theorem dX2_find_21 : decode cX2_find 21 = .ok (.ireturn, 1) := by decide +kernel
theorem dX2_find_22 : decode cX2_find 22 = .ok (.iinc 2 1, 3) := by decide +kernel
theorem dX2_find_25 : decode cX2_find 25 = .ok (.goto (-23), 3) := by decide +kernel
theorem dX2_find_28 : decode cX2_find 28 = .ok (.iconst (-1), 1) := by decide +kernel
theorem dX2_find_29 : decode cX2_find 29 = .ok (.ireturn, 1) := by decide +kernel
theorem dX2_put_0 : decode cX2_put 0 = .ok (.aload_n 0, 1) := by decide +kernel
theorem dX2_put_1 : decode cX2_put 1 = .ok (.iload_n 1, 1) := by decide +kernel
theorem dX2_put_2 : decode cX2_put 2 = .ok (.invokevirtual 31, 3) := by decide +kernel
theorem dX2_put_5 : decode cX2_put 5 = .ok (.istore 5, 2) := by decide +kernel
theorem dX2_put_7 : decode cX2_put 7 = .ok (.iload 5, 2) := by decide +kernel
theorem dX2_put_9 : decode cX2_put 9 = .ok (.iconst (-1), 1) := by decide +kernel
theorem dX2_put_10 : decode cX2_put 10 = .ok (.if_icmp .ne 18, 3) := by decide +kernel
theorem dX2_put_13 : decode cX2_put 13 = .ok (.aload_n 0, 1) := by decide +kernel
theorem dX2_put_14 : decode cX2_put 14 = .ok (.iload 4, 2) := by decide +kernel
theorem dX2_put_16 : decode cX2_put 16 = .ok (.iconst 1, 1) := by decide +kernel
theorem dX2_put_17 : decode cX2_put 17 = .ok (.isub, 1) := by decide +kernel
theorem dX2_put_18 : decode cX2_put 18 = .ok (.invokevirtual 35, 3) := by decide +kernel
theorem dX2_put_21 : decode cX2_put 21 = .ok (.aload_n 0, 1) := by decide +kernel
theorem dX2_put_22 : decode cX2_put 22 = .ok (.iload_n 1, 1) := by decide +kernel
theorem dX2_put_23 : decode cX2_put 23 = .ok (.invokevirtual 39, 3) := by decide +kernel
theorem dX2_put_26 : decode cX2_put 26 = .ok (.istore 5, 2) := by decide +kernel
theorem dX2_put_28 : decode cX2_put 28 = .ok (.aload_n 0, 1) := by decide +kernel
theorem dX2_put_29 : decode cX2_put 29 = .ok (.getfield 15, 3) := by decide +kernel
theorem dX2_put_32 : decode cX2_put 32 = .ok (.iload 5, 2) := by decide +kernel
theorem dX2_put_34 : decode cX2_put 34 = .ok (.iload_n 2, 1) := by decide +kernel
theorem dX2_put_35 : decode cX2_put 35 = .ok (.iastore, 1) := by decide +kernel
theorem dX2_put_36 : decode cX2_put 36 = .ok (.aload_n 0, 1) := by decide +kernel
theorem dX2_put_37 : decode cX2_put 37 = .ok (.getfield 18, 3) := by decide +kernel
theorem dX2_put_40 : decode cX2_put 40 = .ok (.iload 5, 2) := by decide +kernel
theorem dX2_put_42 : decode cX2_put 42 = .ok (.iload_n 3, 1) := by decide +kernel
theorem dX2_put_43 : decode cX2_put 43 = .ok (.iastore, 1) := by decide +kernel
theorem dX2_put_44 : decode cX2_put 44 = .ok (.return_, 1) := by decide +kernel
theorem dX2_openAt_0 : decode cX2_openAt 0 = .ok (.aload_n 0, 1) := by decide +kernel
theorem dX2_openAt_1 : decode cX2_openAt 1 = .ok (.getfield 21, 3) := by decide +kernel
theorem dX2_openAt_4 : decode cX2_openAt 4 = .ok (.istore_n 2, 1) := by decide +kernel
theorem dX2_openAt_5 : decode cX2_openAt 5 = .ok (.aload_n 0, 1) := by decide +kernel
theorem dX2_openAt_6 : decode cX2_openAt 6 = .ok (.getfield 21, 3) := by decide +kernel
theorem dX2_openAt_9 : decode cX2_openAt 9 = .ok (.istore_n 3, 1) := by decide +kernel
theorem dX2_openAt_10 : decode cX2_openAt 10 = .ok (.iload_n 3, 1) := by decide +kernel
theorem dX2_openAt_11 : decode cX2_openAt 11 = .ok (.ifCond .le 33, 3) := by decide +kernel
theorem dX2_openAt_14 : decode cX2_openAt 14 = .ok (.aload_n 0, 1) := by decide +kernel
theorem dX2_openAt_15 : decode cX2_openAt 15 = .ok (.getfield 9, 3) := by decide +kernel
theorem dX2_openAt_18 : decode cX2_openAt 18 = .ok (.iload_n 3, 1) := by decide +kernel
theorem dX2_openAt_19 : decode cX2_openAt 19 = .ok (.iconst 1, 1) := by decide +kernel
theorem dX2_openAt_20 : decode cX2_openAt 20 = .ok (.isub, 1) := by decide +kernel
theorem dX2_openAt_21 : decode cX2_openAt 21 = .ok (.iaload, 1) := by decide +kernel
theorem dX2_openAt_22 : decode cX2_openAt 22 = .ok (.iload_n 1, 1) := by decide +kernel
theorem dX2_openAt_23 : decode cX2_openAt 23 = .ok (.if_icmp .le 21, 3) := by decide +kernel
theorem dX2_openAt_26 : decode cX2_openAt 26 = .ok (.aload_n 0, 1) := by decide +kernel
theorem dX2_openAt_27 : decode cX2_openAt 27 = .ok (.iload_n 3, 1) := by decide +kernel
theorem dX2_openAt_28 : decode cX2_openAt 28 = .ok (.iconst 1, 1) := by decide +kernel
theorem dX2_openAt_29 : decode cX2_openAt 29 = .ok (.isub, 1) := by decide +kernel
theorem dX2_openAt_30 : decode cX2_openAt 30 = .ok (.iload_n 3, 1) := by decide +kernel
theorem dX2_openAt_31 : decode cX2_openAt 31 = .ok (.invokevirtual 42, 3) := by decide +kernel
theorem dX2_openAt_34 : decode cX2_openAt 34 = .ok (.iload_n 3, 1) := by decide +kernel
theorem dX2_openAt_35 : decode cX2_openAt 35 = .ok (.iconst 1, 1) := by decide +kernel
theorem dX2_openAt_36 : decode cX2_openAt 36 = .ok (.isub, 1) := by decide +kernel
theorem dX2_openAt_37 : decode cX2_openAt 37 = .ok (.istore_n 2, 1) := by decide +kernel
theorem dX2_openAt_38 : decode cX2_openAt 38 = .ok (.iinc 3 (-1), 3) := by decide +kernel
theorem dX2_openAt_41 : decode cX2_openAt 41 = .ok (.goto (-31), 3) := by decide +kernel
theorem dX2_openAt_44 : decode cX2_openAt 44 = .ok (.aload_n 0, 1) := by decide +kernel
theorem dX2_openAt_45 : decode cX2_openAt 45 = .ok (.getfield 9, 3) := by decide +kernel
theorem dX2_openAt_48 : decode cX2_openAt 48 = .ok (.iload_n 2, 1) := by decide +kernel
theorem dX2_openAt_49 : decode cX2_openAt 49 = .ok (.iload_n 1, 1) := by decide +kernel
theorem dX2_openAt_50 : decode cX2_openAt 50 = .ok (.iastore, 1) := by decide +kernel
theorem dX2_openAt_51 : decode cX2_openAt 51 = .ok (.aload_n 0, 1) := by decide +kernel
theorem dX2_openAt_52 : decode cX2_openAt 52 = .ok (.dup, 1) := by decide +kernel
theorem dX2_openAt_53 : decode cX2_openAt 53 = .ok (.getfield 21, 3) := by decide +kernel
theorem dX2_openAt_56 : decode cX2_openAt 56 = .ok (.iconst 1, 1) := by decide +kernel
theorem dX2_openAt_57 : decode cX2_openAt 57 = .ok (.iadd, 1) := by decide +kernel
theorem dX2_openAt_58 : decode cX2_openAt 58 = .ok (.putfield 21, 3) := by decide +kernel
theorem dX2_openAt_61 : decode cX2_openAt 61 = .ok (.iload_n 2, 1) := by decide +kernel
theorem dX2_openAt_62 : decode cX2_openAt 62 = .ok (.ireturn, 1) := by decide +kernel
theorem dX2_drop_0 : decode cX2_drop 0 = .ok (.iload_n 1, 1) := by decide +kernel
theorem dX2_drop_1 : decode cX2_drop 1 = .ok (.iconst 1, 1) := by decide +kernel
theorem dX2_drop_2 : decode cX2_drop 2 = .ok (.iadd, 1) := by decide +kernel
theorem dX2_drop_3 : decode cX2_drop 3 = .ok (.istore_n 2, 1) := by decide +kernel
theorem dX2_drop_4 : decode cX2_drop 4 = .ok (.iload_n 2, 1) := by decide +kernel
theorem dX2_drop_5 : decode cX2_drop 5 = .ok (.aload_n 0, 1) := by decide +kernel
theorem dX2_drop_6 : decode cX2_drop 6 = .ok (.getfield 21, 3) := by decide +kernel
theorem dX2_drop_9 : decode cX2_drop 9 = .ok (.if_icmp .ge 17, 3) := by decide +kernel
theorem dX2_drop_12 : decode cX2_drop 12 = .ok (.aload_n 0, 1) := by decide +kernel
theorem dX2_drop_13 : decode cX2_drop 13 = .ok (.iload_n 2, 1) := by decide +kernel
theorem dX2_drop_14 : decode cX2_drop 14 = .ok (.iload_n 2, 1) := by decide +kernel
theorem dX2_drop_15 : decode cX2_drop 15 = .ok (.iconst 1, 1) := by decide +kernel
theorem dX2_drop_16 : decode cX2_drop 16 = .ok (.isub, 1) := by decide +kernel
theorem dX2_drop_17 : decode cX2_drop 17 = .ok (.invokevirtual 42, 3) := by decide +kernel
theorem dX2_drop_20 : decode cX2_drop 20 = .ok (.iinc 2 1, 3) := by decide +kernel
theorem dX2_drop_23 : decode cX2_drop 23 = .ok (.goto (-19), 3) := by decide +kernel
theorem dX2_drop_26 : decode cX2_drop 26 = .ok (.aload_n 0, 1) := by decide +kernel
theorem dX2_drop_27 : decode cX2_drop 27 = .ok (.dup, 1) := by decide +kernel
theorem dX2_drop_28 : decode cX2_drop 28 = .ok (.getfield 21, 3) := by decide +kernel
theorem dX2_drop_31 : decode cX2_drop 31 = .ok (.iconst 1, 1) := by decide +kernel
theorem dX2_drop_32 : decode cX2_drop 32 = .ok (.isub, 1) := by decide +kernel
theorem dX2_drop_33 : decode cX2_drop 33 = .ok (.putfield 21, 3) := by decide +kernel
theorem dX2_drop_36 : decode cX2_drop 36 = .ok (.return_, 1) := by decide +kernel
theorem dX2_move_0 : decode cX2_move 0 = .ok (.aload_n 0, 1) := by decide +kernel
theorem dX2_move_1 : decode cX2_move 1 = .ok (.getfield 9, 3) := by decide +kernel
theorem dX2_move_4 : decode cX2_move 4 = .ok (.iload_n 2, 1) := by decide +kernel
theorem dX2_move_5 : decode cX2_move 5 = .ok (.aload_n 0, 1) := by decide +kernel
theorem dX2_move_6 : decode cX2_move 6 = .ok (.getfield 9, 3) := by decide +kernel
theorem dX2_move_9 : decode cX2_move 9 = .ok (.iload_n 1, 1) := by decide +kernel
theorem dX2_move_10 : decode cX2_move 10 = .ok (.iaload, 1) := by decide +kernel
theorem dX2_move_11 : decode cX2_move 11 = .ok (.iastore, 1) := by decide +kernel
theorem dX2_move_12 : decode cX2_move 12 = .ok (.aload_n 0, 1) := by decide +kernel
theorem dX2_move_13 : decode cX2_move 13 = .ok (.getfield 15, 3) := by decide +kernel
theorem dX2_move_16 : decode cX2_move 16 = .ok (.iload_n 2, 1) := by decide +kernel
theorem dX2_move_17 : decode cX2_move 17 = .ok (.aload_n 0, 1) := by decide +kernel
theorem dX2_move_18 : decode cX2_move 18 = .ok (.getfield 15, 3) := by decide +kernel
theorem dX2_move_21 : decode cX2_move 21 = .ok (.iload_n 1, 1) := by decide +kernel
theorem dX2_move_22 : decode cX2_move 22 = .ok (.iaload, 1) := by decide +kernel
theorem dX2_move_23 : decode cX2_move 23 = .ok (.iastore, 1) := by decide +kernel
theorem dX2_move_24 : decode cX2_move 24 = .ok (.aload_n 0, 1) := by decide +kernel
theorem dX2_move_25 : decode cX2_move 25 = .ok (.getfield 18, 3) := by decide +kernel
theorem dX2_move_28 : decode cX2_move 28 = .ok (.iload_n 2, 1) := by decide +kernel
theorem dX2_move_29 : decode cX2_move 29 = .ok (.aload_n 0, 1) := by decide +kernel
theorem dX2_move_30 : decode cX2_move 30 = .ok (.getfield 18, 3) := by decide +kernel
theorem dX2_move_33 : decode cX2_move 33 = .ok (.iload_n 1, 1) := by decide +kernel
theorem dX2_move_34 : decode cX2_move 34 = .ok (.iaload, 1) := by decide +kernel
theorem dX2_move_35 : decode cX2_move 35 = .ok (.iastore, 1) := by decide +kernel
theorem dX2_move_36 : decode cX2_move 36 = .ok (.return_, 1) := by decide +kernel
theorem dX2_shrinkTo_0 : decode cX2_shrinkTo 0 = .ok (.iconst 0, 1) := by decide +kernel
theorem dX2_shrinkTo_1 : decode cX2_shrinkTo 1 = .ok (.istore_n 2, 1) := by decide +kernel
theorem dX2_shrinkTo_2 : decode cX2_shrinkTo 2 = .ok (.iload_n 2, 1) := by decide +kernel
theorem dX2_shrinkTo_3 : decode cX2_shrinkTo 3 = .ok (.bipush 16, 2) := by decide +kernel
theorem dX2_shrinkTo_5 : decode cX2_shrinkTo 5 = .ok (.if_icmp .ge 25, 3) := by decide +kernel
theorem dX2_shrinkTo_8 : decode cX2_shrinkTo 8 = .ok (.aload_n 0, 1) := by decide +kernel
theorem dX2_shrinkTo_9 : decode cX2_shrinkTo 9 = .ok (.getfield 21, 3) := by decide +kernel
theorem dX2_shrinkTo_12 : decode cX2_shrinkTo 12 = .ok (.iload_n 1, 1) := by decide +kernel
theorem dX2_shrinkTo_13 : decode cX2_shrinkTo 13 = .ok (.if_icmp .le 17, 3) := by decide +kernel
theorem dX2_shrinkTo_16 : decode cX2_shrinkTo 16 = .ok (.aload_n 0, 1) := by decide +kernel
theorem dX2_shrinkTo_17 : decode cX2_shrinkTo 17 = .ok (.aload_n 0, 1) := by decide +kernel
theorem dX2_shrinkTo_18 : decode cX2_shrinkTo 18 = .ok (.invokevirtual 46, 3) := by decide +kernel
theorem dX2_shrinkTo_21 : decode cX2_shrinkTo 21 = .ok (.invokevirtual 50, 3) := by decide +kernel
theorem dX2_shrinkTo_24 : decode cX2_shrinkTo 24 = .ok (.iinc 2 1, 3) := by decide +kernel
theorem dX2_shrinkTo_27 : decode cX2_shrinkTo 27 = .ok (.goto (-25), 3) := by decide +kernel
theorem dX2_shrinkTo_30 : decode cX2_shrinkTo 30 = .ok (.return_, 1) := by decide +kernel
theorem dX2_eldest_0 : decode cX2_eldest 0 = .ok (.iconst 0, 1) := by decide +kernel
theorem dX2_eldest_1 : decode cX2_eldest 1 = .ok (.istore_n 1, 1) := by decide +kernel
theorem dX2_eldest_2 : decode cX2_eldest 2 = .ok (.iconst 1, 1) := by decide +kernel
theorem dX2_eldest_3 : decode cX2_eldest 3 = .ok (.istore_n 2, 1) := by decide +kernel
theorem dX2_eldest_4 : decode cX2_eldest 4 = .ok (.iload_n 2, 1) := by decide +kernel
theorem dX2_eldest_5 : decode cX2_eldest 5 = .ok (.aload_n 0, 1) := by decide +kernel
theorem dX2_eldest_6 : decode cX2_eldest 6 = .ok (.getfield 21, 3) := by decide +kernel
theorem dX2_eldest_9 : decode cX2_eldest 9 = .ok (.if_icmp .ge 26, 3) := by decide +kernel
theorem dX2_eldest_12 : decode cX2_eldest 12 = .ok (.aload_n 0, 1) := by decide +kernel
theorem dX2_eldest_13 : decode cX2_eldest 13 = .ok (.getfield 18, 3) := by decide +kernel
theorem dX2_eldest_16 : decode cX2_eldest 16 = .ok (.iload_n 2, 1) := by decide +kernel
theorem dX2_eldest_17 : decode cX2_eldest 17 = .ok (.iaload, 1) := by decide +kernel
theorem dX2_eldest_18 : decode cX2_eldest 18 = .ok (.aload_n 0, 1) := by decide +kernel
theorem dX2_eldest_19 : decode cX2_eldest 19 = .ok (.getfield 18, 3) := by decide +kernel
theorem dX2_eldest_22 : decode cX2_eldest 22 = .ok (.iload_n 1, 1) := by decide +kernel
theorem dX2_eldest_23 : decode cX2_eldest 23 = .ok (.iaload, 1) := by decide +kernel
theorem dX2_eldest_24 : decode cX2_eldest 24 = .ok (.if_icmp .ge 5, 3) := by decide +kernel
theorem dX2_eldest_27 : decode cX2_eldest 27 = .ok (.iload_n 2, 1) := by decide +kernel
theorem dX2_eldest_28 : decode cX2_eldest 28 = .ok (.istore_n 1, 1) := by decide +kernel
theorem dX2_eldest_29 : decode cX2_eldest 29 = .ok (.iinc 2 1, 3) := by decide +kernel
theorem dX2_eldest_32 : decode cX2_eldest 32 = .ok (.goto (-28), 3) := by decide +kernel
theorem dX2_eldest_35 : decode cX2_eldest 35 = .ok (.iload_n 1, 1) := by decide +kernel
theorem dX2_eldest_36 : decode cX2_eldest 36 = .ok (.ireturn, 1) := by decide +kernel
theorem dX2_dropBefore_0 : decode cX2_dropBefore 0 = .ok (.aload_n 0, 1) := by decide +kernel
theorem dX2_dropBefore_1 : decode cX2_dropBefore 1 = .ok (.getfield 21, 3) := by decide +kernel
theorem dX2_dropBefore_4 : decode cX2_dropBefore 4 = .ok (.iconst 1, 1) := by decide +kernel
theorem dX2_dropBefore_5 : decode cX2_dropBefore 5 = .ok (.isub, 1) := by decide +kernel
theorem dX2_dropBefore_6 : decode cX2_dropBefore 6 = .ok (.istore_n 2, 1) := by decide +kernel
theorem dX2_dropBefore_7 : decode cX2_dropBefore 7 = .ok (.iload_n 2, 1) := by decide +kernel
theorem dX2_dropBefore_8 : decode cX2_dropBefore 8 = .ok (.ifCond .lt 24, 3) := by decide +kernel
theorem dX2_dropBefore_11 : decode cX2_dropBefore 11 = .ok (.aload_n 0, 1) := by decide +kernel
theorem dX2_dropBefore_12 : decode cX2_dropBefore 12 = .ok (.getfield 18, 3) := by decide +kernel
theorem dX2_dropBefore_15 : decode cX2_dropBefore 15 = .ok (.iload_n 2, 1) := by decide +kernel
theorem dX2_dropBefore_16 : decode cX2_dropBefore 16 = .ok (.iaload, 1) := by decide +kernel
theorem dX2_dropBefore_17 : decode cX2_dropBefore 17 = .ok (.iload_n 1, 1) := by decide +kernel
theorem dX2_dropBefore_18 : decode cX2_dropBefore 18 = .ok (.if_icmp .ge 8, 3) := by decide +kernel
theorem dX2_dropBefore_21 : decode cX2_dropBefore 21 = .ok (.aload_n 0, 1) := by decide +kernel
theorem dX2_dropBefore_22 : decode cX2_dropBefore 22 = .ok (.iload_n 2, 1) := by decide +kernel
theorem dX2_dropBefore_23 : decode cX2_dropBefore 23 = .ok (.invokevirtual 50, 3) := by decide +kernel
theorem dX2_dropBefore_26 : decode cX2_dropBefore 26 = .ok (.iinc 2 (-1), 3) := by decide +kernel
theorem dX2_dropBefore_29 : decode cX2_dropBefore 29 = .ok (.goto (-22), 3) := by decide +kernel
theorem dX2_dropBefore_32 : decode cX2_dropBefore 32 = .ok (.return_, 1) := by decide +kernel
theorem dX2_countTo_0 : decode cX2_countTo 0 = .ok (.iconst 0, 1) := by decide +kernel
theorem dX2_countTo_1 : decode cX2_countTo 1 = .ok (.istore_n 2, 1) := by decide +kernel
theorem dX2_countTo_2 : decode cX2_countTo 2 = .ok (.iconst 0, 1) := by decide +kernel
theorem dX2_countTo_3 : decode cX2_countTo 3 = .ok (.istore_n 3, 1) := by decide +kernel
theorem dX2_countTo_4 : decode cX2_countTo 4 = .ok (.iload_n 3, 1) := by decide +kernel
theorem dX2_countTo_5 : decode cX2_countTo 5 = .ok (.aload_n 0, 1) := by decide +kernel
theorem dX2_countTo_6 : decode cX2_countTo 6 = .ok (.getfield 21, 3) := by decide +kernel
theorem dX2_countTo_9 : decode cX2_countTo 9 = .ok (.if_icmp .ge 22, 3) := by decide +kernel
theorem dX2_countTo_12 : decode cX2_countTo 12 = .ok (.aload_n 0, 1) := by decide +kernel
theorem dX2_countTo_13 : decode cX2_countTo 13 = .ok (.getfield 15, 3) := by decide +kernel
theorem dX2_countTo_16 : decode cX2_countTo 16 = .ok (.iload_n 3, 1) := by decide +kernel
theorem dX2_countTo_17 : decode cX2_countTo 17 = .ok (.iaload, 1) := by decide +kernel
theorem dX2_countTo_18 : decode cX2_countTo 18 = .ok (.iload_n 1, 1) := by decide +kernel
theorem dX2_countTo_19 : decode cX2_countTo 19 = .ok (.if_icmp .ne 6, 3) := by decide +kernel
theorem dX2_countTo_22 : decode cX2_countTo 22 = .ok (.iinc 2 1, 3) := by decide +kernel
theorem dX2_countTo_25 : decode cX2_countTo 25 = .ok (.iinc 3 1, 3) := by decide +kernel
theorem dX2_countTo_28 : decode cX2_countTo 28 = .ok (.goto (-24), 3) := by decide +kernel
theorem dX2_countTo_31 : decode cX2_countTo 31 = .ok (.iload_n 2, 1) := by decide +kernel
theorem dX2_countTo_32 : decode cX2_countTo 32 = .ok (.ireturn, 1) := by decide +kernel
theorem dX2_latestTo_0 : decode cX2_latestTo 0 = .ok (.iconst (-1), 1) := by decide +kernel
theorem dX2_latestTo_1 : decode cX2_latestTo 1 = .ok (.istore_n 2, 1) := by decide +kernel
theorem dX2_latestTo_2 : decode cX2_latestTo 2 = .ok (.iconst 0, 1) := by decide +kernel
theorem dX2_latestTo_3 : decode cX2_latestTo 3 = .ok (.istore_n 3, 1) := by decide +kernel
theorem dX2_latestTo_4 : decode cX2_latestTo 4 = .ok (.iload_n 3, 1) := by decide +kernel
theorem dX2_latestTo_5 : decode cX2_latestTo 5 = .ok (.aload_n 0, 1) := by decide +kernel
theorem dX2_latestTo_6 : decode cX2_latestTo 6 = .ok (.getfield 21, 3) := by decide +kernel
theorem dX2_latestTo_9 : decode cX2_latestTo 9 = .ok (.if_icmp .ge 30, 3) := by decide +kernel
theorem dX2_latestTo_12 : decode cX2_latestTo 12 = .ok (.aload_n 0, 1) := by decide +kernel
theorem dX2_latestTo_13 : decode cX2_latestTo 13 = .ok (.getfield 15, 3) := by decide +kernel
theorem dX2_latestTo_16 : decode cX2_latestTo 16 = .ok (.iload_n 3, 1) := by decide +kernel
theorem dX2_latestTo_17 : decode cX2_latestTo 17 = .ok (.iaload, 1) := by decide +kernel
theorem dX2_latestTo_18 : decode cX2_latestTo 18 = .ok (.iload_n 1, 1) := by decide +kernel
theorem dX2_latestTo_19 : decode cX2_latestTo 19 = .ok (.if_icmp .ne 14, 3) := by decide +kernel
theorem dX2_latestTo_22 : decode cX2_latestTo 22 = .ok (.iload_n 2, 1) := by decide +kernel
theorem dX2_latestTo_23 : decode cX2_latestTo 23 = .ok (.aload_n 0, 1) := by decide +kernel
theorem dX2_latestTo_24 : decode cX2_latestTo 24 = .ok (.getfield 18, 3) := by decide +kernel
theorem dX2_latestTo_27 : decode cX2_latestTo 27 = .ok (.iload_n 3, 1) := by decide +kernel
theorem dX2_latestTo_28 : decode cX2_latestTo 28 = .ok (.iaload, 1) := by decide +kernel
theorem dX2_latestTo_29 : decode cX2_latestTo 29 = .ok (.invokestatic 53, 3) := by decide +kernel
theorem dX2_latestTo_32 : decode cX2_latestTo 32 = .ok (.istore_n 2, 1) := by decide +kernel
theorem dX2_latestTo_33 : decode cX2_latestTo 33 = .ok (.iinc 3 1, 3) := by decide +kernel
theorem dX2_latestTo_36 : decode cX2_latestTo 36 = .ok (.goto (-32), 3) := by decide +kernel
theorem dX2_latestTo_39 : decode cX2_latestTo 39 = .ok (.iload_n 2, 1) := by decide +kernel
theorem dX2_latestTo_40 : decode cX2_latestTo 40 = .ok (.ireturn, 1) := by decide +kernel
theorem dX3_init_0 : decode cX3_init 0 = .ok (.aload_n 0, 1) := by decide +kernel
theorem dX3_init_1 : decode cX3_init 1 = .ok (.invokespecial 3, 3) := by decide +kernel
theorem dX3_init_4 : decode cX3_init 4 = .ok (.aload_n 0, 1) := by decide +kernel
theorem dX3_init_5 : decode cX3_init 5 = .ok (.bipush 97, 2) := by decide +kernel
theorem dX3_init_7 : decode cX3_init 7 = .ok (.newarray .int, 2) := by decide +kernel
theorem dX3_init_9 : decode cX3_init 9 = .ok (.putfield 9, 3) := by decide +kernel
theorem dX3_init_12 : decode cX3_init 12 = .ok (.aload_n 0, 1) := by decide +kernel
theorem dX3_init_13 : decode cX3_init 13 = .ok (.bipush 97, 2) := by decide +kernel
theorem dX3_init_15 : decode cX3_init 15 = .ok (.newarray .int, 2) := by decide +kernel
theorem dX3_init_17 : decode cX3_init 17 = .ok (.putfield 15, 3) := by decide +kernel
theorem dX3_init_20 : decode cX3_init 20 = .ok (.aload_n 0, 1) := by decide +kernel
theorem dX3_init_21 : decode cX3_init 21 = .ok (.bipush 8, 2) := by decide +kernel
theorem dX3_init_23 : decode cX3_init 23 = .ok (.newarray .int, 2) := by decide +kernel
theorem dX3_init_25 : decode cX3_init 25 = .ok (.putfield 18, 3) := by decide +kernel
theorem dX3_init_28 : decode cX3_init 28 = .ok (.aload_n 0, 1) := by decide +kernel
theorem dX3_init_29 : decode cX3_init 29 = .ok (.bipush 8, 2) := by decide +kernel
theorem dX3_init_31 : decode cX3_init 31 = .ok (.newarray .int, 2) := by decide +kernel
theorem dX3_init_33 : decode cX3_init 33 = .ok (.putfield 21, 3) := by decide +kernel
theorem dX3_init_36 : decode cX3_init 36 = .ok (.aload_n 0, 1) := by decide +kernel
theorem dX3_init_37 : decode cX3_init 37 = .ok (.bipush 8, 2) := by decide +kernel
theorem dX3_init_39 : decode cX3_init 39 = .ok (.newarray .int, 2) := by decide +kernel
theorem dX3_init_41 : decode cX3_init 41 = .ok (.putfield 24, 3) := by decide +kernel
theorem dX3_init_44 : decode cX3_init 44 = .ok (.return_, 1) := by decide +kernel
theorem dX3_make_0 : decode cX3_make 0 = .ok (.aload_n 0, 1) := by decide +kernel
theorem dX3_make_1 : decode cX3_make 1 = .ok (.aload_n 1, 1) := by decide +kernel
theorem dX3_make_2 : decode cX3_make 2 = .ok (.aload_n 2, 1) := by decide +kernel
theorem dX3_make_3 : decode cX3_make 3 = .ok (.iload_n 3, 1) := by decide +kernel
theorem dX3_make_4 : decode cX3_make 4 = .ok (.iload 4, 2) := by decide +kernel
theorem dX3_make_6 : decode cX3_make 6 = .ok (.invokevirtual 27, 3) := by decide +kernel
theorem dX3_make_9 : decode cX3_make 9 = .ok (.istore 5, 2) := by decide +kernel
theorem dX3_make_11 : decode cX3_make 11 = .ok (.iload 5, 2) := by decide +kernel
theorem dX3_make_13 : decode cX3_make 13 = .ok (.ifCond .ne 7, 3) := by decide +kernel
theorem dX3_make_16 : decode cX3_make 16 = .ok (.iconst 0, 1) := by decide +kernel
theorem dX3_make_17 : decode cX3_make 17 = .ok (.goto 5, 3) := by decide +kernel
theorem dX3_make_20 : decode cX3_make 20 = .ok (.iload 4, 2) := by decide +kernel
theorem dX3_make_22 : decode cX3_make 22 = .ok (.istore 6, 2) := by decide +kernel
theorem dX3_make_24 : decode cX3_make 24 = .ok (.iconst 0, 1) := by decide +kernel
theorem dX3_make_25 : decode cX3_make 25 = .ok (.istore 7, 2) := by decide +kernel
theorem dX3_make_27 : decode cX3_make 27 = .ok (.iload 7, 2) := by decide +kernel
theorem dX3_make_29 : decode cX3_make 29 = .ok (.iload 4, 2) := by decide +kernel
theorem dX3_make_31 : decode cX3_make 31 = .ok (.if_icmp .ge 99, 3) := by decide +kernel
theorem dX3_make_34 : decode cX3_make 34 = .ok (.iload 6, 2) := by decide +kernel
theorem dX3_make_36 : decode cX3_make 36 = .ok (.ifCond .le 94, 3) := by decide +kernel
theorem dX3_make_39 : decode cX3_make 39 = .ok (.iconst 0, 1) := by decide +kernel
theorem dX3_make_40 : decode cX3_make 40 = .ok (.istore 8, 2) := by decide +kernel
theorem dX3_make_42 : decode cX3_make 42 = .ok (.iload 8, 2) := by decide +kernel
theorem dX3_make_44 : decode cX3_make 44 = .ok (.aload_n 2, 1) := by decide +kernel
theorem dX3_make_45 : decode cX3_make 45 = .ok (.getfield 31, 3) := by decide +kernel
theorem dX3_make_48 : decode cX3_make 48 = .ok (.if_icmp .ge 76, 3) := by decide +kernel
theorem dX3_make_51 : decode cX3_make 51 = .ok (.iload 6, 2) := by decide +kernel
theorem dX3_make_53 : decode cX3_make 53 = .ok (.ifCond .le 71, 3) := by decide +kernel
theorem dX3_make_56 : decode cX3_make 56 = .ok (.iload_n 3, 1) := by decide +kernel
theorem dX3_make_57 : decode cX3_make 57 = .ok (.iload 8, 2) := by decide +kernel
theorem dX3_make_59 : decode cX3_make 59 = .ok (.invokestatic 37, 3) := by decide +kernel
theorem dX3_make_62 : decode cX3_make 62 = .ok (.ifCond .eq 56, 3) := by decide +kernel
theorem dX3_make_65 : decode cX3_make 65 = .ok (.aload_n 0, 1) := by decide +kernel
theorem dX3_make_66 : decode cX3_make 66 = .ok (.getfield 24, 3) := by decide +kernel
theorem dX3_make_69 : decode cX3_make 69 = .ok (.iload 8, 2) := by decide +kernel
theorem dX3_make_71 : decode cX3_make 71 = .ok (.dup2, 1) := by decide +kernel
theorem dX3_make_72 : decode cX3_make 72 = .ok (.iaload, 1) := by decide +kernel
theorem dX3_make_73 : decode cX3_make 73 = .ok (.aload_n 2, 1) := by decide +kernel
theorem dX3_make_74 : decode cX3_make 74 = .ok (.getfield 41, 3) := by decide +kernel
theorem dX3_make_77 : decode cX3_make 77 = .ok (.iload 8, 2) := by decide +kernel
theorem dX3_make_79 : decode cX3_make 79 = .ok (.iaload, 1) := by decide +kernel
theorem dX3_make_80 : decode cX3_make 80 = .ok (.iadd, 1) := by decide +kernel
theorem dX3_make_81 : decode cX3_make 81 = .ok (.iastore, 1) := by decide +kernel
theorem dX3_make_82 : decode cX3_make 82 = .ok (.aload_n 0, 1) := by decide +kernel
theorem dX3_make_83 : decode cX3_make 83 = .ok (.getfield 24, 3) := by decide +kernel
theorem dX3_make_86 : decode cX3_make 86 = .ok (.iload 8, 2) := by decide +kernel
theorem dX3_make_88 : decode cX3_make 88 = .ok (.iaload, 1) := by decide +kernel
theorem dX3_make_89 : decode cX3_make 89 = .ok (.iload 5, 2) := by decide +kernel
theorem dX3_make_91 : decode cX3_make 91 = .ok (.if_icmp .lt 27, 3) := by decide +kernel
theorem dX3_make_94 : decode cX3_make 94 = .ok (.aload_n 0, 1) := by decide +kernel
theorem dX3_make_95 : decode cX3_make 95 = .ok (.getfield 24, 3) := by decide +kernel
theorem dX3_make_98 : decode cX3_make 98 = .ok (.iload 8, 2) := by decide +kernel
theorem dX3_make_100 : decode cX3_make 100 = .ok (.dup2, 1) := by decide +kernel
theorem dX3_make_101 : decode cX3_make 101 = .ok (.iaload, 1) := by decide +kernel
theorem dX3_make_102 : decode cX3_make 102 = .ok (.iload 5, 2) := by decide +kernel
theorem dX3_make_104 : decode cX3_make 104 = .ok (.isub, 1) := by decide +kernel
theorem dX3_make_105 : decode cX3_make 105 = .ok (.iastore, 1) := by decide +kernel
theorem dX3_make_106 : decode cX3_make 106 = .ok (.aload_n 0, 1) := by decide +kernel
theorem dX3_make_107 : decode cX3_make 107 = .ok (.aload_n 1, 1) := by decide +kernel
theorem dX3_make_108 : decode cX3_make 108 = .ok (.iload 8, 2) := by decide +kernel
theorem dX3_make_110 : decode cX3_make 110 = .ok (.iload 4, 2) := by decide +kernel
theorem dX3_make_112 : decode cX3_make 112 = .ok (.invokevirtual 44, 3) := by decide +kernel
theorem dX3_make_115 : decode cX3_make 115 = .ok (.iinc 6 (-1), 3) := by decide +kernel
theorem dX3_make_118 : decode cX3_make 118 = .ok (.iinc 8 1, 3) := by decide +kernel
theorem dX3_make_121 : decode cX3_make 121 = .ok (.goto (-79), 3) := by decide +kernel
theorem dX3_make_124 : decode cX3_make 124 = .ok (.iinc 7 1, 3) := by decide +kernel
theorem dX3_make_127 : decode cX3_make 127 = .ok (.goto (-100), 3) := by decide +kernel
theorem dX3_make_130 : decode cX3_make 130 = .ok (.return_, 1) := by decide +kernel
theorem dX3_start_0 : decode cX3_start 0 = .ok (.iconst 0, 1) := by decide +kernel
theorem dX3_start_1 : decode cX3_start 1 = .ok (.istore 5, 2) := by decide +kernel
theorem dX3_start_3 : decode cX3_start 3 = .ok (.iload 5, 2) := by decide +kernel
theorem dX3_start_5 : decode cX3_start 5 = .ok (.iload 4, 2) := by decide +kernel
theorem dX3_start_7 : decode cX3_start 7 = .ok (.if_icmp .ge 14, 3) := by decide +kernel
theorem dX3_start_10 : decode cX3_start 10 = .ok (.aload_n 1, 1) := by decide +kernel
theorem dX3_start_11 : decode cX3_start 11 = .ok (.iload 5, 2) := by decide +kernel
theorem dX3_start_13 : decode cX3_start 13 = .ok (.iconst (-1), 1) := by decide +kernel
theorem dX3_start_14 : decode cX3_start 14 = .ok (.iastore, 1) := by decide +kernel
theorem dX3_start_15 : decode cX3_start 15 = .ok (.iinc 5 1, 3) := by decide +kernel
theorem dX3_start_18 : decode cX3_start 18 = .ok (.goto (-15), 3) := by decide +kernel
theorem dX3_start_21 : decode cX3_start 21 = .ok (.iconst 0, 1) := by decide +kernel
theorem dX3_start_22 : decode cX3_start 22 = .ok (.istore 5, 2) := by decide +kernel
theorem dX3_start_24 : decode cX3_start 24 = .ok (.iconst 0, 1) := by decide +kernel
theorem dX3_start_25 : decode cX3_start 25 = .ok (.istore 6, 2) := by decide +kernel
theorem dX3_start_27 : decode cX3_start 27 = .ok (.iload 6, 2) := by decide +kernel
theorem dX3_start_29 : decode cX3_start 29 = .ok (.aload_n 2, 1) := by decide +kernel
theorem dX3_start_30 : decode cX3_start 30 = .ok (.getfield 31, 3) := by decide +kernel
theorem dX3_start_33 : decode cX3_start 33 = .ok (.if_icmp .ge 78, 3) := by decide +kernel
theorem dX3_start_36 : decode cX3_start 36 = .ok (.iload_n 3, 1) := by decide +kernel
theorem dX3_start_37 : decode cX3_start 37 = .ok (.iload 6, 2) := by decide +kernel
theorem dX3_start_39 : decode cX3_start 39 = .ok (.invokestatic 37, 3) := by decide +kernel
theorem dX3_start_42 : decode cX3_start 42 = .ok (.ifCond .eq 63, 3) := by decide +kernel
theorem dX3_start_45 : decode cX3_start 45 = .ok (.aload_n 0, 1) := by decide +kernel
theorem dX3_start_46 : decode cX3_start 46 = .ok (.getfield 18, 3) := by decide +kernel
theorem dX3_start_49 : decode cX3_start 49 = .ok (.iload 6, 2) := by decide +kernel
theorem dX3_start_51 : decode cX3_start 51 = .ok (.aload_n 2, 1) := by decide +kernel
theorem dX3_start_52 : decode cX3_start 52 = .ok (.getfield 48, 3) := by decide +kernel
theorem dX3_start_55 : decode cX3_start 55 = .ok (.iload 6, 2) := by decide +kernel
theorem dX3_start_57 : decode cX3_start 57 = .ok (.iaload, 1) := by decide +kernel
theorem dX3_start_58 : decode cX3_start 58 = .ok (.iload 4, 2) := by decide +kernel
theorem dX3_start_60 : decode cX3_start 60 = .ok (.invokestatic 51, 3) := by decide +kernel
theorem dX3_start_63 : decode cX3_start 63 = .ok (.iastore, 1) := by decide +kernel
theorem dX3_start_64 : decode cX3_start 64 = .ok (.aload_n 0, 1) := by decide +kernel
theorem dX3_start_65 : decode cX3_start 65 = .ok (.getfield 21, 3) := by decide +kernel
theorem dX3_start_68 : decode cX3_start 68 = .ok (.iload 6, 2) := by decide +kernel
theorem dX3_start_70 : decode cX3_start 70 = .ok (.aload_n 2, 1) := by decide +kernel
theorem dX3_start_71 : decode cX3_start 71 = .ok (.getfield 48, 3) := by decide +kernel
theorem dX3_start_74 : decode cX3_start 74 = .ok (.iload 6, 2) := by decide +kernel
theorem dX3_start_76 : decode cX3_start 76 = .ok (.iaload, 1) := by decide +kernel
theorem dX3_start_77 : decode cX3_start 77 = .ok (.iload 4, 2) := by decide +kernel
theorem dX3_start_79 : decode cX3_start 79 = .ok (.invokestatic 55, 3) := by decide +kernel
theorem dX3_start_82 : decode cX3_start 82 = .ok (.iastore, 1) := by decide +kernel
theorem dX3_start_83 : decode cX3_start 83 = .ok (.aload_n 0, 1) := by decide +kernel
theorem dX3_start_84 : decode cX3_start 84 = .ok (.getfield 24, 3) := by decide +kernel
theorem dX3_start_87 : decode cX3_start 87 = .ok (.iload 6, 2) := by decide +kernel
theorem dX3_start_89 : decode cX3_start 89 = .ok (.iconst 0, 1) := by decide +kernel
theorem dX3_start_90 : decode cX3_start 90 = .ok (.iastore, 1) := by decide +kernel
theorem dX3_start_91 : decode cX3_start 91 = .ok (.iload 5, 2) := by decide +kernel
theorem dX3_start_93 : decode cX3_start 93 = .ok (.aload_n 2, 1) := by decide +kernel
theorem dX3_start_94 : decode cX3_start 94 = .ok (.getfield 41, 3) := by decide +kernel
theorem dX3_start_97 : decode cX3_start 97 = .ok (.iload 6, 2) := by decide +kernel
theorem dX3_start_99 : decode cX3_start 99 = .ok (.iaload, 1) := by decide +kernel
theorem dX3_start_100 : decode cX3_start 100 = .ok (.invokestatic 58, 3) := by decide +kernel
theorem dX3_start_103 : decode cX3_start 103 = .ok (.istore 5, 2) := by decide +kernel
theorem dX3_start_105 : decode cX3_start 105 = .ok (.iinc 6 1, 3) := by decide +kernel
theorem dX3_start_108 : decode cX3_start 108 = .ok (.goto (-81), 3) := by decide +kernel
theorem dX3_start_111 : decode cX3_start 111 = .ok (.iload 5, 2) := by decide +kernel
theorem dX3_start_113 : decode cX3_start 113 = .ok (.ireturn, 1) := by decide +kernel
theorem dX3_take_0 : decode cX3_take 0 = .ok (.aload_n 0, 1) := by decide +kernel
theorem dX3_take_1 : decode cX3_take 1 = .ok (.getfield 18, 3) := by decide +kernel
theorem dX3_take_4 : decode cX3_take 4 = .ok (.iload_n 2, 1) := by decide +kernel
theorem dX3_take_5 : decode cX3_take 5 = .ok (.iaload, 1) := by decide +kernel
theorem dX3_take_6 : decode cX3_take 6 = .ok (.istore 4, 2) := by decide +kernel
theorem dX3_take_8 : decode cX3_take 8 = .ok (.iconst 0, 1) := by decide +kernel
theorem dX3_take_9 : decode cX3_take 9 = .ok (.istore 5, 2) := by decide +kernel
theorem dX3_take_11 : decode cX3_take 11 = .ok (.iload 5, 2) := by decide +kernel
theorem dX3_take_13 : decode cX3_take 13 = .ok (.iload_n 3, 1) := by decide +kernel
theorem dX3_take_14 : decode cX3_take 14 = .ok (.if_icmp .ge 32, 3) := by decide +kernel
theorem dX3_take_17 : decode cX3_take 17 = .ok (.aload_n 1, 1) := by decide +kernel
theorem dX3_take_18 : decode cX3_take 18 = .ok (.iload 4, 2) := by decide +kernel
theorem dX3_take_20 : decode cX3_take 20 = .ok (.iaload, 1) := by decide +kernel
theorem dX3_take_21 : decode cX3_take 21 = .ok (.iconst (-1), 1) := by decide +kernel
theorem dX3_take_22 : decode cX3_take 22 = .ok (.if_icmp .eq 24, 3) := by decide +kernel
theorem dX3_take_25 : decode cX3_take 25 = .ok (.iload 4, 2) := by decide +kernel
theorem dX3_take_27 : decode cX3_take 27 = .ok (.aload_n 0, 1) := by decide +kernel
theorem dX3_take_28 : decode cX3_take 28 = .ok (.getfield 21, 3) := by decide +kernel
theorem dX3_take_31 : decode cX3_take 31 = .ok (.iload_n 2, 1) := by decide +kernel
theorem dX3_take_32 : decode cX3_take 32 = .ok (.iaload, 1) := by decide +kernel
theorem dX3_take_33 : decode cX3_take 33 = .ok (.iadd, 1) := by decide +kernel
theorem dX3_take_34 : decode cX3_take 34 = .ok (.iload_n 3, 1) := by decide +kernel
theorem dX3_take_35 : decode cX3_take 35 = .ok (.invokestatic 63, 3) := by decide +kernel
theorem dX3_take_38 : decode cX3_take 38 = .ok (.istore 4, 2) := by decide +kernel
theorem dX3_take_40 : decode cX3_take 40 = .ok (.iinc 5 1, 3) := by decide +kernel
theorem dX3_take_43 : decode cX3_take 43 = .ok (.goto (-32), 3) := by decide +kernel
theorem dX3_take_46 : decode cX3_take 46 = .ok (.aload_n 1, 1) := by decide +kernel
theorem dX3_take_47 : decode cX3_take 47 = .ok (.iload 4, 2) := by decide +kernel
theorem dX3_take_49 : decode cX3_take 49 = .ok (.iload_n 2, 1) := by decide +kernel
theorem dX3_take_50 : decode cX3_take 50 = .ok (.iastore, 1) := by decide +kernel
theorem dX3_take_51 : decode cX3_take 51 = .ok (.aload_n 0, 1) := by decide +kernel
theorem dX3_take_52 : decode cX3_take 52 = .ok (.getfield 18, 3) := by decide +kernel
theorem dX3_take_55 : decode cX3_take 55 = .ok (.iload_n 2, 1) := by decide +kernel
theorem dX3_take_56 : decode cX3_take 56 = .ok (.iload 4, 2) := by decide +kernel
theorem dX3_take_58 : decode cX3_take 58 = .ok (.iastore, 1) := by decide +kernel
theorem dX3_take_59 : decode cX3_take 59 = .ok (.return_, 1) := by decide +kernel
theorem dX4_init_0 : decode cX4_init 0 = .ok (.aload_n 0, 1) := by decide +kernel
theorem dX4_init_1 : decode cX4_init 1 = .ok (.invokespecial 3, 3) := by decide +kernel
theorem dX4_init_4 : decode cX4_init 4 = .ok (.aload_n 0, 1) := by decide +kernel
theorem dX4_init_5 : decode cX4_init 5 = .ok (.sipush 400, 3) := by decide +kernel
theorem dX4_init_8 : decode cX4_init 8 = .ok (.newarray .int, 2) := by decide +kernel
theorem dX4_init_10 : decode cX4_init 10 = .ok (.putfield 9, 3) := by decide +kernel
theorem dX4_init_13 : decode cX4_init 13 = .ok (.aload_n 0, 1) := by decide +kernel
theorem dX4_init_14 : decode cX4_init 14 = .ok (.iconst 0, 1) := by decide +kernel
theorem dX4_init_15 : decode cX4_init 15 = .ok (.putfield 15, 3) := by decide +kernel
theorem dX4_init_18 : decode cX4_init 18 = .ok (.return_, 1) := by decide +kernel
theorem dX4_add_0 : decode cX4_add 0 = .ok (.bipush 24, 2) := by decide +kernel
theorem dX4_add_2 : decode cX4_add 2 = .ok (.istore_n 2, 1) := by decide +kernel
theorem dX4_add_3 : decode cX4_add 3 = .ok (.iload_n 2, 1) := by decide +kernel
theorem dX4_add_4 : decode cX4_add 4 = .ok (.ifCond .lt 47, 3) := by decide +kernel
theorem dX4_add_7 : decode cX4_add 7 = .ok (.aload_n 0, 1) := by decide +kernel
theorem dX4_add_8 : decode cX4_add 8 = .ok (.getfield 15, 3) := by decide +kernel
theorem dX4_add_11 : decode cX4_add 11 = .ok (.aload_n 0, 1) := by decide +kernel
theorem dX4_add_12 : decode cX4_add 12 = .ok (.getfield 9, 3) := by decide +kernel
theorem dX4_add_15 : decode cX4_add 15 = .ok (.arraylength, 1) := by decide +kernel
theorem dX4_add_16 : decode cX4_add 16 = .ok (.if_icmp .ge 35, 3) := by decide +kernel
theorem dX4_add_19 : decode cX4_add 19 = .ok (.aload_n 0, 1) := by decide +kernel
theorem dX4_add_20 : decode cX4_add 20 = .ok (.getfield 9, 3) := by decide +kernel
theorem dX4_add_23 : decode cX4_add 23 = .ok (.aload_n 0, 1) := by decide +kernel
theorem dX4_add_24 : decode cX4_add 24 = .ok (.getfield 15, 3) := by decide +kernel
theorem dX4_add_27 : decode cX4_add 27 = .ok (.iload_n 1, 1) := by decide +kernel
theorem dX4_add_28 : decode cX4_add 28 = .ok (.iload_n 2, 1) := by decide +kernel
theorem dX4_add_29 : decode cX4_add 29 = .ok (.iushr, 1) := by decide +kernel
theorem dX4_add_30 : decode cX4_add 30 = .ok (.sipush 255, 3) := by decide +kernel
theorem dX4_add_33 : decode cX4_add 33 = .ok (.iand, 1) := by decide +kernel
theorem dX4_add_34 : decode cX4_add 34 = .ok (.iastore, 1) := by decide +kernel
theorem dX4_add_35 : decode cX4_add 35 = .ok (.aload_n 0, 1) := by decide +kernel
theorem dX4_add_36 : decode cX4_add 36 = .ok (.dup, 1) := by decide +kernel
theorem dX4_add_37 : decode cX4_add 37 = .ok (.getfield 15, 3) := by decide +kernel
theorem dX4_add_40 : decode cX4_add 40 = .ok (.iconst 1, 1) := by decide +kernel
theorem dX4_add_41 : decode cX4_add 41 = .ok (.iadd, 1) := by decide +kernel
theorem dX4_add_42 : decode cX4_add 42 = .ok (.putfield 15, 3) := by decide +kernel
theorem dX4_add_45 : decode cX4_add 45 = .ok (.iinc 2 (-8), 3) := by decide +kernel
theorem dX4_add_48 : decode cX4_add 48 = .ok (.goto (-45), 3) := by decide +kernel
theorem dX4_add_51 : decode cX4_add 51 = .ok (.return_, 1) := by decide +kernel
theorem dX5_init_0 : decode cX5_init 0 = .ok (.aload_n 0, 1) := by decide +kernel
theorem dX5_init_1 : decode cX5_init 1 = .ok (.invokespecial 3, 3) := by decide +kernel
theorem dX5_init_4 : decode cX5_init 4 = .ok (.aload_n 0, 1) := by decide +kernel
theorem dX5_init_5 : decode cX5_init 5 = .ok (.iconst 0, 1) := by decide +kernel
theorem dX5_init_6 : decode cX5_init 6 = .ok (.putfield 9, 3) := by decide +kernel
theorem dX5_init_9 : decode cX5_init 9 = .ok (.aload_n 0, 1) := by decide +kernel
theorem dX5_init_10 : decode cX5_init 10 = .ok (.getstatic 15, 3) := by decide +kernel
theorem dX5_init_13 : decode cX5_init 13 = .ok (.putfield 21, 3) := by decide +kernel
theorem dX5_init_16 : decode cX5_init 16 = .ok (.aload_n 0, 1) := by decide +kernel
theorem dX5_init_17 : decode cX5_init 17 = .ok (.iconst 3, 1) := by decide +kernel
theorem dX5_init_18 : decode cX5_init 18 = .ok (.newarray .int, 2) := by decide +kernel
theorem dX5_init_20 : decode cX5_init 20 = .ok (.putfield 24, 3) := by decide +kernel
theorem dX5_init_23 : decode cX5_init 23 = .ok (.aload_n 0, 1) := by decide +kernel
theorem dX5_init_24 : decode cX5_init 24 = .ok (.iconst 0, 1) := by decide +kernel
theorem dX5_init_25 : decode cX5_init 25 = .ok (.putfield 28, 3) := by decide +kernel
theorem dX5_init_28 : decode cX5_init 28 = .ok (.aload_n 0, 1) := by decide +kernel
theorem dX5_init_29 : decode cX5_init 29 = .ok (.iconst 0, 1) := by decide +kernel
theorem dX5_init_30 : decode cX5_init 30 = .ok (.putfield 31, 3) := by decide +kernel
theorem dX5_init_33 : decode cX5_init 33 = .ok (.aload_n 0, 1) := by decide +kernel
theorem dX5_init_34 : decode cX5_init 34 = .ok (.iconst 0, 1) := by decide +kernel
theorem dX5_init_35 : decode cX5_init 35 = .ok (.putfield 34, 3) := by decide +kernel
theorem dX5_init_38 : decode cX5_init 38 = .ok (.aload_n 0, 1) := by decide +kernel
theorem dX5_init_39 : decode cX5_init 39 = .ok (.aload_n 1, 1) := by decide +kernel
theorem dX5_init_40 : decode cX5_init 40 = .ok (.putfield 37, 3) := by decide +kernel
theorem dX5_init_43 : decode cX5_init 43 = .ok (.return_, 1) := by decide +kernel
theorem dX5_begin_0 : decode cX5_begin 0 = .ok (.aload_n 0, 1) := by decide +kernel
theorem dX5_begin_1 : decode cX5_begin 1 = .ok (.iconst 0, 1) := by decide +kernel
theorem dX5_begin_2 : decode cX5_begin 2 = .ok (.putfield 9, 3) := by decide +kernel
theorem dX5_begin_5 : decode cX5_begin 5 = .ok (.aload_n 0, 1) := by decide +kernel
theorem dX5_begin_6 : decode cX5_begin 6 = .ok (.iconst 0, 1) := by decide +kernel
theorem dX5_begin_7 : decode cX5_begin 7 = .ok (.putfield 34, 3) := by decide +kernel
theorem dX5_begin_10 : decode cX5_begin 10 = .ok (.aload_n 0, 1) := by decide +kernel
theorem dX5_begin_11 : decode cX5_begin 11 = .ok (.invokevirtual 41, 3) := by decide +kernel
theorem dX5_begin_14 : decode cX5_begin 14 = .ok (.return_, 1) := by decide +kernel
theorem dX5_hasMore_0 : decode cX5_hasMore 0 = .ok (.aload_n 0, 1) := by decide +kernel
theorem dX5_hasMore_1 : decode cX5_hasMore 1 = .ok (.getfield 9, 3) := by decide +kernel
theorem dX5_hasMore_4 : decode cX5_hasMore 4 = .ok (.ifCond .ne 14, 3) := by decide +kernel
theorem dX5_hasMore_7 : decode cX5_hasMore 7 = .ok (.aload_n 0, 1) := by decide +kernel
theorem dX5_hasMore_8 : decode cX5_hasMore 8 = .ok (.getfield 28, 3) := by decide +kernel
theorem dX5_hasMore_11 : decode cX5_hasMore 11 = .ok (.ifCond .eq 7, 3) := by decide +kernel
theorem dX5_hasMore_14 : decode cX5_hasMore 14 = .ok (.iconst 1, 1) := by decide +kernel
theorem dX5_hasMore_15 : decode cX5_hasMore 15 = .ok (.goto 4, 3) := by decide +kernel
theorem dX5_hasMore_18 : decode cX5_hasMore 18 = .ok (.iconst 0, 1) := by decide +kernel
theorem dX5_hasMore_19 : decode cX5_hasMore 19 = .ok (.ireturn, 1) := by decide +kernel
theorem dX5_reads_0 : decode cX5_reads 0 = .ok (.aload_n 0, 1) := by decide +kernel
theorem dX5_reads_1 : decode cX5_reads 1 = .ok (.getfield 31, 3) := by decide +kernel
theorem dX5_reads_4 : decode cX5_reads 4 = .ok (.istore_n 2, 1) := by decide +kernel
theorem dX5_reads_5 : decode cX5_reads 5 = .ok (.aload_n 0, 1) := by decide +kernel
theorem dX5_reads_6 : decode cX5_reads 6 = .ok (.invokevirtual 44, 3) := by decide +kernel
theorem dX5_reads_9 : decode cX5_reads 9 = .ok (.ifCond .ne 12, 3) := by decide +kernel
theorem dX5_reads_12 : decode cX5_reads 12 = .ok (.aload_n 0, 1) := by decide +kernel
theorem dX5_reads_13 : decode cX5_reads 13 = .ok (.iconst 1, 1) := by decide +kernel
theorem dX5_reads_14 : decode cX5_reads 14 = .ok (.iload_n 2, 1) := by decide +kernel
theorem dX5_reads_15 : decode cX5_reads 15 = .ok (.invokevirtual 48, 3) := by decide +kernel
theorem dX5_reads_18 : decode cX5_reads 18 = .ok (.goto 28, 3) := by decide +kernel
theorem dX5_reads_21 : decode cX5_reads 21 = .ok (.aload_n 0, 1) := by decide +kernel
theorem dX5_reads_22 : decode cX5_reads 22 = .ok (.getfield 21, 3) := by decide +kernel
theorem dX5_reads_25 : decode cX5_reads 25 = .ok (.getstatic 52, 3) := by decide +kernel
theorem dX5_reads_28 : decode cX5_reads 28 = .ok (.if_acmp .ne 18, 3) := by decide +kernel
theorem dX5_reads_31 : decode cX5_reads 31 = .ok (.aload_n 1, 1) := by decide +kernel
theorem dX5_reads_32 : decode cX5_reads 32 = .ok (.getfield 55, 3) := by decide +kernel
theorem dX5_reads_35 : decode cX5_reads 35 = .ok (.bipush 8, 2) := by decide +kernel
theorem dX5_reads_37 : decode cX5_reads 37 = .ok (.if_icmp .lt 9, 3) := by decide +kernel
theorem dX5_reads_40 : decode cX5_reads 40 = .ok (.aload_n 0, 1) := by decide +kernel
theorem dX5_reads_41 : decode cX5_reads 41 = .ok (.iconst 3, 1) := by decide +kernel
theorem dX5_reads_42 : decode cX5_reads 42 = .ok (.iload_n 2, 1) := by decide +kernel
theorem dX5_reads_43 : decode cX5_reads 43 = .ok (.invokevirtual 48, 3) := by decide +kernel
theorem dX5_reads_46 : decode cX5_reads 46 = .ok (.iconst 0, 1) := by decide +kernel
theorem dX5_reads_47 : decode cX5_reads 47 = .ok (.istore_n 3, 1) := by decide +kernel
theorem dX5_reads_48 : decode cX5_reads 48 = .ok (.iload_n 3, 1) := by decide +kernel
theorem dX5_reads_49 : decode cX5_reads 49 = .ok (.aload_n 0, 1) := by decide +kernel
theorem dX5_reads_50 : decode cX5_reads 50 = .ok (.getfield 21, 3) := by decide +kernel
theorem dX5_reads_53 : decode cX5_reads 53 = .ok (.getfield 60, 3) := by decide +kernel
theorem dX5_reads_56 : decode cX5_reads 56 = .ok (.invokevirtual 64, 3) := by decide +kernel
theorem dX5_reads_59 : decode cX5_reads 59 = .ok (.if_icmp .ge 47, 3) := by decide +kernel
theorem dX5_reads_62 : decode cX5_reads 62 = .ok (.iload_n 3, 1) := by decide +kernel
theorem dX5_reads_63 : decode cX5_reads 63 = .ok (.aload_n 0, 1) := by decide +kernel
theorem dX5_reads_64 : decode cX5_reads 64 = .ok (.getfield 24, 3) := by decide +kernel
theorem dX5_reads_67 : decode cX5_reads 67 = .ok (.arraylength, 1) := by decide +kernel
theorem dX5_reads_68 : decode cX5_reads 68 = .ok (.if_icmp .ge 38, 3) := by decide +kernel
theorem dX5_reads_71 : decode cX5_reads 71 = .ok (.aload_n 0, 1) := by decide +kernel
theorem dX5_reads_72 : decode cX5_reads 72 = .ok (.getfield 9, 3) := by decide +kernel
theorem dX5_reads_75 : decode cX5_reads 75 = .ok (.ifCond .ne 31, 3) := by decide +kernel
theorem dX5_reads_78 : decode cX5_reads 78 = .ok (.aload_n 0, 1) := by decide +kernel
theorem dX5_reads_79 : decode cX5_reads 79 = .ok (.getfield 24, 3) := by decide +kernel
theorem dX5_reads_82 : decode cX5_reads 82 = .ok (.iload_n 3, 1) := by decide +kernel
theorem dX5_reads_83 : decode cX5_reads 83 = .ok (.aload_n 0, 1) := by decide +kernel
theorem dX5_reads_84 : decode cX5_reads 84 = .ok (.aload_n 1, 1) := by decide +kernel
theorem dX5_reads_85 : decode cX5_reads 85 = .ok (.aload_n 0, 1) := by decide +kernel
theorem dX5_reads_86 : decode cX5_reads 86 = .ok (.getfield 21, 3) := by decide +kernel
theorem dX5_reads_89 : decode cX5_reads 89 = .ok (.getfield 60, 3) := by decide +kernel
theorem dX5_reads_92 : decode cX5_reads 92 = .ok (.iload_n 3, 1) := by decide +kernel
theorem dX5_reads_93 : decode cX5_reads 93 = .ok (.invokevirtual 70, 3) := by decide +kernel
theorem dX5_reads_96 : decode cX5_reads 96 = .ok (.invokevirtual 74, 3) := by decide +kernel
theorem dX5_reads_99 : decode cX5_reads 99 = .ok (.iastore, 1) := by decide +kernel
theorem dX5_reads_100 : decode cX5_reads 100 = .ok (.iinc 3 1, 3) := by decide +kernel
theorem dX5_reads_103 : decode cX5_reads 103 = .ok (.goto (-55), 3) := by decide +kernel
theorem dX5_reads_106 : decode cX5_reads 106 = .ok (.aload_n 0, 1) := by decide +kernel
theorem dX5_reads_107 : decode cX5_reads 107 = .ok (.getfield 28, 3) := by decide +kernel
theorem dX5_reads_110 : decode cX5_reads 110 = .ok (.iconst 4, 1) := by decide +kernel
theorem dX5_reads_111 : decode cX5_reads 111 = .ok (.if_icmp .eq 12, 3) := by decide +kernel
theorem dX5_reads_114 : decode cX5_reads 114 = .ok (.aload_n 0, 1) := by decide +kernel
theorem dX5_reads_115 : decode cX5_reads 115 = .ok (.iconst 1, 1) := by decide +kernel
theorem dX5_reads_116 : decode cX5_reads 116 = .ok (.aload_n 0, 1) := by decide +kernel
theorem dX5_reads_117 : decode cX5_reads 117 = .ok (.getfield 31, 3) := by decide +kernel
theorem dX5_reads_120 : decode cX5_reads 120 = .ok (.invokevirtual 48, 3) := by decide +kernel
theorem dX5_reads_123 : decode cX5_reads 123 = .ok (.aload_n 0, 1) := by decide +kernel
theorem dX5_reads_124 : decode cX5_reads 124 = .ok (.invokevirtual 41, 3) := by decide +kernel
theorem dX5_reads_127 : decode cX5_reads 127 = .ok (.aload_n 0, 1) := by decide +kernel
theorem dX5_reads_128 : decode cX5_reads 128 = .ok (.getfield 9, 3) := by decide +kernel
theorem dX5_reads_131 : decode cX5_reads 131 = .ok (.ifCond .ne 7, 3) := by decide +kernel
theorem dX5_reads_134 : decode cX5_reads 134 = .ok (.iconst 1, 1) := by decide +kernel
theorem dX5_reads_135 : decode cX5_reads 135 = .ok (.goto 4, 3) := by decide +kernel
theorem dX5_reads_138 : decode cX5_reads 138 = .ok (.iconst 0, 1) := by decide +kernel
theorem dX5_reads_139 : decode cX5_reads 139 = .ok (.ireturn, 1) := by decide +kernel
theorem dX5_takesVerb_0 : decode cX5_takesVerb 0 = .ok (.iconst 0, 1) := by decide +kernel
theorem dX5_takesVerb_1 : decode cX5_takesVerb 1 = .ok (.istore_n 1, 1) := by decide +kernel
theorem dX5_takesVerb_2 : decode cX5_takesVerb 2 = .ok (.iload_n 1, 1) := by decide +kernel
theorem dX5_takesVerb_3 : decode cX5_takesVerb 3 = .ok (.getstatic 78, 3) := by decide +kernel
theorem dX5_takesVerb_6 : decode cX5_takesVerb 6 = .ok (.arraylength, 1) := by decide +kernel
theorem dX5_takesVerb_7 : decode cX5_takesVerb 7 = .ok (.if_icmp .ge 35, 3) := by decide +kernel
theorem dX5_takesVerb_10 : decode cX5_takesVerb 10 = .ok (.aload_n 0, 1) := by decide +kernel
theorem dX5_takesVerb_11 : decode cX5_takesVerb 11 = .ok (.getstatic 78, 3) := by decide +kernel
theorem dX5_takesVerb_14 : decode cX5_takesVerb 14 = .ok (.iload_n 1, 1) := by decide +kernel
theorem dX5_takesVerb_15 : decode cX5_takesVerb 15 = .ok (.aaload, 1) := by decide +kernel
theorem dX5_takesVerb_16 : decode cX5_takesVerb 16 = .ok (.getfield 82, 3) := by decide +kernel
theorem dX5_takesVerb_19 : decode cX5_takesVerb 19 = .ok (.invokevirtual 85, 3) := by decide +kernel
theorem dX5_takesVerb_22 : decode cX5_takesVerb 22 = .ok (.ifCond .eq 14, 3) := by decide +kernel
theorem dX5_takesVerb_25 : decode cX5_takesVerb 25 = .ok (.aload_n 0, 1) := by decide +kernel
theorem dX5_takesVerb_26 : decode cX5_takesVerb 26 = .ok (.getstatic 78, 3) := by decide +kernel
theorem dX5_takesVerb_29 : decode cX5_takesVerb 29 = .ok (.iload_n 1, 1) := by decide +kernel
theorem dX5_takesVerb_30 : decode cX5_takesVerb 30 = .ok (.aaload, 1) := by decide +kernel
theorem dX5_takesVerb_31 : decode cX5_takesVerb 31 = .ok (.putfield 21, 3) := by decide +kernel
theorem dX5_takesVerb_34 : decode cX5_takesVerb 34 = .ok (.iconst 1, 1) := by decide +kernel
theorem dX5_takesVerb_35 : decode cX5_takesVerb 35 = .ok (.ireturn, 1) := by decide +kernel
theorem dX5_takesVerb_36 : decode cX5_takesVerb 36 = .ok (.iinc 1 1, 3) := by decide +kernel
theorem dX5_takesVerb_39 : decode cX5_takesVerb 39 = .ok (.goto (-37), 3) := by decide +kernel
theorem dX5_takesVerb_42 : decode cX5_takesVerb 42 = .ok (.iconst 0, 1) := by decide +kernel
theorem dX5_takesVerb_43 : decode cX5_takesVerb 43 = .ok (.ireturn, 1) := by decide +kernel
theorem dX5_readNext_0 : decode cX5_readNext 0 = .ok (.iload_n 2, 1) := by decide +kernel
theorem dX5_readNext_1 : decode cX5_readNext 1 = .ok (.bipush 72, 2) := by decide +kernel
theorem dX5_readNext_3 : decode cX5_readNext 3 = .ok (.if_icmp .ne 8, 3) := by decide +kernel
theorem dX5_readNext_6 : decode cX5_readNext 6 = .ok (.aload_n 0, 1) := by decide +kernel
theorem dX5_readNext_7 : decode cX5_readNext 7 = .ok (.invokevirtual 89, 3) := by decide +kernel
theorem dX5_readNext_10 : decode cX5_readNext 10 = .ok (.ireturn, 1) := by decide +kernel
theorem dX5_readNext_11 : decode cX5_readNext 11 = .ok (.iload_n 2, 1) := by decide +kernel
theorem dX5_readNext_12 : decode cX5_readNext 12 = .ok (.bipush 71, 2) := by decide +kernel
theorem dX5_readNext_14 : decode cX5_readNext 14 = .ok (.if_icmp .ne 14, 3) := by decide +kernel
theorem dX5_readNext_17 : decode cX5_readNext 17 = .ok (.aload_n 0, 1) := by decide +kernel
theorem dX5_readNext_18 : decode cX5_readNext 18 = .ok (.ldc 92, 2) := by decide +kernel
theorem dX5_readNext_20 : decode cX5_readNext 20 = .ok (.invokevirtual 85, 3) := by decide +kernel
theorem dX5_readNext_23 : decode cX5_readNext 23 = .ok (.ifCond .eq 5, 3) := by decide +kernel
theorem dX5_readNext_26 : decode cX5_readNext 26 = .ok (.iconst (-1), 1) := by decide +kernel
theorem dX5_readNext_27 : decode cX5_readNext 27 = .ok (.ireturn, 1) := by decide +kernel
theorem dX5_readNext_28 : decode cX5_readNext 28 = .ok (.aload_n 0, 1) := by decide +kernel
theorem dX5_readNext_29 : decode cX5_readNext 29 = .ok (.getfield 28, 3) := by decide +kernel
theorem dX5_readNext_32 : decode cX5_readNext 32 = .ok (.iconst 3, 1) := by decide +kernel
theorem dX5_readNext_33 : decode cX5_readNext 33 = .ok (.if_icmp .eq 14, 3) := by decide +kernel
theorem dX5_readNext_36 : decode cX5_readNext 36 = .ok (.aload_n 0, 1) := by decide +kernel
theorem dX5_readNext_37 : decode cX5_readNext 37 = .ok (.iconst 1, 1) := by decide +kernel
theorem dX5_readNext_38 : decode cX5_readNext 38 = .ok (.aload_n 0, 1) := by decide +kernel
theorem dX5_readNext_39 : decode cX5_readNext 39 = .ok (.getfield 31, 3) := by decide +kernel
theorem dX5_readNext_42 : decode cX5_readNext 42 = .ok (.invokevirtual 48, 3) := by decide +kernel
theorem dX5_readNext_45 : decode cX5_readNext 45 = .ok (.iconst 0, 1) := by decide +kernel
theorem dX5_readNext_46 : decode cX5_readNext 46 = .ok (.ireturn, 1) := by decide +kernel
theorem dX5_readNext_47 : decode cX5_readNext 47 = .ok (.aload_n 0, 1) := by decide +kernel
theorem dX5_readNext_48 : decode cX5_readNext 48 = .ok (.invokevirtual 94, 3) := by decide +kernel
theorem dX5_readNext_51 : decode cX5_readNext 51 = .ok (.istore_n 3, 1) := by decide +kernel
theorem dX5_readNext_52 : decode cX5_readNext 52 = .ok (.aload_n 1, 1) := by decide +kernel
theorem dX5_readNext_53 : decode cX5_readNext 53 = .ok (.iload_n 2, 1) := by decide +kernel
theorem dX5_readNext_54 : decode cX5_readNext 54 = .ok (.iload_n 3, 1) := by decide +kernel
theorem dX5_readNext_55 : decode cX5_readNext 55 = .ok (.invokestatic 97, 3) := by decide +kernel
theorem dX5_readNext_58 : decode cX5_readNext 58 = .ok (.ifCond .ne 12, 3) := by decide +kernel
theorem dX5_readNext_61 : decode cX5_readNext 61 = .ok (.aload_n 0, 1) := by decide +kernel
theorem dX5_readNext_62 : decode cX5_readNext 62 = .ok (.iconst 2, 1) := by decide +kernel
theorem dX5_readNext_63 : decode cX5_readNext 63 = .ok (.aload_n 0, 1) := by decide +kernel
theorem dX5_readNext_64 : decode cX5_readNext 64 = .ok (.getfield 31, 3) := by decide +kernel
theorem dX5_readNext_67 : decode cX5_readNext 67 = .ok (.invokevirtual 48, 3) := by decide +kernel
theorem dX5_readNext_70 : decode cX5_readNext 70 = .ok (.aload_n 0, 1) := by decide +kernel
theorem dX5_readNext_71 : decode cX5_readNext 71 = .ok (.invokevirtual 41, 3) := by decide +kernel
theorem dX5_readNext_74 : decode cX5_readNext 74 = .ok (.iload_n 3, 1) := by decide +kernel
theorem dX5_readNext_75 : decode cX5_readNext 75 = .ok (.ireturn, 1) := by decide +kernel
theorem dX5_readHow_0 : decode cX5_readHow 0 = .ok (.aload_n 0, 1) := by decide +kernel
theorem dX5_readHow_1 : decode cX5_readHow 1 = .ok (.ldc 101, 2) := by decide +kernel
theorem dX5_readHow_3 : decode cX5_readHow 3 = .ok (.invokevirtual 85, 3) := by decide +kernel
theorem dX5_readHow_6 : decode cX5_readHow 6 = .ok (.ifCond .eq 5, 3) := by decide +kernel
theorem dX5_readHow_9 : decode cX5_readHow 9 = .ok (.iconst 1, 1) := by decide +kernel
theorem dX5_readHow_10 : decode cX5_readHow 10 = .ok (.ireturn, 1) := by decide +kernel
theorem dX5_readHow_11 : decode cX5_readHow 11 = .ok (.aload_n 0, 1) := by decide +kernel
theorem dX5_readHow_12 : decode cX5_readHow 12 = .ok (.ldc 103, 2) := by decide +kernel
theorem dX5_readHow_14 : decode cX5_readHow 14 = .ok (.invokevirtual 85, 3) := by decide +kernel
theorem dX5_readHow_17 : decode cX5_readHow 17 = .ok (.ifCond .eq 5, 3) := by decide +kernel
theorem dX5_readHow_20 : decode cX5_readHow 20 = .ok (.iconst 0, 1) := by decide +kernel
theorem dX5_readHow_21 : decode cX5_readHow 21 = .ok (.ireturn, 1) := by decide +kernel
theorem dX5_readHow_22 : decode cX5_readHow 22 = .ok (.aload_n 0, 1) := by decide +kernel
theorem dX5_readHow_23 : decode cX5_readHow 23 = .ok (.ldc 105, 2) := by decide +kernel
theorem dX5_readHow_25 : decode cX5_readHow 25 = .ok (.invokevirtual 85, 3) := by decide +kernel
theorem dX5_readHow_28 : decode cX5_readHow 28 = .ok (.ifCond .ne 12, 3) := by decide +kernel
theorem dX5_readHow_31 : decode cX5_readHow 31 = .ok (.aload_n 0, 1) := by decide +kernel
theorem dX5_readHow_32 : decode cX5_readHow 32 = .ok (.iconst 1, 1) := by decide +kernel
theorem dX5_readHow_33 : decode cX5_readHow 33 = .ok (.aload_n 0, 1) := by decide +kernel
theorem dX5_readHow_34 : decode cX5_readHow 34 = .ok (.getfield 31, 3) := by decide +kernel
theorem dX5_readHow_37 : decode cX5_readHow 37 = .ok (.invokevirtual 48, 3) := by decide +kernel
theorem dX5_readHow_40 : decode cX5_readHow 40 = .ok (.iconst 2, 1) := by decide +kernel
theorem dX5_readHow_41 : decode cX5_readHow 41 = .ok (.ireturn, 1) := by decide +kernel
theorem dX5_numberHere_0 : decode cX5_numberHere 0 = .ok (.iconst 0, 1) := by decide +kernel
theorem dX5_numberHere_1 : decode cX5_numberHere 1 = .ok (.istore_n 1, 1) := by decide +kernel
theorem dX5_numberHere_2 : decode cX5_numberHere 2 = .ok (.aload_n 0, 1) := by decide +kernel
theorem dX5_numberHere_3 : decode cX5_numberHere 3 = .ok (.getfield 31, 3) := by decide +kernel
theorem dX5_numberHere_6 : decode cX5_numberHere 6 = .ok (.istore_n 2, 1) := by decide +kernel
theorem dX5_numberHere_7 : decode cX5_numberHere 7 = .ok (.iload_n 2, 1) := by decide +kernel
theorem dX5_numberHere_8 : decode cX5_numberHere 8 = .ok (.aload_n 0, 1) := by decide +kernel
theorem dX5_numberHere_9 : decode cX5_numberHere 9 = .ok (.getfield 34, 3) := by decide +kernel
theorem dX5_numberHere_12 : decode cX5_numberHere 12 = .ok (.if_icmp .ge 38, 3) := by decide +kernel
theorem dX5_numberHere_15 : decode cX5_numberHere 15 = .ok (.iload_n 2, 1) := by decide +kernel
theorem dX5_numberHere_16 : decode cX5_numberHere 16 = .ok (.aload_n 0, 1) := by decide +kernel
theorem dX5_numberHere_17 : decode cX5_numberHere 17 = .ok (.getfield 37, 3) := by decide +kernel
theorem dX5_numberHere_20 : decode cX5_numberHere 20 = .ok (.getfield 107, 3) := by decide +kernel
theorem dX5_numberHere_23 : decode cX5_numberHere 23 = .ok (.if_icmp .ge 27, 3) := by decide +kernel
theorem dX5_numberHere_26 : decode cX5_numberHere 26 = .ok (.iload_n 1, 1) := by decide +kernel
theorem dX5_numberHere_27 : decode cX5_numberHere 27 = .ok (.bipush 10, 2) := by decide +kernel
theorem dX5_numberHere_29 : decode cX5_numberHere 29 = .ok (.imul, 1) := by decide +kernel
theorem dX5_numberHere_30 : decode cX5_numberHere 30 = .ok (.aload_n 0, 1) := by decide +kernel
theorem dX5_numberHere_31 : decode cX5_numberHere 31 = .ok (.getfield 37, 3) := by decide +kernel
theorem dX5_numberHere_34 : decode cX5_numberHere 34 = .ok (.getfield 111, 3) := by decide +kernel
theorem dX5_numberHere_37 : decode cX5_numberHere 37 = .ok (.iload_n 2, 1) := by decide +kernel
theorem dX5_numberHere_38 : decode cX5_numberHere 38 = .ok (.iaload, 1) := by decide +kernel
theorem dX5_numberHere_39 : decode cX5_numberHere 39 = .ok (.iadd, 1) := by decide +kernel
theorem dX5_numberHere_40 : decode cX5_numberHere 40 = .ok (.bipush 48, 2) := by decide +kernel
theorem dX5_numberHere_42 : decode cX5_numberHere 42 = .ok (.isub, 1) := by decide +kernel
theorem dX5_numberHere_43 : decode cX5_numberHere 43 = .ok (.istore_n 1, 1) := by decide +kernel
theorem dX5_numberHere_44 : decode cX5_numberHere 44 = .ok (.iinc 2 1, 3) := by decide +kernel
theorem dX5_numberHere_47 : decode cX5_numberHere 47 = .ok (.goto (-40), 3) := by decide +kernel
theorem dX5_numberHere_50 : decode cX5_numberHere 50 = .ok (.iload_n 1, 1) := by decide +kernel
theorem dX5_numberHere_51 : decode cX5_numberHere 51 = .ok (.ireturn, 1) := by decide +kernel
theorem dX5_canBe_0 : decode cX5_canBe 0 = .ok (.iload_n 1, 1) := by decide +kernel
theorem dX5_canBe_1 : decode cX5_canBe 1 = .ok (.bipush 83, 2) := by decide +kernel
theorem dX5_canBe_3 : decode cX5_canBe 3 = .ok (.if_icmp .ne 8, 3) := by decide +kernel
theorem dX5_canBe_6 : decode cX5_canBe 6 = .ok (.iload_n 2, 1) := by decide +kernel
theorem dX5_canBe_7 : decode cX5_canBe 7 = .ok (.invokestatic 114, 3) := by decide +kernel
theorem dX5_canBe_10 : decode cX5_canBe 10 = .ok (.ireturn, 1) := by decide +kernel
theorem dX5_canBe_11 : decode cX5_canBe 11 = .ok (.iload_n 1, 1) := by decide +kernel
theorem dX5_canBe_12 : decode cX5_canBe 12 = .ok (.bipush 75, 2) := by decide +kernel
theorem dX5_canBe_14 : decode cX5_canBe 14 = .ok (.if_icmp .ne 17, 3) := by decide +kernel
theorem dX5_canBe_17 : decode cX5_canBe 17 = .ok (.aload_n 0, 1) := by decide +kernel
theorem dX5_canBe_18 : decode cX5_canBe 18 = .ok (.iload_n 2, 1) := by decide +kernel
theorem dX5_canBe_19 : decode cX5_canBe 19 = .ok (.invokevirtual 118, 3) := by decide +kernel
theorem dX5_canBe_22 : decode cX5_canBe 22 = .ok (.ifCond .ne 7, 3) := by decide +kernel
theorem dX5_canBe_25 : decode cX5_canBe 25 = .ok (.iconst 1, 1) := by decide +kernel
theorem dX5_canBe_26 : decode cX5_canBe 26 = .ok (.goto 4, 3) := by decide +kernel
theorem dX5_canBe_29 : decode cX5_canBe 29 = .ok (.iconst 0, 1) := by decide +kernel
theorem dX5_canBe_30 : decode cX5_canBe 30 = .ok (.ireturn, 1) := by decide +kernel
theorem dX5_canBe_31 : decode cX5_canBe 31 = .ok (.iload_n 1, 1) := by decide +kernel
theorem dX5_canBe_32 : decode cX5_canBe 32 = .ok (.bipush 87, 2) := by decide +kernel
theorem dX5_canBe_34 : decode cX5_canBe 34 = .ok (.if_icmp .ne 11, 3) := by decide +kernel
theorem dX5_canBe_37 : decode cX5_canBe 37 = .ok (.iload_n 2, 1) := by decide +kernel
theorem dX5_canBe_38 : decode cX5_canBe 38 = .ok (.iconst 1, 1) := by decide +kernel
theorem dX5_canBe_39 : decode cX5_canBe 39 = .ok (.bipush 9, 2) := by decide +kernel
theorem dX5_canBe_41 : decode cX5_canBe 41 = .ok (.invokestatic 121, 3) := by decide +kernel
theorem dX5_canBe_44 : decode cX5_canBe 44 = .ok (.ireturn, 1) := by decide +kernel
theorem dX5_canBe_45 : decode cX5_canBe 45 = .ok (.iload_n 1, 1) := by decide +kernel
theorem dX5_canBe_46 : decode cX5_canBe 46 = .ok (.bipush 66, 2) := by decide +kernel
theorem dX5_canBe_48 : decode cX5_canBe 48 = .ok (.if_icmp .ne 9, 3) := by decide +kernel
theorem dX5_canBe_51 : decode cX5_canBe 51 = .ok (.aload_n 0, 1) := by decide +kernel
theorem dX5_canBe_52 : decode cX5_canBe 52 = .ok (.iload_n 2, 1) := by decide +kernel
theorem dX5_canBe_53 : decode cX5_canBe 53 = .ok (.invokevirtual 125, 3) := by decide +kernel
theorem dX5_canBe_56 : decode cX5_canBe 56 = .ok (.ireturn, 1) := by decide +kernel
theorem dX5_canBe_57 : decode cX5_canBe 57 = .ok (.iload_n 1, 1) := by decide +kernel
theorem dX5_canBe_58 : decode cX5_canBe 58 = .ok (.bipush 71, 2) := by decide +kernel
theorem dX5_canBe_60 : decode cX5_canBe 60 = .ok (.if_icmp .ne 8, 3) := by decide +kernel
theorem dX5_canBe_63 : decode cX5_canBe 63 = .ok (.iload_n 2, 1) := by decide +kernel
theorem dX5_canBe_64 : decode cX5_canBe 64 = .ok (.invokestatic 128, 3) := by decide +kernel
theorem dX5_canBe_67 : decode cX5_canBe 67 = .ok (.ireturn, 1) := by decide +kernel
theorem dX5_canBe_68 : decode cX5_canBe 68 = .ok (.iload_n 1, 1) := by decide +kernel
theorem dX5_canBe_69 : decode cX5_canBe 69 = .ok (.bipush 84, 2) := by decide +kernel
theorem dX5_canBe_71 : decode cX5_canBe 71 = .ok (.if_icmp .ne 12, 3) := by decide +kernel
theorem dX5_canBe_74 : decode cX5_canBe 74 = .ok (.iload_n 2, 1) := by decide +kernel
theorem dX5_canBe_75 : decode cX5_canBe 75 = .ok (.iconst 1, 1) := by decide +kernel
theorem dX5_canBe_76 : decode cX5_canBe 76 = .ok (.sipush 999, 3) := by decide +kernel
theorem dX5_canBe_79 : decode cX5_canBe 79 = .ok (.invokestatic 121, 3) := by decide +kernel
theorem dX5_canBe_82 : decode cX5_canBe 82 = .ok (.ireturn, 1) := by decide +kernel
theorem dX5_canBe_83 : decode cX5_canBe 83 = .ok (.iload_n 1, 1) := by decide +kernel
theorem dX5_canBe_84 : decode cX5_canBe 84 = .ok (.bipush 82, 2) := by decide +kernel
theorem dX5_canBe_86 : decode cX5_canBe 86 = .ok (.if_icmp .ne 11, 3) := by decide +kernel
theorem dX5_canBe_89 : decode cX5_canBe 89 = .ok (.iload_n 2, 1) := by decide +kernel
theorem dX5_canBe_90 : decode cX5_canBe 90 = .ok (.iconst 1, 1) := by decide +kernel
theorem dX5_canBe_91 : decode cX5_canBe 91 = .ok (.bipush 16, 2) := by decide +kernel
theorem dX5_canBe_93 : decode cX5_canBe 93 = .ok (.invokestatic 121, 3) := by decide +kernel
theorem dX5_canBe_96 : decode cX5_canBe 96 = .ok (.ireturn, 1) := by decide +kernel
theorem dX5_canBe_97 : decode cX5_canBe 97 = .ok (.iload_n 1, 1) := by decide +kernel
theorem dX5_canBe_98 : decode cX5_canBe 98 = .ok (.bipush 65, 2) := by decide +kernel
theorem dX5_canBe_100 : decode cX5_canBe 100 = .ok (.if_icmp .ne 13, 3) := by decide +kernel
theorem dX5_canBe_103 : decode cX5_canBe 103 = .ok (.iload_n 2, 1) := by decide +kernel
theorem dX5_canBe_104 : decode cX5_canBe 104 = .ok (.iconst 0, 1) := by decide +kernel
theorem dX5_canBe_105 : decode cX5_canBe 105 = .ok (.bipush 99, 2) := by decide +kernel
theorem dX5_canBe_107 : decode cX5_canBe 107 = .ok (.invokestatic 121, 3) := by decide +kernel
theorem dX5_canBe_110 : decode cX5_canBe 110 = .ok (.goto 7, 3) := by decide +kernel
theorem dX5_canBe_113 : decode cX5_canBe 113 = .ok (.iload_n 2, 1) := by decide +kernel
theorem dX5_canBe_114 : decode cX5_canBe 114 = .ok (.invokestatic 131, 3) := by decide +kernel
theorem dX5_canBe_117 : decode cX5_canBe 117 = .ok (.ireturn, 1) := by decide +kernel
theorem dX5_takes_0 : decode cX5_takes 0 = .ok (.aload_n 0, 1) := by decide +kernel
theorem dX5_takes_1 : decode cX5_takes 1 = .ok (.getfield 28, 3) := by decide +kernel
theorem dX5_takes_4 : decode cX5_takes 4 = .ok (.iconst 2, 1) := by decide +kernel
theorem dX5_takes_5 : decode cX5_takes 5 = .ok (.if_icmp .ne 19, 3) := by decide +kernel
theorem dX5_takes_8 : decode cX5_takes 8 = .ok (.aload_n 0, 1) := by decide +kernel
theorem dX5_takes_9 : decode cX5_takes 9 = .ok (.getfield 34, 3) := by decide +kernel
theorem dX5_takes_12 : decode cX5_takes 12 = .ok (.aload_n 0, 1) := by decide +kernel
theorem dX5_takes_13 : decode cX5_takes 13 = .ok (.getfield 31, 3) := by decide +kernel
theorem dX5_takes_16 : decode cX5_takes 16 = .ok (.isub, 1) := by decide +kernel
theorem dX5_takes_17 : decode cX5_takes 17 = .ok (.aload_n 1, 1) := by decide +kernel
theorem dX5_takes_18 : decode cX5_takes 18 = .ok (.invokevirtual 64, 3) := by decide +kernel
theorem dX5_takes_21 : decode cX5_takes 21 = .ok (.if_icmp .eq 5, 3) := by decide +kernel
theorem dX5_takes_24 : decode cX5_takes 24 = .ok (.iconst 0, 1) := by decide +kernel
theorem dX5_takes_25 : decode cX5_takes 25 = .ok (.ireturn, 1) := by decide +kernel
theorem dX5_takes_26 : decode cX5_takes 26 = .ok (.iconst 0, 1) := by decide +kernel
theorem dX5_takes_27 : decode cX5_takes 27 = .ok (.istore_n 2, 1) := by decide +kernel
theorem dX5_takes_28 : decode cX5_takes 28 = .ok (.iload_n 2, 1) := by decide +kernel
theorem dX5_takes_29 : decode cX5_takes 29 = .ok (.aload_n 1, 1) := by decide +kernel
theorem dX5_takes_30 : decode cX5_takes 30 = .ok (.invokevirtual 64, 3) := by decide +kernel
theorem dX5_takes_33 : decode cX5_takes 33 = .ok (.if_icmp .ge 33, 3) := by decide +kernel
theorem dX5_takes_36 : decode cX5_takes 36 = .ok (.aload_n 0, 1) := by decide +kernel
theorem dX5_takes_37 : decode cX5_takes 37 = .ok (.getfield 37, 3) := by decide +kernel
theorem dX5_takes_40 : decode cX5_takes 40 = .ok (.getfield 111, 3) := by decide +kernel
theorem dX5_takes_43 : decode cX5_takes 43 = .ok (.aload_n 0, 1) := by decide +kernel
theorem dX5_takes_44 : decode cX5_takes 44 = .ok (.getfield 31, 3) := by decide +kernel
theorem dX5_takes_47 : decode cX5_takes 47 = .ok (.iload_n 2, 1) := by decide +kernel
theorem dX5_takes_48 : decode cX5_takes 48 = .ok (.iadd, 1) := by decide +kernel
theorem dX5_takes_49 : decode cX5_takes 49 = .ok (.iaload, 1) := by decide +kernel
theorem dX5_takes_50 : decode cX5_takes 50 = .ok (.aload_n 1, 1) := by decide +kernel
theorem dX5_takes_51 : decode cX5_takes 51 = .ok (.iload_n 2, 1) := by decide +kernel
theorem dX5_takes_52 : decode cX5_takes 52 = .ok (.invokevirtual 70, 3) := by decide +kernel
theorem dX5_takes_55 : decode cX5_takes 55 = .ok (.if_icmp .eq 5, 3) := by decide +kernel
theorem dX5_takes_58 : decode cX5_takes 58 = .ok (.iconst 0, 1) := by decide +kernel
theorem dX5_takes_59 : decode cX5_takes 59 = .ok (.ireturn, 1) := by decide +kernel
theorem dX5_takes_60 : decode cX5_takes 60 = .ok (.iinc 2 1, 3) := by decide +kernel
theorem dX5_takes_63 : decode cX5_takes 63 = .ok (.goto (-35), 3) := by decide +kernel
theorem dX5_takes_66 : decode cX5_takes 66 = .ok (.aload_n 0, 1) := by decide +kernel
theorem dX5_takes_67 : decode cX5_takes 67 = .ok (.invokevirtual 41, 3) := by decide +kernel
theorem dX5_takes_70 : decode cX5_takes 70 = .ok (.iconst 1, 1) := by decide +kernel
theorem dX5_takes_71 : decode cX5_takes 71 = .ok (.ireturn, 1) := by decide +kernel
theorem dX5_fail_0 : decode cX5_fail 0 = .ok (.aload_n 0, 1) := by decide +kernel
theorem dX5_fail_1 : decode cX5_fail 1 = .ok (.getfield 9, 3) := by decide +kernel
theorem dX5_fail_4 : decode cX5_fail 4 = .ok (.ifCond .ne 13, 3) := by decide +kernel
theorem dX5_fail_7 : decode cX5_fail 7 = .ok (.aload_n 0, 1) := by decide +kernel
theorem dX5_fail_8 : decode cX5_fail 8 = .ok (.iload_n 1, 1) := by decide +kernel
theorem dX5_fail_9 : decode cX5_fail 9 = .ok (.bipush 8, 2) := by decide +kernel
theorem dX5_fail_11 : decode cX5_fail 11 = .ok (.iload_n 2, 1) := by decide +kernel
theorem dX5_fail_12 : decode cX5_fail 12 = .ok (.imul, 1) := by decide +kernel
theorem dX5_fail_13 : decode cX5_fail 13 = .ok (.iadd, 1) := by decide +kernel
theorem dX5_fail_14 : decode cX5_fail 14 = .ok (.putfield 9, 3) := by decide +kernel
theorem dX5_fail_17 : decode cX5_fail 17 = .ok (.return_, 1) := by decide +kernel
theorem dX5_advance_0 : decode cX5_advance 0 = .ok (.aload_n 0, 1) := by decide +kernel
theorem dX5_advance_1 : decode cX5_advance 1 = .ok (.aload_n 0, 1) := by decide +kernel
theorem dX5_advance_2 : decode cX5_advance 2 = .ok (.getfield 34, 3) := by decide +kernel
theorem dX5_advance_5 : decode cX5_advance 5 = .ok (.putfield 31, 3) := by decide +kernel
theorem dX5_advance_8 : decode cX5_advance 8 = .ok (.aload_n 0, 1) := by decide +kernel
theorem dX5_advance_9 : decode cX5_advance 9 = .ok (.getfield 31, 3) := by decide +kernel
theorem dX5_advance_12 : decode cX5_advance 12 = .ok (.aload_n 0, 1) := by decide +kernel
theorem dX5_advance_13 : decode cX5_advance 13 = .ok (.getfield 37, 3) := by decide +kernel
theorem dX5_advance_16 : decode cX5_advance 16 = .ok (.getfield 107, 3) := by decide +kernel
theorem dX5_advance_19 : decode cX5_advance 19 = .ok (.if_icmp .ge 28, 3) := by decide +kernel
theorem dX5_advance_22 : decode cX5_advance 22 = .ok (.aload_n 0, 1) := by decide +kernel
theorem dX5_advance_23 : decode cX5_advance 23 = .ok (.aload_n 0, 1) := by decide +kernel
theorem dX5_advance_24 : decode cX5_advance 24 = .ok (.getfield 31, 3) := by decide +kernel
theorem dX5_advance_27 : decode cX5_advance 27 = .ok (.invokevirtual 134, 3) := by decide +kernel
theorem dX5_advance_30 : decode cX5_advance 30 = .ok (.iconst 1, 1) := by decide +kernel
theorem dX5_advance_31 : decode cX5_advance 31 = .ok (.if_icmp .ne 16, 3) := by decide +kernel
theorem dX5_advance_34 : decode cX5_advance 34 = .ok (.aload_n 0, 1) := by decide +kernel
theorem dX5_advance_35 : decode cX5_advance 35 = .ok (.dup, 1) := by decide +kernel
theorem dX5_advance_36 : decode cX5_advance 36 = .ok (.getfield 31, 3) := by decide +kernel
theorem dX5_advance_39 : decode cX5_advance 39 = .ok (.iconst 1, 1) := by decide +kernel
theorem dX5_advance_40 : decode cX5_advance 40 = .ok (.iadd, 1) := by decide +kernel
theorem dX5_advance_41 : decode cX5_advance 41 = .ok (.putfield 31, 3) := by decide +kernel
theorem dX5_advance_44 : decode cX5_advance 44 = .ok (.goto (-36), 3) := by decide +kernel
theorem dX5_advance_47 : decode cX5_advance 47 = .ok (.aload_n 0, 1) := by decide +kernel
theorem dX5_advance_48 : decode cX5_advance 48 = .ok (.aload_n 0, 1) := by decide +kernel
theorem dX5_advance_49 : decode cX5_advance 49 = .ok (.aload_n 0, 1) := by decide +kernel
theorem dX5_advance_50 : decode cX5_advance 50 = .ok (.getfield 31, 3) := by decide +kernel
theorem dX5_advance_53 : decode cX5_advance 53 = .ok (.invokevirtual 134, 3) := by decide +kernel
theorem dX5_advance_56 : decode cX5_advance 56 = .ok (.putfield 28, 3) := by decide +kernel
theorem dX5_advance_59 : decode cX5_advance 59 = .ok (.aload_n 0, 1) := by decide +kernel
theorem dX5_advance_60 : decode cX5_advance 60 = .ok (.aload_n 0, 1) := by decide +kernel
theorem dX5_advance_61 : decode cX5_advance 61 = .ok (.getfield 28, 3) := by decide +kernel
theorem dX5_advance_64 : decode cX5_advance 64 = .ok (.ifCond .ne 10, 3) := by decide +kernel
theorem dX5_advance_67 : decode cX5_advance 67 = .ok (.aload_n 0, 1) := by decide +kernel
theorem dX5_advance_68 : decode cX5_advance 68 = .ok (.getfield 31, 3) := by decide +kernel
theorem dX5_advance_71 : decode cX5_advance 71 = .ok (.goto 9, 3) := by decide +kernel
theorem dX5_advance_74 : decode cX5_advance 74 = .ok (.aload_n 0, 1) := by decide +kernel
theorem dX5_advance_75 : decode cX5_advance 75 = .ok (.getfield 31, 3) := by decide +kernel
theorem dX5_advance_78 : decode cX5_advance 78 = .ok (.iconst 1, 1) := by decide +kernel
theorem dX5_advance_79 : decode cX5_advance 79 = .ok (.iadd, 1) := by decide +kernel
theorem dX5_advance_80 : decode cX5_advance 80 = .ok (.putfield 34, 3) := by decide +kernel
theorem dX5_advance_83 : decode cX5_advance 83 = .ok (.aload_n 0, 1) := by decide +kernel
theorem dX5_advance_84 : decode cX5_advance 84 = .ok (.getfield 28, 3) := by decide +kernel
theorem dX5_advance_87 : decode cX5_advance 87 = .ok (.iconst 2, 1) := by decide +kernel
theorem dX5_advance_88 : decode cX5_advance 88 = .ok (.if_icmp .eq 11, 3) := by decide +kernel
theorem dX5_advance_91 : decode cX5_advance 91 = .ok (.aload_n 0, 1) := by decide +kernel
theorem dX5_advance_92 : decode cX5_advance 92 = .ok (.getfield 28, 3) := by decide +kernel
theorem dX5_advance_95 : decode cX5_advance 95 = .ok (.iconst 3, 1) := by decide +kernel
theorem dX5_advance_96 : decode cX5_advance 96 = .ok (.if_icmp .ne 45, 3) := by decide +kernel
theorem dX5_advance_99 : decode cX5_advance 99 = .ok (.aload_n 0, 1) := by decide +kernel
theorem dX5_advance_100 : decode cX5_advance 100 = .ok (.getfield 34, 3) := by decide +kernel
theorem dX5_advance_103 : decode cX5_advance 103 = .ok (.aload_n 0, 1) := by decide +kernel
theorem dX5_advance_104 : decode cX5_advance 104 = .ok (.getfield 37, 3) := by decide +kernel
theorem dX5_advance_107 : decode cX5_advance 107 = .ok (.getfield 107, 3) := by decide +kernel
theorem dX5_advance_110 : decode cX5_advance 110 = .ok (.if_icmp .ge 31, 3) := by decide +kernel
theorem dX5_advance_113 : decode cX5_advance 113 = .ok (.aload_n 0, 1) := by decide +kernel
theorem dX5_advance_114 : decode cX5_advance 114 = .ok (.aload_n 0, 1) := by decide +kernel
theorem dX5_advance_115 : decode cX5_advance 115 = .ok (.getfield 34, 3) := by decide +kernel
theorem dX5_advance_118 : decode cX5_advance 118 = .ok (.invokevirtual 134, 3) := by decide +kernel
theorem dX5_advance_121 : decode cX5_advance 121 = .ok (.aload_n 0, 1) := by decide +kernel
theorem dX5_advance_122 : decode cX5_advance 122 = .ok (.getfield 28, 3) := by decide +kernel
theorem dX5_advance_125 : decode cX5_advance 125 = .ok (.if_icmp .ne 16, 3) := by decide +kernel
theorem dX5_advance_128 : decode cX5_advance 128 = .ok (.aload_n 0, 1) := by decide +kernel
theorem dX5_advance_129 : decode cX5_advance 129 = .ok (.dup, 1) := by decide +kernel
theorem dX5_advance_130 : decode cX5_advance 130 = .ok (.getfield 34, 3) := by decide +kernel
theorem dX5_advance_133 : decode cX5_advance 133 = .ok (.iconst 1, 1) := by decide +kernel
theorem dX5_advance_134 : decode cX5_advance 134 = .ok (.iadd, 1) := by decide +kernel
theorem dX5_advance_135 : decode cX5_advance 135 = .ok (.putfield 34, 3) := by decide +kernel
theorem dX5_advance_138 : decode cX5_advance 138 = .ok (.goto (-39), 3) := by decide +kernel
theorem dX5_advance_141 : decode cX5_advance 141 = .ok (.aload_n 0, 1) := by decide +kernel
theorem dX5_advance_142 : decode cX5_advance 142 = .ok (.getfield 28, 3) := by decide +kernel
theorem dX5_advance_145 : decode cX5_advance 145 = .ok (.iconst 3, 1) := by decide +kernel
theorem dX5_advance_146 : decode cX5_advance 146 = .ok (.if_icmp .ne 21, 3) := by decide +kernel
theorem dX5_advance_149 : decode cX5_advance 149 = .ok (.aload_n 0, 1) := by decide +kernel
theorem dX5_advance_150 : decode cX5_advance 150 = .ok (.getfield 34, 3) := by decide +kernel
theorem dX5_advance_153 : decode cX5_advance 153 = .ok (.aload_n 0, 1) := by decide +kernel
theorem dX5_advance_154 : decode cX5_advance 154 = .ok (.getfield 31, 3) := by decide +kernel
theorem dX5_advance_157 : decode cX5_advance 157 = .ok (.isub, 1) := by decide +kernel
theorem dX5_advance_158 : decode cX5_advance 158 = .ok (.iconst 4, 1) := by decide +kernel
theorem dX5_advance_159 : decode cX5_advance 159 = .ok (.if_icmp .le 8, 3) := by decide +kernel
theorem dX5_advance_162 : decode cX5_advance 162 = .ok (.aload_n 0, 1) := by decide +kernel
theorem dX5_advance_163 : decode cX5_advance 163 = .ok (.iconst 5, 1) := by decide +kernel
theorem dX5_advance_164 : decode cX5_advance 164 = .ok (.putfield 28, 3) := by decide +kernel
theorem dX5_advance_167 : decode cX5_advance 167 = .ok (.return_, 1) := by decide +kernel
theorem dX5_kindAt_0 : decode cX5_kindAt 0 = .ok (.iload_n 1, 1) := by decide +kernel
theorem dX5_kindAt_1 : decode cX5_kindAt 1 = .ok (.ifCond .lt 14, 3) := by decide +kernel
theorem dX5_kindAt_4 : decode cX5_kindAt 4 = .ok (.iload_n 1, 1) := by decide +kernel
theorem dX5_kindAt_5 : decode cX5_kindAt 5 = .ok (.aload_n 0, 1) := by decide +kernel
theorem dX5_kindAt_6 : decode cX5_kindAt 6 = .ok (.getfield 37, 3) := by decide +kernel
theorem dX5_kindAt_9 : decode cX5_kindAt 9 = .ok (.getfield 107, 3) := by decide +kernel
theorem dX5_kindAt_12 : decode cX5_kindAt 12 = .ok (.if_icmp .lt 5, 3) := by decide +kernel
theorem dX5_kindAt_15 : decode cX5_kindAt 15 = .ok (.iconst 0, 1) := by decide +kernel
theorem dX5_kindAt_16 : decode cX5_kindAt 16 = .ok (.ireturn, 1) := by decide +kernel
theorem dX5_kindAt_17 : decode cX5_kindAt 17 = .ok (.aload_n 0, 1) := by decide +kernel
theorem dX5_kindAt_18 : decode cX5_kindAt 18 = .ok (.getfield 37, 3) := by decide +kernel
theorem dX5_kindAt_21 : decode cX5_kindAt 21 = .ok (.getfield 111, 3) := by decide +kernel
theorem dX5_kindAt_24 : decode cX5_kindAt 24 = .ok (.iload_n 1, 1) := by decide +kernel
theorem dX5_kindAt_25 : decode cX5_kindAt 25 = .ok (.iaload, 1) := by decide +kernel
theorem dX5_kindAt_26 : decode cX5_kindAt 26 = .ok (.istore_n 2, 1) := by decide +kernel
theorem dX5_kindAt_27 : decode cX5_kindAt 27 = .ok (.iload_n 2, 1) := by decide +kernel
theorem dX5_kindAt_28 : decode cX5_kindAt 28 = .ok (.bipush 97, 2) := by decide +kernel
theorem dX5_kindAt_30 : decode cX5_kindAt 30 = .ok (.if_icmp .lt 11, 3) := by decide +kernel
theorem dX5_kindAt_33 : decode cX5_kindAt 33 = .ok (.iload_n 2, 1) := by decide +kernel
theorem dX5_kindAt_34 : decode cX5_kindAt 34 = .ok (.bipush 122, 2) := by decide +kernel
theorem dX5_kindAt_36 : decode cX5_kindAt 36 = .ok (.if_icmp .gt 5, 3) := by decide +kernel
theorem dX5_kindAt_39 : decode cX5_kindAt 39 = .ok (.iconst 2, 1) := by decide +kernel
theorem dX5_kindAt_40 : decode cX5_kindAt 40 = .ok (.ireturn, 1) := by decide +kernel
theorem dX5_kindAt_41 : decode cX5_kindAt 41 = .ok (.iload_n 2, 1) := by decide +kernel
theorem dX5_kindAt_42 : decode cX5_kindAt 42 = .ok (.bipush 48, 2) := by decide +kernel
theorem dX5_kindAt_44 : decode cX5_kindAt 44 = .ok (.if_icmp .lt 11, 3) := by decide +kernel
theorem dX5_kindAt_47 : decode cX5_kindAt 47 = .ok (.iload_n 2, 1) := by decide +kernel
theorem dX5_kindAt_48 : decode cX5_kindAt 48 = .ok (.bipush 57, 2) := by decide +kernel
theorem dX5_kindAt_50 : decode cX5_kindAt 50 = .ok (.if_icmp .gt 5, 3) := by decide +kernel
theorem dX5_kindAt_53 : decode cX5_kindAt 53 = .ok (.iconst 3, 1) := by decide +kernel
theorem dX5_kindAt_54 : decode cX5_kindAt 54 = .ok (.ireturn, 1) := by decide +kernel
theorem dX5_kindAt_55 : decode cX5_kindAt 55 = .ok (.iload_n 2, 1) := by decide +kernel
theorem dX5_kindAt_56 : decode cX5_kindAt 56 = .ok (.bipush 32, 2) := by decide +kernel
theorem dX5_kindAt_58 : decode cX5_kindAt 58 = .ok (.if_icmp .eq 9, 3) := by decide +kernel
theorem dX5_kindAt_61 : decode cX5_kindAt 61 = .ok (.iload_n 2, 1) := by decide +kernel
theorem dX5_kindAt_62 : decode cX5_kindAt 62 = .ok (.bipush 10, 2) := by decide +kernel
theorem dX5_kindAt_64 : decode cX5_kindAt 64 = .ok (.if_icmp .ne 5, 3) := by decide +kernel
theorem dX5_kindAt_67 : decode cX5_kindAt 67 = .ok (.iconst 1, 1) := by decide +kernel
theorem dX5_kindAt_68 : decode cX5_kindAt 68 = .ok (.ireturn, 1) := by decide +kernel
theorem dX5_kindAt_69 : decode cX5_kindAt 69 = .ok (.iload_n 2, 1) := by decide +kernel
theorem dX5_kindAt_70 : decode cX5_kindAt 70 = .ok (.bipush 59, 2) := by decide +kernel
theorem dX5_kindAt_72 : decode cX5_kindAt 72 = .ok (.if_icmp .ne 7, 3) := by decide +kernel
theorem dX5_kindAt_75 : decode cX5_kindAt 75 = .ok (.iconst 4, 1) := by decide +kernel
theorem dX5_kindAt_76 : decode cX5_kindAt 76 = .ok (.goto 4, 3) := by decide +kernel
theorem dX5_kindAt_79 : decode cX5_kindAt 79 = .ok (.iconst 5, 1) := by decide +kernel
theorem dX5_kindAt_80 : decode cX5_kindAt 80 = .ok (.ireturn, 1) := by decide +kernel
theorem dX7_init_0 : decode cX7_init 0 = .ok (.aload_n 0, 1) := by decide +kernel
theorem dX7_init_1 : decode cX7_init 1 = .ok (.invokespecial 3, 3) := by decide +kernel
theorem dX7_init_4 : decode cX7_init 4 = .ok (.aload_n 0, 1) := by decide +kernel
theorem dX7_init_5 : decode cX7_init 5 = .ok (.bipush 8, 2) := by decide +kernel
theorem dX7_init_7 : decode cX7_init 7 = .ok (.newarray .int, 2) := by decide +kernel
theorem dX7_init_9 : decode cX7_init 9 = .ok (.putfield 9, 3) := by decide +kernel
theorem dX7_init_12 : decode cX7_init 12 = .ok (.aload_n 0, 1) := by decide +kernel
theorem dX7_init_13 : decode cX7_init 13 = .ok (.bipush 8, 2) := by decide +kernel
theorem dX7_init_15 : decode cX7_init 15 = .ok (.newarray .int, 2) := by decide +kernel
theorem dX7_init_17 : decode cX7_init 17 = .ok (.putfield 15, 3) := by decide +kernel
theorem dX7_init_20 : decode cX7_init 20 = .ok (.aload_n 0, 1) := by decide +kernel
theorem dX7_init_21 : decode cX7_init 21 = .ok (.iconst 4, 1) := by decide +kernel
theorem dX7_init_22 : decode cX7_init 22 = .ok (.anewarray 18, 3) := by decide +kernel
theorem dX7_init_25 : decode cX7_init 25 = .ok (.dup, 1) := by decide +kernel
theorem dX7_init_26 : decode cX7_init 26 = .ok (.iconst 0, 1) := by decide +kernel
theorem dX7_init_27 : decode cX7_init 27 = .ok (.new 18, 3) := by decide +kernel
theorem dX7_init_30 : decode cX7_init 30 = .ok (.dup, 1) := by decide +kernel
theorem dX7_init_31 : decode cX7_init 31 = .ok (.invokespecial 20, 3) := by decide +kernel
