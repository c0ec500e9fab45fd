theorem dX9_readBack_85 : decode cX9_readBack 85 = .ok (.iconst 1, 1) := by decide +kernel
theorem dX9_readBack_86 : decode cX9_readBack 86 = .ok (.goto 4, 3) := by decide +kernel
theorem dX9_readBack_89 : decode cX9_readBack 89 = .ok (.iconst 0, 1) := by decide +kernel
theorem dX9_readBack_90 : decode cX9_readBack 90 = .ok (.ireturn, 1) := by decide +kernel
theorem dX9_readWeigh_0 : decode cX9_readWeigh 0 = .ok (.aload_n 0, 1) := by decide +kernel
theorem dX9_readWeigh_1 : decode cX9_readWeigh 1 = .ok (.iconst 0, 1) := by decide +kernel
theorem dX9_readWeigh_2 : decode cX9_readWeigh 2 = .ok (.aload_n 0, 1) := by decide +kernel
theorem dX9_readWeigh_3 : decode cX9_readWeigh 3 = .ok (.getfield 7, 3) := by decide +kernel
theorem dX9_readWeigh_6 : decode cX9_readWeigh 6 = .ok (.iconst 1, 1) := by decide +kernel
theorem dX9_readWeigh_7 : decode cX9_readWeigh 7 = .ok (.iaload, 1) := by decide +kernel
theorem dX9_readWeigh_8 : decode cX9_readWeigh 8 = .ok (.iconst 1, 1) := by decide +kernel
theorem dX9_readWeigh_9 : decode cX9_readWeigh 9 = .ok (.isub, 1) := by decide +kernel
theorem dX9_readWeigh_10 : decode cX9_readWeigh 10 = .ok (.invokevirtual 191, 3) := by decide +kernel
theorem dX9_readWeigh_13 : decode cX9_readWeigh 13 = .ok (.ifCond .ne 5, 3) := by decide +kernel
theorem dX9_readWeigh_16 : decode cX9_readWeigh 16 = .ok (.iconst 0, 1) := by decide +kernel
theorem dX9_readWeigh_17 : decode cX9_readWeigh 17 = .ok (.ireturn, 1) := by decide +kernel
theorem dX9_readWeigh_18 : decode cX9_readWeigh 18 = .ok (.aload_n 0, 1) := by decide +kernel
theorem dX9_readWeigh_19 : decode cX9_readWeigh 19 = .ok (.getfield 175, 3) := by decide +kernel
theorem dX9_readWeigh_22 : decode cX9_readWeigh 22 = .ok (.istore_n 1, 1) := by decide +kernel
theorem dX9_readWeigh_23 : decode cX9_readWeigh 23 = .ok (.aload_n 0, 1) := by decide +kernel
theorem dX9_readWeigh_24 : decode cX9_readWeigh 24 = .ok (.iconst 1, 1) := by decide +kernel
theorem dX9_readWeigh_25 : decode cX9_readWeigh 25 = .ok (.bipush 9, 2) := by decide +kernel
theorem dX9_readWeigh_27 : decode cX9_readWeigh 27 = .ok (.invokevirtual 191, 3) := by decide +kernel
theorem dX9_readWeigh_30 : decode cX9_readWeigh 30 = .ok (.ifCond .eq 10, 3) := by decide +kernel
theorem dX9_readWeigh_33 : decode cX9_readWeigh 33 = .ok (.aload_n 0, 1) := by decide +kernel
theorem dX9_readWeigh_34 : decode cX9_readWeigh 34 = .ok (.invokevirtual 194, 3) := by decide +kernel
theorem dX9_readWeigh_37 : decode cX9_readWeigh 37 = .ok (.ifCond .ne 5, 3) := by decide +kernel
theorem dX9_readWeigh_40 : decode cX9_readWeigh 40 = .ok (.iconst 0, 1) := by decide +kernel
theorem dX9_readWeigh_41 : decode cX9_readWeigh 41 = .ok (.ireturn, 1) := by decide +kernel
theorem dX9_readWeigh_42 : decode cX9_readWeigh 42 = .ok (.aload_n 0, 1) := by decide +kernel
theorem dX9_readWeigh_43 : decode cX9_readWeigh 43 = .ok (.getfield 7, 3) := by decide +kernel
theorem dX9_readWeigh_46 : decode cX9_readWeigh 46 = .ok (.bipush 13, 2) := by decide +kernel
theorem dX9_readWeigh_48 : decode cX9_readWeigh 48 = .ok (.iload_n 1, 1) := by decide +kernel
theorem dX9_readWeigh_49 : decode cX9_readWeigh 49 = .ok (.iadd, 1) := by decide +kernel
theorem dX9_readWeigh_50 : decode cX9_readWeigh 50 = .ok (.aload_n 0, 1) := by decide +kernel
theorem dX9_readWeigh_51 : decode cX9_readWeigh 51 = .ok (.getfield 175, 3) := by decide +kernel
theorem dX9_readWeigh_54 : decode cX9_readWeigh 54 = .ok (.iastore, 1) := by decide +kernel
theorem dX9_readWeigh_55 : decode cX9_readWeigh 55 = .ok (.iconst 1, 1) := by decide +kernel
theorem dX9_readWeigh_56 : decode cX9_readWeigh 56 = .ok (.ireturn, 1) := by decide +kernel
theorem dX9_readSee_0 : decode cX9_readSee 0 = .ok (.aload_n 0, 1) := by decide +kernel
theorem dX9_readSee_1 : decode cX9_readSee 1 = .ok (.invokevirtual 197, 3) := by decide +kernel
theorem dX9_readSee_4 : decode cX9_readSee 4 = .ok (.ifCond .eq 19, 3) := by decide +kernel
theorem dX9_readSee_7 : decode cX9_readSee 7 = .ok (.aload_n 0, 1) := by decide +kernel
theorem dX9_readSee_8 : decode cX9_readSee 8 = .ok (.iconst 0, 1) := by decide +kernel
theorem dX9_readSee_9 : decode cX9_readSee 9 = .ok (.aload_n 0, 1) := by decide +kernel
theorem dX9_readSee_10 : decode cX9_readSee 10 = .ok (.getfield 7, 3) := by decide +kernel
theorem dX9_readSee_13 : decode cX9_readSee 13 = .ok (.iconst 1, 1) := by decide +kernel
theorem dX9_readSee_14 : decode cX9_readSee 14 = .ok (.iaload, 1) := by decide +kernel
theorem dX9_readSee_15 : decode cX9_readSee 15 = .ok (.iconst 1, 1) := by decide +kernel
theorem dX9_readSee_16 : decode cX9_readSee 16 = .ok (.isub, 1) := by decide +kernel
theorem dX9_readSee_17 : decode cX9_readSee 17 = .ok (.invokevirtual 191, 3) := by decide +kernel
theorem dX9_readSee_20 : decode cX9_readSee 20 = .ok (.ifCond .ne 5, 3) := by decide +kernel
theorem dX9_readSee_23 : decode cX9_readSee 23 = .ok (.iconst 0, 1) := by decide +kernel
theorem dX9_readSee_24 : decode cX9_readSee 24 = .ok (.ireturn, 1) := by decide +kernel
theorem dX9_readSee_25 : decode cX9_readSee 25 = .ok (.aload_n 0, 1) := by decide +kernel
theorem dX9_readSee_26 : decode cX9_readSee 26 = .ok (.getfield 175, 3) := by decide +kernel
theorem dX9_readSee_29 : decode cX9_readSee 29 = .ok (.istore_n 1, 1) := by decide +kernel
theorem dX9_readSee_30 : decode cX9_readSee 30 = .ok (.aload_n 0, 1) := by decide +kernel
theorem dX9_readSee_31 : decode cX9_readSee 31 = .ok (.invokevirtual 178, 3) := by decide +kernel
theorem dX9_readSee_34 : decode cX9_readSee 34 = .ok (.ifCond .ne 13, 3) := by decide +kernel
theorem dX9_readSee_37 : decode cX9_readSee 37 = .ok (.aload_n 0, 1) := by decide +kernel
theorem dX9_readSee_38 : decode cX9_readSee 38 = .ok (.iconst 1, 1) := by decide +kernel
theorem dX9_readSee_39 : decode cX9_readSee 39 = .ok (.aload_n 0, 1) := by decide +kernel
theorem dX9_readSee_40 : decode cX9_readSee 40 = .ok (.getfield 154, 3) := by decide +kernel
theorem dX9_readSee_43 : decode cX9_readSee 43 = .ok (.invokevirtual 172, 3) := by decide +kernel
theorem dX9_readSee_46 : decode cX9_readSee 46 = .ok (.ireturn, 1) := by decide +kernel
theorem dX9_readSee_47 : decode cX9_readSee 47 = .ok (.aload_n 0, 1) := by decide +kernel
theorem dX9_readSee_48 : decode cX9_readSee 48 = .ok (.invokevirtual 185, 3) := by decide +kernel
theorem dX9_readSee_51 : decode cX9_readSee 51 = .ok (.lstore_n 2, 1) := by decide +kernel
theorem dX9_readSee_52 : decode cX9_readSee 52 = .ok (.lload_n 2, 1) := by decide +kernel
theorem dX9_readSee_53 : decode cX9_readSee 53 = .ok (.ldc2_w 200, 3) := by decide +kernel
theorem dX9_readSee_56 : decode cX9_readSee 56 = .ok (.lcmp, 1) := by decide +kernel
theorem dX9_readSee_57 : decode cX9_readSee 57 = .ok (.ifCond .ne 7, 3) := by decide +kernel
theorem dX9_readSee_60 : decode cX9_readSee 60 = .ok (.iconst 1, 1) := by decide +kernel
theorem dX9_readSee_61 : decode cX9_readSee 61 = .ok (.goto 28, 3) := by decide +kernel
theorem dX9_readSee_64 : decode cX9_readSee 64 = .ok (.lload_n 2, 1) := by decide +kernel
theorem dX9_readSee_65 : decode cX9_readSee 65 = .ok (.ldc2_w 202, 3) := by decide +kernel
theorem dX9_readSee_68 : decode cX9_readSee 68 = .ok (.lcmp, 1) := by decide +kernel
theorem dX9_readSee_69 : decode cX9_readSee 69 = .ok (.ifCond .ne 7, 3) := by decide +kernel
theorem dX9_readSee_72 : decode cX9_readSee 72 = .ok (.iconst 0, 1) := by decide +kernel
theorem dX9_readSee_73 : decode cX9_readSee 73 = .ok (.goto 16, 3) := by decide +kernel
theorem dX9_readSee_76 : decode cX9_readSee 76 = .ok (.lload_n 2, 1) := by decide +kernel
theorem dX9_readSee_77 : decode cX9_readSee 77 = .ok (.ldc2_w 204, 3) := by decide +kernel
theorem dX9_readSee_80 : decode cX9_readSee 80 = .ok (.lcmp, 1) := by decide +kernel
theorem dX9_readSee_81 : decode cX9_readSee 81 = .ok (.ifCond .ne 7, 3) := by decide +kernel
theorem dX9_readSee_84 : decode cX9_readSee 84 = .ok (.iconst 2, 1) := by decide +kernel
theorem dX9_readSee_85 : decode cX9_readSee 85 = .ok (.goto 4, 3) := by decide +kernel
theorem dX9_readSee_88 : decode cX9_readSee 88 = .ok (.iconst (-1), 1) := by decide +kernel
theorem dX9_readSee_89 : decode cX9_readSee 89 = .ok (.istore 4, 2) := by decide +kernel
theorem dX9_readSee_91 : decode cX9_readSee 91 = .ok (.iload 4, 2) := by decide +kernel
theorem dX9_readSee_93 : decode cX9_readSee 93 = .ok (.iconst (-1), 1) := by decide +kernel
theorem dX9_readSee_94 : decode cX9_readSee 94 = .ok (.if_icmp .ne 13, 3) := by decide +kernel
theorem dX9_readSee_97 : decode cX9_readSee 97 = .ok (.aload_n 0, 1) := by decide +kernel
theorem dX9_readSee_98 : decode cX9_readSee 98 = .ok (.iconst 1, 1) := by decide +kernel
theorem dX9_readSee_99 : decode cX9_readSee 99 = .ok (.aload_n 0, 1) := by decide +kernel
theorem dX9_readSee_100 : decode cX9_readSee 100 = .ok (.getfield 163, 3) := by decide +kernel
theorem dX9_readSee_103 : decode cX9_readSee 103 = .ok (.invokevirtual 172, 3) := by decide +kernel
theorem dX9_readSee_106 : decode cX9_readSee 106 = .ok (.ireturn, 1) := by decide +kernel
theorem dX9_readSee_107 : decode cX9_readSee 107 = .ok (.aload_n 0, 1) := by decide +kernel
theorem dX9_readSee_108 : decode cX9_readSee 108 = .ok (.invokevirtual 194, 3) := by decide +kernel
theorem dX9_readSee_111 : decode cX9_readSee 111 = .ok (.ifCond .eq 21, 3) := by decide +kernel
theorem dX9_readSee_114 : decode cX9_readSee 114 = .ok (.aload_n 0, 1) := by decide +kernel
theorem dX9_readSee_115 : decode cX9_readSee 115 = .ok (.aload_n 0, 1) := by decide +kernel
theorem dX9_readSee_116 : decode cX9_readSee 116 = .ok (.getfield 182, 3) := by decide +kernel
theorem dX9_readSee_119 : decode cX9_readSee 119 = .ok (.iload_n 1, 1) := by decide +kernel
theorem dX9_readSee_120 : decode cX9_readSee 120 = .ok (.iload 4, 2) := by decide +kernel
theorem dX9_readSee_122 : decode cX9_readSee 122 = .ok (.invokevirtual 128, 3) := by decide +kernel
theorem dX9_readSee_125 : decode cX9_readSee 125 = .ok (.ifCond .lt 7, 3) := by decide +kernel
theorem dX9_readSee_128 : decode cX9_readSee 128 = .ok (.iconst 1, 1) := by decide +kernel
theorem dX9_readSee_129 : decode cX9_readSee 129 = .ok (.goto 4, 3) := by decide +kernel
theorem dX9_readSee_132 : decode cX9_readSee 132 = .ok (.iconst 0, 1) := by decide +kernel
theorem dX9_readSee_133 : decode cX9_readSee 133 = .ok (.ireturn, 1) := by decide +kernel
theorem dX9_readTick_0 : decode cX9_readTick 0 = .ok (.aload_n 0, 1) := by decide +kernel
theorem dX9_readTick_1 : decode cX9_readTick 1 = .ok (.iconst 1, 1) := by decide +kernel
theorem dX9_readTick_2 : decode cX9_readTick 2 = .ok (.sipush 999, 3) := by decide +kernel
theorem dX9_readTick_5 : decode cX9_readTick 5 = .ok (.invokevirtual 191, 3) := by decide +kernel
theorem dX9_readTick_8 : decode cX9_readTick 8 = .ok (.ifCond .eq 25, 3) := by decide +kernel
theorem dX9_readTick_11 : decode cX9_readTick 11 = .ok (.aload_n 0, 1) := by decide +kernel
theorem dX9_readTick_12 : decode cX9_readTick 12 = .ok (.invokevirtual 194, 3) := by decide +kernel
theorem dX9_readTick_15 : decode cX9_readTick 15 = .ok (.ifCond .eq 18, 3) := by decide +kernel
theorem dX9_readTick_18 : decode cX9_readTick 18 = .ok (.aload_n 0, 1) := by decide +kernel
theorem dX9_readTick_19 : decode cX9_readTick 19 = .ok (.aload_n 0, 1) := by decide +kernel
theorem dX9_readTick_20 : decode cX9_readTick 20 = .ok (.getfield 175, 3) := by decide +kernel
theorem dX9_readTick_23 : decode cX9_readTick 23 = .ok (.invokevirtual 139, 3) := by decide +kernel
theorem dX9_readTick_26 : decode cX9_readTick 26 = .ok (.ifCond .lt 7, 3) := by decide +kernel
theorem dX9_readTick_29 : decode cX9_readTick 29 = .ok (.iconst 1, 1) := by decide +kernel
theorem dX9_readTick_30 : decode cX9_readTick 30 = .ok (.goto 4, 3) := by decide +kernel
theorem dX9_readTick_33 : decode cX9_readTick 33 = .ok (.iconst 0, 1) := by decide +kernel
theorem dX9_readTick_34 : decode cX9_readTick 34 = .ok (.ireturn, 1) := by decide +kernel
theorem dX9_readHold_0 : decode cX9_readHold 0 = .ok (.aload_n 0, 1) := by decide +kernel
theorem dX9_readHold_1 : decode cX9_readHold 1 = .ok (.iconst 1, 1) := by decide +kernel
theorem dX9_readHold_2 : decode cX9_readHold 2 = .ok (.iload_n 1, 1) := by decide +kernel
theorem dX9_readHold_3 : decode cX9_readHold 3 = .ok (.isub, 1) := by decide +kernel
theorem dX9_readHold_4 : decode cX9_readHold 4 = .ok (.iload_n 1, 1) := by decide +kernel
theorem dX9_readHold_5 : decode cX9_readHold 5 = .ok (.ifCond .ne 8, 3) := by decide +kernel
theorem dX9_readHold_8 : decode cX9_readHold 8 = .ok (.bipush 16, 2) := by decide +kernel
theorem dX9_readHold_10 : decode cX9_readHold 10 = .ok (.goto 5, 3) := by decide +kernel
theorem dX9_readHold_13 : decode cX9_readHold 13 = .ok (.bipush 99, 2) := by decide +kernel
theorem dX9_readHold_15 : decode cX9_readHold 15 = .ok (.invokevirtual 191, 3) := by decide +kernel
theorem dX9_readHold_18 : decode cX9_readHold 18 = .ok (.ifCond .eq 10, 3) := by decide +kernel
theorem dX9_readHold_21 : decode cX9_readHold 21 = .ok (.aload_n 0, 1) := by decide +kernel
theorem dX9_readHold_22 : decode cX9_readHold 22 = .ok (.invokevirtual 194, 3) := by decide +kernel
theorem dX9_readHold_25 : decode cX9_readHold 25 = .ok (.ifCond .ne 5, 3) := by decide +kernel
theorem dX9_readHold_28 : decode cX9_readHold 28 = .ok (.iconst 0, 1) := by decide +kernel
theorem dX9_readHold_29 : decode cX9_readHold 29 = .ok (.ireturn, 1) := by decide +kernel
theorem dX9_readHold_30 : decode cX9_readHold 30 = .ok (.aload_n 0, 1) := by decide +kernel
theorem dX9_readHold_31 : decode cX9_readHold 31 = .ok (.iload_n 1, 1) := by decide +kernel
theorem dX9_readHold_32 : decode cX9_readHold 32 = .ok (.aload_n 0, 1) := by decide +kernel
theorem dX9_readHold_33 : decode cX9_readHold 33 = .ok (.getfield 175, 3) := by decide +kernel
theorem dX9_readHold_36 : decode cX9_readHold 36 = .ok (.invokevirtual 136, 3) := by decide +kernel
theorem dX9_readHold_39 : decode cX9_readHold 39 = .ok (.iconst 1, 1) := by decide +kernel
theorem dX9_readHold_40 : decode cX9_readHold 40 = .ok (.ireturn, 1) := by decide +kernel
theorem dX9_readPack_0 : decode cX9_readPack 0 = .ok (.aload_n 0, 1) := by decide +kernel
theorem dX9_readPack_1 : decode cX9_readPack 1 = .ok (.invokevirtual 197, 3) := by decide +kernel
theorem dX9_readPack_4 : decode cX9_readPack 4 = .ok (.ifCond .eq 21, 3) := by decide +kernel
theorem dX9_readPack_7 : decode cX9_readPack 7 = .ok (.aload_n 0, 1) := by decide +kernel
theorem dX9_readPack_8 : decode cX9_readPack 8 = .ok (.iconst 0, 1) := by decide +kernel
theorem dX9_readPack_9 : decode cX9_readPack 9 = .ok (.sipush 9999, 3) := by decide +kernel
theorem dX9_readPack_12 : decode cX9_readPack 12 = .ok (.invokevirtual 191, 3) := by decide +kernel
theorem dX9_readPack_15 : decode cX9_readPack 15 = .ok (.ifCond .eq 10, 3) := by decide +kernel
theorem dX9_readPack_18 : decode cX9_readPack 18 = .ok (.aload_n 0, 1) := by decide +kernel
theorem dX9_readPack_19 : decode cX9_readPack 19 = .ok (.invokevirtual 194, 3) := by decide +kernel
theorem dX9_readPack_22 : decode cX9_readPack 22 = .ok (.ifCond .ne 5, 3) := by decide +kernel
theorem dX9_readPack_25 : decode cX9_readPack 25 = .ok (.iconst 0, 1) := by decide +kernel
theorem dX9_readPack_26 : decode cX9_readPack 26 = .ok (.ireturn, 1) := by decide +kernel
theorem dX9_readPack_27 : decode cX9_readPack 27 = .ok (.iconst 0, 1) := by decide +kernel
theorem dX9_readPack_28 : decode cX9_readPack 28 = .ok (.istore_n 1, 1) := by decide +kernel
theorem dX9_readPack_29 : decode cX9_readPack 29 = .ok (.iload_n 1, 1) := by decide +kernel
theorem dX9_readPack_30 : decode cX9_readPack 30 = .ok (.iconst 4, 1) := by decide +kernel
theorem dX9_readPack_31 : decode cX9_readPack 31 = .ok (.if_icmp .ge 35, 3) := by decide +kernel
theorem dX9_readPack_34 : decode cX9_readPack 34 = .ok (.aload_n 0, 1) := by decide +kernel
theorem dX9_readPack_35 : decode cX9_readPack 35 = .ok (.getfield 182, 3) := by decide +kernel
theorem dX9_readPack_38 : decode cX9_readPack 38 = .ok (.iconst (-1), 1) := by decide +kernel
theorem dX9_readPack_39 : decode cX9_readPack 39 = .ok (.if_icmp .eq 11, 3) := by decide +kernel
theorem dX9_readPack_42 : decode cX9_readPack 42 = .ok (.aload_n 0, 1) := by decide +kernel
theorem dX9_readPack_43 : decode cX9_readPack 43 = .ok (.getfield 182, 3) := by decide +kernel
theorem dX9_readPack_46 : decode cX9_readPack 46 = .ok (.iload_n 1, 1) := by decide +kernel
theorem dX9_readPack_47 : decode cX9_readPack 47 = .ok (.if_icmp .ne 13, 3) := by decide +kernel
theorem dX9_readPack_50 : decode cX9_readPack 50 = .ok (.aload_n 0, 1) := by decide +kernel
theorem dX9_readPack_51 : decode cX9_readPack 51 = .ok (.iload_n 1, 1) := by decide +kernel
theorem dX9_readPack_52 : decode cX9_readPack 52 = .ok (.aload_n 0, 1) := by decide +kernel
theorem dX9_readPack_53 : decode cX9_readPack 53 = .ok (.getfield 175, 3) := by decide +kernel
theorem dX9_readPack_56 : decode cX9_readPack 56 = .ok (.invokevirtual 145, 3) := by decide +kernel
theorem dX9_readPack_59 : decode cX9_readPack 59 = .ok (.pop, 1) := by decide +kernel
theorem dX9_readPack_60 : decode cX9_readPack 60 = .ok (.iinc 1 1, 3) := by decide +kernel
theorem dX9_readPack_63 : decode cX9_readPack 63 = .ok (.goto (-34), 3) := by decide +kernel
theorem dX9_readPack_66 : decode cX9_readPack 66 = .ok (.iconst 1, 1) := by decide +kernel
theorem dX9_readPack_67 : decode cX9_readPack 67 = .ok (.ireturn, 1) := by decide +kernel
theorem dX9_readStatement_0 : decode cX9_readStatement 0 = .ok (.aload_n 0, 1) := by decide +kernel
theorem dX9_readStatement_1 : decode cX9_readStatement 1 = .ok (.invokevirtual 178, 3) := by decide +kernel
theorem dX9_readStatement_4 : decode cX9_readStatement 4 = .ok (.ifCond .ne 13, 3) := by decide +kernel
theorem dX9_readStatement_7 : decode cX9_readStatement 7 = .ok (.aload_n 0, 1) := by decide +kernel
theorem dX9_readStatement_8 : decode cX9_readStatement 8 = .ok (.iconst 1, 1) := by decide +kernel
theorem dX9_readStatement_9 : decode cX9_readStatement 9 = .ok (.aload_n 0, 1) := by decide +kernel
theorem dX9_readStatement_10 : decode cX9_readStatement 10 = .ok (.getfield 154, 3) := by decide +kernel
theorem dX9_readStatement_13 : decode cX9_readStatement 13 = .ok (.invokevirtual 172, 3) := by decide +kernel
theorem dX9_readStatement_16 : decode cX9_readStatement 16 = .ok (.ireturn, 1) := by decide +kernel
theorem dX9_readStatement_17 : decode cX9_readStatement 17 = .ok (.aload_n 0, 1) := by decide +kernel
theorem dX9_readStatement_18 : decode cX9_readStatement 18 = .ok (.invokevirtual 185, 3) := by decide +kernel
theorem dX9_readStatement_21 : decode cX9_readStatement 21 = .ok (.lstore_n 1, 1) := by decide +kernel
theorem dX9_readStatement_22 : decode cX9_readStatement 22 = .ok (.aload_n 0, 1) := by decide +kernel
theorem dX9_readStatement_23 : decode cX9_readStatement 23 = .ok (.getfield 163, 3) := by decide +kernel
theorem dX9_readStatement_26 : decode cX9_readStatement 26 = .ok (.istore_n 3, 1) := by decide +kernel
theorem dX9_readStatement_27 : decode cX9_readStatement 27 = .ok (.lload_n 1, 1) := by decide +kernel
theorem dX9_readStatement_28 : decode cX9_readStatement 28 = .ok (.ldc2_w 206, 3) := by decide +kernel
theorem dX9_readStatement_31 : decode cX9_readStatement 31 = .ok (.lcmp, 1) := by decide +kernel
theorem dX9_readStatement_32 : decode cX9_readStatement 32 = .ok (.ifCond .ne 8, 3) := by decide +kernel
theorem dX9_readStatement_35 : decode cX9_readStatement 35 = .ok (.aload_n 0, 1) := by decide +kernel
theorem dX9_readStatement_36 : decode cX9_readStatement 36 = .ok (.invokevirtual 208, 3) := by decide +kernel
theorem dX9_readStatement_39 : decode cX9_readStatement 39 = .ok (.ireturn, 1) := by decide +kernel
theorem dX9_readStatement_40 : decode cX9_readStatement 40 = .ok (.lload_n 1, 1) := by decide +kernel
theorem dX9_readStatement_41 : decode cX9_readStatement 41 = .ok (.ldc2_w 211, 3) := by decide +kernel
theorem dX9_readStatement_44 : decode cX9_readStatement 44 = .ok (.lcmp, 1) := by decide +kernel
theorem dX9_readStatement_45 : decode cX9_readStatement 45 = .ok (.ifCond .ne 9, 3) := by decide +kernel
theorem dX9_readStatement_48 : decode cX9_readStatement 48 = .ok (.aload_n 0, 1) := by decide +kernel
theorem dX9_readStatement_49 : decode cX9_readStatement 49 = .ok (.iload_n 3, 1) := by decide +kernel
theorem dX9_readStatement_50 : decode cX9_readStatement 50 = .ok (.invokevirtual 213, 3) := by decide +kernel
theorem dX9_readStatement_53 : decode cX9_readStatement 53 = .ok (.ireturn, 1) := by decide +kernel
theorem dX9_readStatement_54 : decode cX9_readStatement 54 = .ok (.lload_n 1, 1) := by decide +kernel
theorem dX9_readStatement_55 : decode cX9_readStatement 55 = .ok (.ldc2_w 216, 3) := by decide +kernel
theorem dX9_readStatement_58 : decode cX9_readStatement 58 = .ok (.lcmp, 1) := by decide +kernel
theorem dX9_readStatement_59 : decode cX9_readStatement 59 = .ok (.ifCond .ne 8, 3) := by decide +kernel
theorem dX9_readStatement_62 : decode cX9_readStatement 62 = .ok (.aload_n 0, 1) := by decide +kernel
theorem dX9_readStatement_63 : decode cX9_readStatement 63 = .ok (.invokevirtual 218, 3) := by decide +kernel
theorem dX9_readStatement_66 : decode cX9_readStatement 66 = .ok (.ireturn, 1) := by decide +kernel
theorem dX9_readStatement_67 : decode cX9_readStatement 67 = .ok (.lload_n 1, 1) := by decide +kernel
theorem dX9_readStatement_68 : decode cX9_readStatement 68 = .ok (.ldc2_w 221, 3) := by decide +kernel
theorem dX9_readStatement_71 : decode cX9_readStatement 71 = .ok (.lcmp, 1) := by decide +kernel
theorem dX9_readStatement_72 : decode cX9_readStatement 72 = .ok (.ifCond .ne 8, 3) := by decide +kernel
theorem dX9_readStatement_75 : decode cX9_readStatement 75 = .ok (.aload_n 0, 1) := by decide +kernel
theorem dX9_readStatement_76 : decode cX9_readStatement 76 = .ok (.invokevirtual 223, 3) := by decide +kernel
theorem dX9_readStatement_79 : decode cX9_readStatement 79 = .ok (.ireturn, 1) := by decide +kernel
theorem dX9_readStatement_80 : decode cX9_readStatement 80 = .ok (.lload_n 1, 1) := by decide +kernel
theorem dX9_readStatement_81 : decode cX9_readStatement 81 = .ok (.ldc2_w 226, 3) := by decide +kernel
theorem dX9_readStatement_84 : decode cX9_readStatement 84 = .ok (.lcmp, 1) := by decide +kernel
theorem dX9_readStatement_85 : decode cX9_readStatement 85 = .ok (.ifCond .ne 8, 3) := by decide +kernel
theorem dX9_readStatement_88 : decode cX9_readStatement 88 = .ok (.aload_n 0, 1) := by decide +kernel
theorem dX9_readStatement_89 : decode cX9_readStatement 89 = .ok (.invokevirtual 228, 3) := by decide +kernel
theorem dX9_readStatement_92 : decode cX9_readStatement 92 = .ok (.ireturn, 1) := by decide +kernel
theorem dX9_readStatement_93 : decode cX9_readStatement 93 = .ok (.lload_n 1, 1) := by decide +kernel
theorem dX9_readStatement_94 : decode cX9_readStatement 94 = .ok (.ldc2_w 231, 3) := by decide +kernel
theorem dX9_readStatement_97 : decode cX9_readStatement 97 = .ok (.lcmp, 1) := by decide +kernel
theorem dX9_readStatement_98 : decode cX9_readStatement 98 = .ok (.ifCond .eq 11, 3) := by decide +kernel
theorem dX9_readStatement_101 : decode cX9_readStatement 101 = .ok (.lload_n 1, 1) := by decide +kernel
theorem dX9_readStatement_102 : decode cX9_readStatement 102 = .ok (.ldc2_w 233, 3) := by decide +kernel
theorem dX9_readStatement_105 : decode cX9_readStatement 105 = .ok (.lcmp, 1) := by decide +kernel
theorem dX9_readStatement_106 : decode cX9_readStatement 106 = .ok (.ifCond .ne 21, 3) := by decide +kernel
theorem dX9_readStatement_109 : decode cX9_readStatement 109 = .ok (.aload_n 0, 1) := by decide +kernel
theorem dX9_readStatement_110 : decode cX9_readStatement 110 = .ok (.lload_n 1, 1) := by decide +kernel
theorem dX9_readStatement_111 : decode cX9_readStatement 111 = .ok (.ldc2_w 231, 3) := by decide +kernel
theorem dX9_readStatement_114 : decode cX9_readStatement 114 = .ok (.lcmp, 1) := by decide +kernel
theorem dX9_readStatement_115 : decode cX9_readStatement 115 = .ok (.ifCond .ne 7, 3) := by decide +kernel
theorem dX9_readStatement_118 : decode cX9_readStatement 118 = .ok (.iconst 0, 1) := by decide +kernel
theorem dX9_readStatement_119 : decode cX9_readStatement 119 = .ok (.goto 4, 3) := by decide +kernel
theorem dX9_readStatement_122 : decode cX9_readStatement 122 = .ok (.iconst 1, 1) := by decide +kernel
theorem dX9_readStatement_123 : decode cX9_readStatement 123 = .ok (.invokevirtual 235, 3) := by decide +kernel
theorem dX9_readStatement_126 : decode cX9_readStatement 126 = .ok (.ireturn, 1) := by decide +kernel
theorem dX9_readStatement_127 : decode cX9_readStatement 127 = .ok (.lload_n 1, 1) := by decide +kernel
theorem dX9_readStatement_128 : decode cX9_readStatement 128 = .ok (.ldc2_w 238, 3) := by decide +kernel
theorem dX9_readStatement_131 : decode cX9_readStatement 131 = .ok (.lcmp, 1) := by decide +kernel
theorem dX9_readStatement_132 : decode cX9_readStatement 132 = .ok (.ifCond .ne 10, 3) := by decide +kernel
theorem dX9_readStatement_135 : decode cX9_readStatement 135 = .ok (.aload_n 0, 1) := by decide +kernel
theorem dX9_readStatement_136 : decode cX9_readStatement 136 = .ok (.invokevirtual 240, 3) := by decide +kernel
theorem dX9_readStatement_139 : decode cX9_readStatement 139 = .ok (.goto 9, 3) := by decide +kernel
theorem dX9_readStatement_142 : decode cX9_readStatement 142 = .ok (.aload_n 0, 1) := by decide +kernel
theorem dX9_readStatement_143 : decode cX9_readStatement 143 = .ok (.iconst 1, 1) := by decide +kernel
theorem dX9_readStatement_144 : decode cX9_readStatement 144 = .ok (.iload_n 3, 1) := by decide +kernel
theorem dX9_readStatement_145 : decode cX9_readStatement 145 = .ok (.invokevirtual 172, 3) := by decide +kernel
theorem dX9_readStatement_148 : decode cX9_readStatement 148 = .ok (.ireturn, 1) := by decide +kernel
theorem dX9_readText_0 : decode cX9_readText 0 = .ok (.aload_n 0, 1) := by decide +kernel
theorem dX9_readText_1 : decode cX9_readText 1 = .ok (.iconst 0, 1) := by decide +kernel
theorem dX9_readText_2 : decode cX9_readText 2 = .ok (.putfield 243, 3) := by decide +kernel
theorem dX9_readText_5 : decode cX9_readText 5 = .ok (.aload_n 0, 1) := by decide +kernel
theorem dX9_readText_6 : decode cX9_readText 6 = .ok (.iconst 0, 1) := by decide +kernel
theorem dX9_readText_7 : decode cX9_readText 7 = .ok (.putfield 154, 3) := by decide +kernel
theorem dX9_readText_10 : decode cX9_readText 10 = .ok (.aload_n 0, 1) := by decide +kernel
theorem dX9_readText_11 : decode cX9_readText 11 = .ok (.iconst 0, 1) := by decide +kernel
theorem dX9_readText_12 : decode cX9_readText 12 = .ok (.putfield 157, 3) := by decide +kernel
theorem dX9_readText_15 : decode cX9_readText 15 = .ok (.aload_n 0, 1) := by decide +kernel
theorem dX9_readText_16 : decode cX9_readText 16 = .ok (.invokevirtual 160, 3) := by decide +kernel
theorem dX9_readText_19 : decode cX9_readText 19 = .ok (.iconst (-1), 1) := by decide +kernel
theorem dX9_readText_20 : decode cX9_readText 20 = .ok (.if_icmp .eq 25, 3) := by decide +kernel
theorem dX9_readText_23 : decode cX9_readText 23 = .ok (.aload_n 0, 1) := by decide +kernel
theorem dX9_readText_24 : decode cX9_readText 24 = .ok (.invokevirtual 246, 3) := by decide +kernel
theorem dX9_readText_27 : decode cX9_readText 27 = .ok (.ifCond .ne 5, 3) := by decide +kernel
theorem dX9_readText_30 : decode cX9_readText 30 = .ok (.iconst 0, 1) := by decide +kernel
theorem dX9_readText_31 : decode cX9_readText 31 = .ok (.ireturn, 1) := by decide +kernel
theorem dX9_readText_32 : decode cX9_readText 32 = .ok (.aload_n 0, 1) := by decide +kernel
theorem dX9_readText_33 : decode cX9_readText 33 = .ok (.dup, 1) := by decide +kernel
theorem dX9_readText_34 : decode cX9_readText 34 = .ok (.getfield 243, 3) := by decide +kernel
theorem dX9_readText_37 : decode cX9_readText 37 = .ok (.iconst 1, 1) := by decide +kernel
theorem dX9_readText_38 : decode cX9_readText 38 = .ok (.iadd, 1) := by decide +kernel
theorem dX9_readText_39 : decode cX9_readText 39 = .ok (.putfield 243, 3) := by decide +kernel
theorem dX9_readText_42 : decode cX9_readText 42 = .ok (.goto (-27), 3) := by decide +kernel
theorem dX9_readText_45 : decode cX9_readText 45 = .ok (.iconst 1, 1) := by decide +kernel
theorem dX9_readText_46 : decode cX9_readText 46 = .ok (.ireturn, 1) := by decide +kernel
theorem dX9_tell_0 : decode cX9_tell 0 = .ok (.aload_n 0, 1) := by decide +kernel
theorem dX9_tell_1 : decode cX9_tell 1 = .ok (.iconst 0, 1) := by decide +kernel
theorem dX9_tell_2 : decode cX9_tell 2 = .ok (.putfield 35, 3) := by decide +kernel
theorem dX9_tell_5 : decode cX9_tell 5 = .ok (.iconst 0, 1) := by decide +kernel
theorem dX9_tell_6 : decode cX9_tell 6 = .ok (.istore_n 1, 1) := by decide +kernel
theorem dX9_tell_7 : decode cX9_tell 7 = .ok (.iload_n 1, 1) := by decide +kernel
theorem dX9_tell_8 : decode cX9_tell 8 = .ok (.sipush 641, 3) := by decide +kernel
theorem dX9_tell_11 : decode cX9_tell 11 = .ok (.if_icmp .ge 21, 3) := by decide +kernel
theorem dX9_tell_14 : decode cX9_tell 14 = .ok (.aload_n 0, 1) := by decide +kernel
theorem dX9_tell_15 : decode cX9_tell 15 = .ok (.getfield 13, 3) := by decide +kernel
theorem dX9_tell_18 : decode cX9_tell 18 = .ok (.iload_n 1, 1) := by decide +kernel
theorem dX9_tell_19 : decode cX9_tell 19 = .ok (.aload_n 0, 1) := by decide +kernel
theorem dX9_tell_20 : decode cX9_tell 20 = .ok (.getfield 7, 3) := by decide +kernel
theorem dX9_tell_23 : decode cX9_tell 23 = .ok (.iload_n 1, 1) := by decide +kernel
theorem dX9_tell_24 : decode cX9_tell 24 = .ok (.iaload, 1) := by decide +kernel
theorem dX9_tell_25 : decode cX9_tell 25 = .ok (.iastore, 1) := by decide +kernel
theorem dX9_tell_26 : decode cX9_tell 26 = .ok (.iinc 1 1, 3) := by decide +kernel
theorem dX9_tell_29 : decode cX9_tell 29 = .ok (.goto (-22), 3) := by decide +kernel
theorem dX9_tell_32 : decode cX9_tell 32 = .ok (.aload_n 0, 1) := by decide +kernel
theorem dX9_tell_33 : decode cX9_tell 33 = .ok (.invokevirtual 249, 3) := by decide +kernel
theorem dX9_tell_36 : decode cX9_tell 36 = .ok (.istore_n 1, 1) := by decide +kernel
theorem dX9_tell_37 : decode cX9_tell 37 = .ok (.aload_n 0, 1) := by decide +kernel
theorem dX9_tell_38 : decode cX9_tell 38 = .ok (.iconst 0, 1) := by decide +kernel
theorem dX9_tell_39 : decode cX9_tell 39 = .ok (.putfield 148, 3) := by decide +kernel
theorem dX9_tell_42 : decode cX9_tell 42 = .ok (.aload_n 0, 1) := by decide +kernel
theorem dX9_tell_43 : decode cX9_tell 43 = .ok (.aload_n 0, 1) := by decide +kernel
theorem dX9_tell_44 : decode cX9_tell 44 = .ok (.getfield 157, 3) := by decide +kernel
theorem dX9_tell_47 : decode cX9_tell 47 = .ok (.putfield 252, 3) := by decide +kernel
theorem dX9_tell_50 : decode cX9_tell 50 = .ok (.iload_n 1, 1) := by decide +kernel
theorem dX9_tell_51 : decode cX9_tell 51 = .ok (.ifCond .eq 8, 3) := by decide +kernel
theorem dX9_tell_54 : decode cX9_tell 54 = .ok (.aload_n 0, 1) := by decide +kernel
theorem dX9_tell_55 : decode cX9_tell 55 = .ok (.getfield 243, 3) := by decide +kernel
theorem dX9_tell_58 : decode cX9_tell 58 = .ok (.ireturn, 1) := by decide +kernel
theorem dX9_tell_59 : decode cX9_tell 59 = .ok (.iconst 0, 1) := by decide +kernel
theorem dX9_tell_60 : decode cX9_tell 60 = .ok (.istore_n 2, 1) := by decide +kernel
theorem dX9_tell_61 : decode cX9_tell 61 = .ok (.iload_n 2, 1) := by decide +kernel
theorem dX9_tell_62 : decode cX9_tell 62 = .ok (.sipush 641, 3) := by decide +kernel
theorem dX9_tell_65 : decode cX9_tell 65 = .ok (.if_icmp .ge 21, 3) := by decide +kernel
theorem dX9_tell_68 : decode cX9_tell 68 = .ok (.aload_n 0, 1) := by decide +kernel
theorem dX9_tell_69 : decode cX9_tell 69 = .ok (.getfield 7, 3) := by decide +kernel
theorem dX9_tell_72 : decode cX9_tell 72 = .ok (.iload_n 2, 1) := by decide +kernel
theorem dX9_tell_73 : decode cX9_tell 73 = .ok (.aload_n 0, 1) := by decide +kernel
theorem dX9_tell_74 : decode cX9_tell 74 = .ok (.getfield 13, 3) := by decide +kernel
theorem dX9_tell_77 : decode cX9_tell 77 = .ok (.iload_n 2, 1) := by decide +kernel
theorem dX9_tell_78 : decode cX9_tell 78 = .ok (.iaload, 1) := by decide +kernel
theorem dX9_tell_79 : decode cX9_tell 79 = .ok (.iastore, 1) := by decide +kernel
theorem dX9_tell_80 : decode cX9_tell 80 = .ok (.iinc 2 1, 3) := by decide +kernel
theorem dX9_tell_83 : decode cX9_tell 83 = .ok (.goto (-22), 3) := by decide +kernel
theorem dX9_tell_86 : decode cX9_tell 86 = .ok (.iconst (-1), 1) := by decide +kernel
theorem dX9_tell_87 : decode cX9_tell 87 = .ok (.ireturn, 1) := by decide +kernel
theorem dX9_fault_0 : decode cX9_fault 0 = .ok (.aload_n 0, 1) := by decide +kernel
theorem dX9_fault_1 : decode cX9_fault 1 = .ok (.iconst 0, 1) := by decide +kernel
theorem dX9_fault_2 : decode cX9_fault 2 = .ok (.putfield 35, 3) := by decide +kernel
theorem dX9_fault_5 : decode cX9_fault 5 = .ok (.aload_n 0, 1) := by decide +kernel
theorem dX9_fault_6 : decode cX9_fault 6 = .ok (.getfield 252, 3) := by decide +kernel
theorem dX9_fault_9 : decode cX9_fault 9 = .ok (.ireturn, 1) := by decide +kernel
theorem dX9_count_0 : decode cX9_count 0 = .ok (.aload_n 0, 1) := by decide +kernel
theorem dX9_count_1 : decode cX9_count 1 = .ok (.iconst 0, 1) := by decide +kernel
theorem dX9_count_2 : decode cX9_count 2 = .ok (.putfield 35, 3) := by decide +kernel
theorem dX9_count_5 : decode cX9_count 5 = .ok (.iload_n 1, 1) := by decide +kernel
theorem dX9_count_6 : decode cX9_count 6 = .ok (.iconst 5, 1) := by decide +kernel
theorem dX9_count_7 : decode cX9_count 7 = .ok (.if_icmp .ne 10, 3) := by decide +kernel
theorem dX9_count_10 : decode cX9_count 10 = .ok (.aload_n 0, 1) := by decide +kernel
theorem dX9_count_11 : decode cX9_count 11 = .ok (.getfield 148, 3) := by decide +kernel
theorem dX9_count_14 : decode cX9_count 14 = .ok (.goto 22, 3) := by decide +kernel
theorem dX9_count_17 : decode cX9_count 17 = .ok (.iload_n 1, 1) := by decide +kernel
theorem dX9_count_18 : decode cX9_count 18 = .ok (.iconst 0, 1) := by decide +kernel
theorem dX9_count_19 : decode cX9_count 19 = .ok (.iconst 4, 1) := by decide +kernel
theorem dX9_count_20 : decode cX9_count 20 = .ok (.invokestatic 39, 3) := by decide +kernel
theorem dX9_count_23 : decode cX9_count 23 = .ok (.ifCond .eq 12, 3) := by decide +kernel
theorem dX9_count_26 : decode cX9_count 26 = .ok (.aload_n 0, 1) := by decide +kernel
theorem dX9_count_27 : decode cX9_count 27 = .ok (.getfield 7, 3) := by decide +kernel
theorem dX9_count_30 : decode cX9_count 30 = .ok (.iload_n 1, 1) := by decide +kernel
theorem dX9_count_31 : decode cX9_count 31 = .ok (.iaload, 1) := by decide +kernel
theorem dX9_count_32 : decode cX9_count 32 = .ok (.goto 4, 3) := by decide +kernel
theorem dX9_count_35 : decode cX9_count 35 = .ok (.iconst (-1), 1) := by decide +kernel
theorem dX9_count_36 : decode cX9_count 36 = .ok (.ireturn, 1) := by decide +kernel
theorem dX9_of_0 : decode cX9_of 0 = .ok (.aload_n 0, 1) := by decide +kernel
theorem dX9_of_1 : decode cX9_of 1 = .ok (.aload_n 0, 1) := by decide +kernel
theorem dX9_of_2 : decode cX9_of 2 = .ok (.iload_n 1, 1) := by decide +kernel
theorem dX9_of_3 : decode cX9_of 3 = .ok (.invokevirtual 122, 3) := by decide +kernel
theorem dX9_of_6 : decode cX9_of 6 = .ok (.ifCond .eq 27, 3) := by decide +kernel
theorem dX9_of_9 : decode cX9_of 9 = .ok (.iload_n 2, 1) := by decide +kernel
theorem dX9_of_10 : decode cX9_of 10 = .ok (.iconst 0, 1) := by decide +kernel
theorem dX9_of_11 : decode cX9_of 11 = .ok (.iconst 3, 1) := by decide +kernel
theorem dX9_of_12 : decode cX9_of 12 = .ok (.invokestatic 39, 3) := by decide +kernel
theorem dX9_of_15 : decode cX9_of 15 = .ok (.ifCond .ne 14, 3) := by decide +kernel
theorem dX9_of_18 : decode cX9_of 18 = .ok (.iload_n 2, 1) := by decide +kernel
theorem dX9_of_19 : decode cX9_of 19 = .ok (.bipush 10, 2) := by decide +kernel
theorem dX9_of_21 : decode cX9_of 21 = .ok (.bipush 13, 2) := by decide +kernel
theorem dX9_of_23 : decode cX9_of 23 = .ok (.invokestatic 39, 3) := by decide +kernel
theorem dX9_of_26 : decode cX9_of 26 = .ok (.ifCond .eq 7, 3) := by decide +kernel
theorem dX9_of_29 : decode cX9_of 29 = .ok (.iconst 0, 1) := by decide +kernel
theorem dX9_of_30 : decode cX9_of 30 = .ok (.goto 4, 3) := by decide +kernel
theorem dX9_of_33 : decode cX9_of 33 = .ok (.iconst 1, 1) := by decide +kernel
theorem dX9_of_34 : decode cX9_of 34 = .ok (.putfield 35, 3) := by decide +kernel
theorem dX9_of_37 : decode cX9_of 37 = .ok (.aload_n 0, 1) := by decide +kernel
theorem dX9_of_38 : decode cX9_of 38 = .ok (.getfield 35, 3) := by decide +kernel
theorem dX9_of_41 : decode cX9_of 41 = .ok (.ifCond .le 5, 3) := by decide +kernel
theorem dX9_of_44 : decode cX9_of 44 = .ok (.iconst 0, 1) := by decide +kernel
theorem dX9_of_45 : decode cX9_of 45 = .ok (.ireturn, 1) := by decide +kernel
theorem dX9_of_46 : decode cX9_of 46 = .ok (.iload_n 2, 1) := by decide +kernel
theorem dX9_of_47 : decode cX9_of 47 = .ok (.tableswitch 72 0 3 #[29, 38, 48, 60], 29) := by decide +kernel
theorem dX9_of_76 : decode cX9_of 76 = .ok (.aload_n 0, 1) := by decide +kernel
theorem dX9_of_77 : decode cX9_of 77 = .ok (.getfield 7, 3) := by decide +kernel
theorem dX9_of_80 : decode cX9_of 80 = .ok (.iconst 5, 1) := by decide +kernel
theorem dX9_of_81 : decode cX9_of 81 = .ok (.iload_n 1, 1) := by decide +kernel
theorem dX9_of_82 : decode cX9_of 82 = .ok (.iadd, 1) := by decide +kernel
theorem dX9_of_83 : decode cX9_of 83 = .ok (.iaload, 1) := by decide +kernel
theorem dX9_of_84 : decode cX9_of 84 = .ok (.ireturn, 1) := by decide +kernel
theorem dX9_of_85 : decode cX9_of 85 = .ok (.aload_n 0, 1) := by decide +kernel
theorem dX9_of_86 : decode cX9_of 86 = .ok (.getfield 7, 3) := by decide +kernel
theorem dX9_of_89 : decode cX9_of 89 = .ok (.bipush 13, 2) := by decide +kernel
theorem dX9_of_91 : decode cX9_of 91 = .ok (.iload_n 1, 1) := by decide +kernel
theorem dX9_of_92 : decode cX9_of 92 = .ok (.iadd, 1) := by decide +kernel
theorem dX9_of_93 : decode cX9_of 93 = .ok (.iaload, 1) := by decide +kernel
theorem dX9_of_94 : decode cX9_of 94 = .ok (.ireturn, 1) := by decide +kernel
theorem dX9_of_95 : decode cX9_of 95 = .ok (.aload_n 0, 1) := by decide +kernel
theorem dX9_of_96 : decode cX9_of 96 = .ok (.iload_n 1, 1) := by decide +kernel
theorem dX9_of_97 : decode cX9_of 97 = .ok (.aload_n 0, 1) := by decide +kernel
theorem dX9_of_98 : decode cX9_of 98 = .ok (.getfield 7, 3) := by decide +kernel
theorem dX9_of_101 : decode cX9_of 101 = .ok (.iconst 0, 1) := by decide +kernel
theorem dX9_of_102 : decode cX9_of 102 = .ok (.iaload, 1) := by decide +kernel
theorem dX9_of_103 : decode cX9_of 103 = .ok (.invokevirtual 53, 3) := by decide +kernel
theorem dX9_of_106 : decode cX9_of 106 = .ok (.ireturn, 1) := by decide +kernel
theorem dX9_of_107 : decode cX9_of 107 = .ok (.aload_n 0, 1) := by decide +kernel
theorem dX9_of_108 : decode cX9_of 108 = .ok (.iload_n 1, 1) := by decide +kernel
theorem dX9_of_109 : decode cX9_of 109 = .ok (.aload_n 0, 1) := by decide +kernel
theorem dX9_of_110 : decode cX9_of 110 = .ok (.getfield 7, 3) := by decide +kernel
theorem dX9_of_113 : decode cX9_of 113 = .ok (.iconst 0, 1) := by decide +kernel
theorem dX9_of_114 : decode cX9_of 114 = .ok (.iaload, 1) := by decide +kernel
theorem dX9_of_115 : decode cX9_of 115 = .ok (.invokevirtual 56, 3) := by decide +kernel
theorem dX9_of_118 : decode cX9_of 118 = .ok (.ireturn, 1) := by decide +kernel
theorem dX9_of_119 : decode cX9_of 119 = .ok (.aload_n 0, 1) := by decide +kernel
theorem dX9_of_120 : decode cX9_of 120 = .ok (.iload_n 2, 1) := by decide +kernel
theorem dX9_of_121 : decode cX9_of 121 = .ok (.bipush 10, 2) := by decide +kernel
theorem dX9_of_123 : decode cX9_of 123 = .ok (.isub, 1) := by decide +kernel
theorem dX9_of_124 : decode cX9_of 124 = .ok (.iload_n 1, 1) := by decide +kernel
theorem dX9_of_125 : decode cX9_of 125 = .ok (.invokevirtual 50, 3) := by decide +kernel
theorem dX9_of_128 : decode cX9_of 128 = .ok (.ireturn, 1) := by decide +kernel
theorem dX9_isSlot_0 : decode cX9_isSlot 0 = .ok (.iload_n 1, 1) := by decide +kernel
theorem dX9_isSlot_1 : decode cX9_isSlot 1 = .ok (.iconst 0, 1) := by decide +kernel
theorem dX9_isSlot_2 : decode cX9_isSlot 2 = .ok (.aload_n 0, 1) := by decide +kernel
theorem dX9_isSlot_3 : decode cX9_isSlot 3 = .ok (.getfield 7, 3) := by decide +kernel
theorem dX9_isSlot_6 : decode cX9_isSlot 6 = .ok (.iconst 0, 1) := by decide +kernel
theorem dX9_isSlot_7 : decode cX9_isSlot 7 = .ok (.iaload, 1) := by decide +kernel
theorem dX9_isSlot_8 : decode cX9_isSlot 8 = .ok (.iconst 1, 1) := by decide +kernel
theorem dX9_isSlot_9 : decode cX9_isSlot 9 = .ok (.isub, 1) := by decide +kernel
theorem dX9_isSlot_10 : decode cX9_isSlot 10 = .ok (.invokestatic 39, 3) := by decide +kernel
theorem dX9_isSlot_13 : decode cX9_isSlot 13 = .ok (.ireturn, 1) := by decide +kernel
theorem dX9_slot_0 : decode cX9_slot 0 = .ok (.aload_n 0, 1) := by decide +kernel
theorem dX9_slot_1 : decode cX9_slot 1 = .ok (.iconst 0, 1) := by decide +kernel
theorem dX9_slot_2 : decode cX9_slot 2 = .ok (.putfield 35, 3) := by decide +kernel
theorem dX9_slot_5 : decode cX9_slot 5 = .ok (.aload_n 0, 1) := by decide +kernel
theorem dX9_slot_6 : decode cX9_slot 6 = .ok (.iload_n 1, 1) := by decide +kernel
theorem dX9_slot_7 : decode cX9_slot 7 = .ok (.invokevirtual 122, 3) := by decide +kernel
theorem dX9_slot_10 : decode cX9_slot 10 = .ok (.ifCond .eq 46, 3) := by decide +kernel
theorem dX9_slot_13 : decode cX9_slot 13 = .ok (.aload_n 0, 1) := by decide +kernel
theorem dX9_slot_14 : decode cX9_slot 14 = .ok (.iload_n 2, 1) := by decide +kernel
theorem dX9_slot_15 : decode cX9_slot 15 = .ok (.invokevirtual 255, 3) := by decide +kernel
theorem dX9_slot_18 : decode cX9_slot 18 = .ok (.ifCond .eq 38, 3) := by decide +kernel
theorem dX9_slot_21 : decode cX9_slot 21 = .ok (.aload_n 0, 1) := by decide +kernel
theorem dX9_slot_22 : decode cX9_slot 22 = .ok (.iload_n 1, 1) := by decide +kernel
theorem dX9_slot_23 : decode cX9_slot 23 = .ok (.aload_n 0, 1) := by decide +kernel
theorem dX9_slot_24 : decode cX9_slot 24 = .ok (.getfield 7, 3) := by decide +kernel
theorem dX9_slot_27 : decode cX9_slot 27 = .ok (.iconst 0, 1) := by decide +kernel
theorem dX9_slot_28 : decode cX9_slot 28 = .ok (.iaload, 1) := by decide +kernel
theorem dX9_slot_29 : decode cX9_slot 29 = .ok (.invokevirtual 53, 3) := by decide +kernel
theorem dX9_slot_32 : decode cX9_slot 32 = .ok (.iload_n 2, 1) := by decide +kernel
theorem dX9_slot_33 : decode cX9_slot 33 = .ok (.aload_n 0, 1) := by decide +kernel
theorem dX9_slot_34 : decode cX9_slot 34 = .ok (.iload_n 1, 1) := by decide +kernel
theorem dX9_slot_35 : decode cX9_slot 35 = .ok (.aload_n 0, 1) := by decide +kernel
theorem dX9_slot_36 : decode cX9_slot 36 = .ok (.getfield 7, 3) := by decide +kernel
theorem dX9_slot_39 : decode cX9_slot 39 = .ok (.iconst 0, 1) := by decide +kernel
theorem dX9_slot_40 : decode cX9_slot 40 = .ok (.iaload, 1) := by decide +kernel
theorem dX9_slot_41 : decode cX9_slot 41 = .ok (.invokevirtual 56, 3) := by decide +kernel
theorem dX9_slot_44 : decode cX9_slot 44 = .ok (.imul, 1) := by decide +kernel
theorem dX9_slot_45 : decode cX9_slot 45 = .ok (.iadd, 1) := by decide +kernel
theorem dX9_slot_46 : decode cX9_slot 46 = .ok (.aload_n 0, 1) := by decide +kernel
theorem dX9_slot_47 : decode cX9_slot 47 = .ok (.getfield 7, 3) := by decide +kernel
theorem dX9_slot_50 : decode cX9_slot 50 = .ok (.iconst 0, 1) := by decide +kernel
theorem dX9_slot_51 : decode cX9_slot 51 = .ok (.iaload, 1) := by decide +kernel
theorem dX9_slot_52 : decode cX9_slot 52 = .ok (.irem, 1) := by decide +kernel
theorem dX9_slot_53 : decode cX9_slot 53 = .ok (.goto 4, 3) := by decide +kernel
theorem dX9_slot_56 : decode cX9_slot 56 = .ok (.iconst (-1), 1) := by decide +kernel
theorem dX9_slot_57 : decode cX9_slot 57 = .ok (.ireturn, 1) := by decide +kernel
theorem dX9_table_0 : decode cX9_table 0 = .ok (.aload_n 0, 1) := by decide +kernel
theorem dX9_table_1 : decode cX9_table 1 = .ok (.iconst 0, 1) := by decide +kernel
theorem dX9_table_2 : decode cX9_table 2 = .ok (.putfield 35, 3) := by decide +kernel
theorem dX9_table_5 : decode cX9_table 5 = .ok (.iload_n 1, 1) := by decide +kernel
theorem dX9_table_6 : decode cX9_table 6 = .ok (.invokestatic 125, 3) := by decide +kernel
theorem dX9_table_9 : decode cX9_table 9 = .ok (.ifCond .eq 11, 3) := by decide +kernel
theorem dX9_table_12 : decode cX9_table 12 = .ok (.aload_n 0, 1) := by decide +kernel
theorem dX9_table_13 : decode cX9_table 13 = .ok (.iload_n 2, 1) := by decide +kernel
theorem dX9_table_14 : decode cX9_table 14 = .ok (.invokevirtual 255, 3) := by decide +kernel
theorem dX9_table_17 : decode cX9_table 17 = .ok (.ifCond .ne 5, 3) := by decide +kernel
theorem dX9_table_20 : decode cX9_table 20 = .ok (.iconst (-1), 1) := by decide +kernel
theorem dX9_table_21 : decode cX9_table 21 = .ok (.ireturn, 1) := by decide +kernel
theorem dX9_table_22 : decode cX9_table 22 = .ok (.aload_n 0, 1) := by decide +kernel
theorem dX9_table_23 : decode cX9_table 23 = .ok (.iload_n 1, 1) := by decide +kernel
theorem dX9_table_24 : decode cX9_table 24 = .ok (.invokevirtual 94, 3) := by decide +kernel
theorem dX9_table_27 : decode cX9_table 27 = .ok (.aload_n 0, 1) := by decide +kernel
theorem dX9_table_28 : decode cX9_table 28 = .ok (.getfield 16, 3) := by decide +kernel
theorem dX9_table_31 : decode cX9_table 31 = .ok (.iload_n 2, 1) := by decide +kernel
theorem dX9_table_32 : decode cX9_table 32 = .ok (.iaload, 1) := by decide +kernel
theorem dX9_table_33 : decode cX9_table 33 = .ok (.ireturn, 1) := by decide +kernel
theorem dX9_sharedBy_0 : decode cX9_sharedBy 0 = .ok (.iconst 0, 1) := by decide +kernel
theorem dX9_sharedBy_1 : decode cX9_sharedBy 1 = .ok (.istore_n 3, 1) := by decide +kernel
theorem dX9_sharedBy_2 : decode cX9_sharedBy 2 = .ok (.iconst 0, 1) := by decide +kernel
theorem dX9_sharedBy_3 : decode cX9_sharedBy 3 = .ok (.istore 4, 2) := by decide +kernel
theorem dX9_sharedBy_5 : decode cX9_sharedBy 5 = .ok (.iload 4, 2) := by decide +kernel
theorem dX9_sharedBy_7 : decode cX9_sharedBy 7 = .ok (.iload_n 2, 1) := by decide +kernel
theorem dX9_sharedBy_8 : decode cX9_sharedBy 8 = .ok (.if_icmp .ge 28, 3) := by decide +kernel
theorem dX9_sharedBy_11 : decode cX9_sharedBy 11 = .ok (.iload_n 3, 1) := by decide +kernel
theorem dX9_sharedBy_12 : decode cX9_sharedBy 12 = .ok (.aload_n 0, 1) := by decide +kernel
theorem dX9_sharedBy_13 : decode cX9_sharedBy 13 = .ok (.getfield 16, 3) := by decide +kernel
theorem dX9_sharedBy_16 : decode cX9_sharedBy 16 = .ok (.iload 4, 2) := by decide +kernel
theorem dX9_sharedBy_18 : decode cX9_sharedBy 18 = .ok (.iaload, 1) := by decide +kernel
theorem dX9_sharedBy_19 : decode cX9_sharedBy 19 = .ok (.iload_n 1, 1) := by decide +kernel
theorem dX9_sharedBy_20 : decode cX9_sharedBy 20 = .ok (.if_icmp .ne 7, 3) := by decide +kernel
theorem dX9_sharedBy_23 : decode cX9_sharedBy 23 = .ok (.iconst 1, 1) := by decide +kernel
theorem dX9_sharedBy_24 : decode cX9_sharedBy 24 = .ok (.goto 4, 3) := by decide +kernel
theorem dX9_sharedBy_27 : decode cX9_sharedBy 27 = .ok (.iconst 0, 1) := by decide +kernel
theorem dX9_sharedBy_28 : decode cX9_sharedBy 28 = .ok (.iadd, 1) := by decide +kernel
theorem dX9_sharedBy_29 : decode cX9_sharedBy 29 = .ok (.istore_n 3, 1) := by decide +kernel
theorem dX9_sharedBy_30 : decode cX9_sharedBy 30 = .ok (.iinc 4 1, 3) := by decide +kernel
theorem dX9_sharedBy_33 : decode cX9_sharedBy 33 = .ok (.goto (-28), 3) := by decide +kernel
theorem dX9_sharedBy_36 : decode cX9_sharedBy 36 = .ok (.iload_n 3, 1) := by decide +kernel
theorem dX9_sharedBy_37 : decode cX9_sharedBy 37 = .ok (.ireturn, 1) := by decide +kernel
theorem dX9_share_0 : decode cX9_share 0 = .ok (.aload_n 0, 1) := by decide +kernel
theorem dX9_share_1 : decode cX9_share 1 = .ok (.iconst 0, 1) := by decide +kernel
theorem dX9_share_2 : decode cX9_share 2 = .ok (.putfield 35, 3) := by decide +kernel
theorem dX9_share_5 : decode cX9_share 5 = .ok (.iload_n 1, 1) := by decide +kernel
theorem dX9_share_6 : decode cX9_share 6 = .ok (.invokestatic 125, 3) := by decide +kernel
theorem dX9_share_9 : decode cX9_share 9 = .ok (.ifCond .eq 11, 3) := by decide +kernel
theorem dX9_share_12 : decode cX9_share 12 = .ok (.aload_n 0, 1) := by decide +kernel
theorem dX9_share_13 : decode cX9_share 13 = .ok (.iload_n 2, 1) := by decide +kernel
theorem dX9_share_14 : decode cX9_share 14 = .ok (.invokevirtual 122, 3) := by decide +kernel
theorem dX9_share_17 : decode cX9_share 17 = .ok (.ifCond .ne 5, 3) := by decide +kernel
theorem dX9_share_20 : decode cX9_share 20 = .ok (.iconst (-1), 1) := by decide +kernel
theorem dX9_share_21 : decode cX9_share 21 = .ok (.ireturn, 1) := by decide +kernel
theorem dX9_share_22 : decode cX9_share 22 = .ok (.aload_n 0, 1) := by decide +kernel
theorem dX9_share_23 : decode cX9_share 23 = .ok (.iload_n 1, 1) := by decide +kernel
theorem dX9_share_24 : decode cX9_share 24 = .ok (.invokevirtual 94, 3) := by decide +kernel
theorem dX9_share_27 : decode cX9_share 27 = .ok (.aload_n 0, 1) := by decide +kernel
theorem dX9_share_28 : decode cX9_share 28 = .ok (.iload_n 2, 1) := by decide +kernel
theorem dX9_share_29 : decode cX9_share 29 = .ok (.aload_n 0, 1) := by decide +kernel
theorem dX9_share_30 : decode cX9_share 30 = .ok (.getfield 7, 3) := by decide +kernel
theorem dX9_share_33 : decode cX9_share 33 = .ok (.iconst 0, 1) := by decide +kernel
theorem dX9_share_34 : decode cX9_share 34 = .ok (.iaload, 1) := by decide +kernel
theorem dX9_share_35 : decode cX9_share 35 = .ok (.invokevirtual 258, 3) := by decide +kernel
theorem dX9_share_38 : decode cX9_share 38 = .ok (.ireturn, 1) := by decide +kernel
theorem dX9_shareBits_0 : decode cX9_shareBits 0 = .ok (.aload_n 0, 1) := by decide +kernel
theorem dX9_shareBits_1 : decode cX9_shareBits 1 = .ok (.iconst 0, 1) := by decide +kernel
theorem dX9_shareBits_2 : decode cX9_shareBits 2 = .ok (.putfield 35, 3) := by decide +kernel
theorem dX9_shareBits_5 : decode cX9_shareBits 5 = .ok (.iload_n 1, 1) := by decide +kernel
theorem dX9_shareBits_6 : decode cX9_shareBits 6 = .ok (.invokestatic 125, 3) := by decide +kernel
theorem dX9_shareBits_9 : decode cX9_shareBits 9 = .ok (.ifCond .eq 11, 3) := by decide +kernel
theorem dX9_shareBits_12 : decode cX9_shareBits 12 = .ok (.aload_n 0, 1) := by decide +kernel
theorem dX9_shareBits_13 : decode cX9_shareBits 13 = .ok (.iload_n 2, 1) := by decide +kernel
theorem dX9_shareBits_14 : decode cX9_shareBits 14 = .ok (.invokevirtual 122, 3) := by decide +kernel
theorem dX9_shareBits_17 : decode cX9_shareBits 17 = .ok (.ifCond .ne 5, 3) := by decide +kernel
theorem dX9_shareBits_20 : decode cX9_shareBits 20 = .ok (.iconst (-1), 1) := by decide +kernel
theorem dX9_shareBits_21 : decode cX9_shareBits 21 = .ok (.ireturn, 1) := by decide +kernel
theorem dX9_shareBits_22 : decode cX9_shareBits 22 = .ok (.aload_n 0, 1) := by decide +kernel
theorem dX9_shareBits_23 : decode cX9_shareBits 23 = .ok (.iload_n 1, 1) := by decide +kernel
theorem dX9_shareBits_24 : decode cX9_shareBits 24 = .ok (.invokevirtual 94, 3) := by decide +kernel
theorem dX9_shareBits_27 : decode cX9_shareBits 27 = .ok (.aload_n 0, 1) := by decide +kernel
theorem dX9_shareBits_28 : decode cX9_shareBits 28 = .ok (.iload_n 2, 1) := by decide +kernel
theorem dX9_shareBits_29 : decode cX9_shareBits 29 = .ok (.aload_n 0, 1) := by decide +kernel
theorem dX9_shareBits_30 : decode cX9_shareBits 30 = .ok (.getfield 7, 3) := by decide +kernel
theorem dX9_shareBits_33 : decode cX9_shareBits 33 = .ok (.iconst 0, 1) := by decide +kernel
theorem dX9_shareBits_34 : decode cX9_shareBits 34 = .ok (.iaload, 1) := by decide +kernel
theorem dX9_shareBits_35 : decode cX9_shareBits 35 = .ok (.invokevirtual 258, 3) := by decide +kernel
theorem dX9_shareBits_38 : decode cX9_shareBits 38 = .ok (.i2f, 1) := by decide +kernel
theorem dX9_shareBits_39 : decode cX9_shareBits 39 = .ok (.aload_n 0, 1) := by decide +kernel
theorem dX9_shareBits_40 : decode cX9_shareBits 40 = .ok (.getfield 7, 3) := by decide +kernel
theorem dX9_shareBits_43 : decode cX9_shareBits 43 = .ok (.iconst 0, 1) := by decide +kernel
theorem dX9_shareBits_44 : decode cX9_shareBits 44 = .ok (.iaload, 1) := by decide +kernel
theorem dX9_shareBits_45 : decode cX9_shareBits 45 = .ok (.i2f, 1) := by decide +kernel
theorem dX9_shareBits_46 : decode cX9_shareBits 46 = .ok (.fdiv, 1) := by decide +kernel
theorem dX9_shareBits_47 : decode cX9_shareBits 47 = .ok (.fstore_n 3, 1) := by decide +kernel
theorem dX9_shareBits_48 : decode cX9_shareBits 48 = .ok (.fload_n 3, 1) := by decide +kernel
theorem dX9_shareBits_49 : decode cX9_shareBits 49 = .ok (.invokestatic 261, 3) := by decide +kernel
theorem dX9_shareBits_52 : decode cX9_shareBits 52 = .ok (.ireturn, 1) := by decide +kernel
theorem dX9_unevenBy_0 : decode cX9_unevenBy 0 = .ok (.aload_n 0, 1) := by decide +kernel
theorem dX9_unevenBy_1 : decode cX9_unevenBy 1 = .ok (.iload_n 1, 1) := by decide +kernel
theorem dX9_unevenBy_2 : decode cX9_unevenBy 2 = .ok (.invokevirtual 71, 3) := by decide +kernel
theorem dX9_unevenBy_5 : decode cX9_unevenBy 5 = .ok (.iconst 0, 1) := by decide +kernel
theorem dX9_unevenBy_6 : decode cX9_unevenBy 6 = .ok (.istore_n 2, 1) := by decide +kernel
theorem dX9_unevenBy_7 : decode cX9_unevenBy 7 = .ok (.iconst 0, 1) := by decide +kernel
theorem dX9_unevenBy_8 : decode cX9_unevenBy 8 = .ok (.istore_n 3, 1) := by decide +kernel
theorem dX9_unevenBy_9 : decode cX9_unevenBy 9 = .ok (.iload_n 3, 1) := by decide +kernel
theorem dX9_unevenBy_10 : decode cX9_unevenBy 10 = .ok (.aload_n 0, 1) := by decide +kernel
theorem dX9_unevenBy_11 : decode cX9_unevenBy 11 = .ok (.getfield 7, 3) := by decide +kernel
theorem dX9_unevenBy_14 : decode cX9_unevenBy 14 = .ok (.iconst 1, 1) := by decide +kernel
theorem dX9_unevenBy_15 : decode cX9_unevenBy 15 = .ok (.iaload, 1) := by decide +kernel
theorem dX9_unevenBy_16 : decode cX9_unevenBy 16 = .ok (.if_icmp .ge 34, 3) := by decide +kernel
theorem dX9_unevenBy_19 : decode cX9_unevenBy 19 = .ok (.iload_n 2, 1) := by decide +kernel
theorem dX9_unevenBy_20 : decode cX9_unevenBy 20 = .ok (.aload_n 0, 1) := by decide +kernel
theorem dX9_unevenBy_21 : decode cX9_unevenBy 21 = .ok (.getfield 22, 3) := by decide +kernel
theorem dX9_unevenBy_24 : decode cX9_unevenBy 24 = .ok (.iload_n 3, 1) := by decide +kernel
theorem dX9_unevenBy_25 : decode cX9_unevenBy 25 = .ok (.baload, 1) := by decide +kernel
theorem dX9_unevenBy_26 : decode cX9_unevenBy 26 = .ok (.ifCond .eq 15, 3) := by decide +kernel
theorem dX9_unevenBy_29 : decode cX9_unevenBy 29 = .ok (.aload_n 0, 1) := by decide +kernel
theorem dX9_unevenBy_30 : decode cX9_unevenBy 30 = .ok (.getfield 7, 3) := by decide +kernel
theorem dX9_unevenBy_33 : decode cX9_unevenBy 33 = .ok (.bipush 13, 2) := by decide +kernel
theorem dX9_unevenBy_35 : decode cX9_unevenBy 35 = .ok (.iload_n 3, 1) := by decide +kernel
theorem dX9_unevenBy_36 : decode cX9_unevenBy 36 = .ok (.iadd, 1) := by decide +kernel
theorem dX9_unevenBy_37 : decode cX9_unevenBy 37 = .ok (.iaload, 1) := by decide +kernel
theorem dX9_unevenBy_38 : decode cX9_unevenBy 38 = .ok (.goto 4, 3) := by decide +kernel
theorem dX9_unevenBy_41 : decode cX9_unevenBy 41 = .ok (.iconst 0, 1) := by decide +kernel
theorem dX9_unevenBy_42 : decode cX9_unevenBy 42 = .ok (.iadd, 1) := by decide +kernel
theorem dX9_unevenBy_43 : decode cX9_unevenBy 43 = .ok (.istore_n 2, 1) := by decide +kernel
theorem dX9_unevenBy_44 : decode cX9_unevenBy 44 = .ok (.iinc 3 1, 3) := by decide +kernel
theorem dX9_unevenBy_47 : decode cX9_unevenBy 47 = .ok (.goto (-38), 3) := by decide +kernel
theorem dX9_unevenBy_50 : decode cX9_unevenBy 50 = .ok (.iconst (-1), 1) := by decide +kernel
theorem dX9_unevenBy_51 : decode cX9_unevenBy 51 = .ok (.istore_n 3, 1) := by decide +kernel
theorem dX9_unevenBy_52 : decode cX9_unevenBy 52 = .ok (.iconst 0, 1) := by decide +kernel
theorem dX9_unevenBy_53 : decode cX9_unevenBy 53 = .ok (.istore 4, 2) := by decide +kernel
theorem dX9_unevenBy_55 : decode cX9_unevenBy 55 = .ok (.iload 4, 2) := by decide +kernel
theorem dX9_unevenBy_57 : decode cX9_unevenBy 57 = .ok (.aload_n 0, 1) := by decide +kernel
theorem dX9_unevenBy_58 : decode cX9_unevenBy 58 = .ok (.getfield 7, 3) := by decide +kernel
theorem dX9_unevenBy_61 : decode cX9_unevenBy 61 = .ok (.iconst 1, 1) := by decide +kernel
theorem dX9_unevenBy_62 : decode cX9_unevenBy 62 = .ok (.iaload, 1) := by decide +kernel
theorem dX9_unevenBy_63 : decode cX9_unevenBy 63 = .ok (.if_icmp .ge 71, 3) := by decide +kernel
theorem dX9_unevenBy_66 : decode cX9_unevenBy 66 = .ok (.iload_n 1, 1) := by decide +kernel
theorem dX9_unevenBy_67 : decode cX9_unevenBy 67 = .ok (.aload_n 0, 1) := by decide +kernel
theorem dX9_unevenBy_68 : decode cX9_unevenBy 68 = .ok (.getfield 7, 3) := by decide +kernel
theorem dX9_unevenBy_71 : decode cX9_unevenBy 71 = .ok (.bipush 13, 2) := by decide +kernel
theorem dX9_unevenBy_73 : decode cX9_unevenBy 73 = .ok (.iload 4, 2) := by decide +kernel
theorem dX9_unevenBy_75 : decode cX9_unevenBy 75 = .ok (.iadd, 1) := by decide +kernel
theorem dX9_unevenBy_76 : decode cX9_unevenBy 76 = .ok (.iaload, 1) := by decide +kernel
theorem dX9_unevenBy_77 : decode cX9_unevenBy 77 = .ok (.imul, 1) := by decide +kernel
theorem dX9_unevenBy_78 : decode cX9_unevenBy 78 = .ok (.aload_n 0, 1) := by decide +kernel
theorem dX9_unevenBy_79 : decode cX9_unevenBy 79 = .ok (.iload 4, 2) := by decide +kernel
theorem dX9_unevenBy_81 : decode cX9_unevenBy 81 = .ok (.iload_n 1, 1) := by decide +kernel
theorem dX9_unevenBy_82 : decode cX9_unevenBy 82 = .ok (.invokevirtual 258, 3) := by decide +kernel
theorem dX9_unevenBy_85 : decode cX9_unevenBy 85 = .ok (.iload_n 2, 1) := by decide +kernel
theorem dX9_unevenBy_86 : decode cX9_unevenBy 86 = .ok (.imul, 1) := by decide +kernel
theorem dX9_unevenBy_87 : decode cX9_unevenBy 87 = .ok (.isub, 1) := by decide +kernel
theorem dX9_unevenBy_88 : decode cX9_unevenBy 88 = .ok (.istore 5, 2) := by decide +kernel
theorem dX9_unevenBy_90 : decode cX9_unevenBy 90 = .ok (.iload 5, 2) := by decide +kernel
theorem dX9_unevenBy_92 : decode cX9_unevenBy 92 = .ok (.ifCond .ge 9, 3) := by decide +kernel
theorem dX9_unevenBy_95 : decode cX9_unevenBy 95 = .ok (.iload 5, 2) := by decide +kernel
theorem dX9_unevenBy_97 : decode cX9_unevenBy 97 = .ok (.ineg, 1) := by decide +kernel
theorem dX9_unevenBy_98 : decode cX9_unevenBy 98 = .ok (.goto 5, 3) := by decide +kernel
theorem dX9_unevenBy_101 : decode cX9_unevenBy 101 = .ok (.iload 5, 2) := by decide +kernel
theorem dX9_unevenBy_103 : decode cX9_unevenBy 103 = .ok (.istore 5, 2) := by decide +kernel
theorem dX9_unevenBy_105 : decode cX9_unevenBy 105 = .ok (.aload_n 0, 1) := by decide +kernel
theorem dX9_unevenBy_106 : decode cX9_unevenBy 106 = .ok (.getfield 22, 3) := by decide +kernel
theorem dX9_unevenBy_109 : decode cX9_unevenBy 109 = .ok (.iload 4, 2) := by decide +kernel
theorem dX9_unevenBy_111 : decode cX9_unevenBy 111 = .ok (.baload, 1) := by decide +kernel
theorem dX9_unevenBy_112 : decode cX9_unevenBy 112 = .ok (.ifCond .eq 14, 3) := by decide +kernel
theorem dX9_unevenBy_115 : decode cX9_unevenBy 115 = .ok (.iload 5, 2) := by decide +kernel
theorem dX9_unevenBy_117 : decode cX9_unevenBy 117 = .ok (.iload_n 3, 1) := by decide +kernel
theorem dX9_unevenBy_118 : decode cX9_unevenBy 118 = .ok (.if_icmp .le 8, 3) := by decide +kernel
theorem dX9_unevenBy_121 : decode cX9_unevenBy 121 = .ok (.iload 5, 2) := by decide +kernel
theorem dX9_unevenBy_123 : decode cX9_unevenBy 123 = .ok (.goto 4, 3) := by decide +kernel
theorem dX9_unevenBy_126 : decode cX9_unevenBy 126 = .ok (.iload_n 3, 1) := by decide +kernel
theorem dX9_unevenBy_127 : decode cX9_unevenBy 127 = .ok (.istore_n 3, 1) := by decide +kernel
theorem dX9_unevenBy_128 : decode cX9_unevenBy 128 = .ok (.iinc 4 1, 3) := by decide +kernel
theorem dX9_unevenBy_131 : decode cX9_unevenBy 131 = .ok (.goto (-76), 3) := by decide +kernel
theorem dX9_unevenBy_134 : decode cX9_unevenBy 134 = .ok (.iload_n 3, 1) := by decide +kernel
theorem dX9_unevenBy_135 : decode cX9_unevenBy 135 = .ok (.ireturn, 1) := by decide +kernel
theorem dX9_uneven_0 : decode cX9_uneven 0 = .ok (.aload_n 0, 1) := by decide +kernel
theorem dX9_uneven_1 : decode cX9_uneven 1 = .ok (.iconst 0, 1) := by decide +kernel
theorem dX9_uneven_2 : decode cX9_uneven 2 = .ok (.putfield 35, 3) := by decide +kernel
theorem dX9_uneven_5 : decode cX9_uneven 5 = .ok (.iload_n 1, 1) := by decide +kernel
theorem dX9_uneven_6 : decode cX9_uneven 6 = .ok (.invokestatic 125, 3) := by decide +kernel
theorem dX9_uneven_9 : decode cX9_uneven 9 = .ok (.ifCond .ne 5, 3) := by decide +kernel
theorem dX9_uneven_12 : decode cX9_uneven 12 = .ok (.iconst (-1), 1) := by decide +kernel
theorem dX9_uneven_13 : decode cX9_uneven 13 = .ok (.ireturn, 1) := by decide +kernel
theorem dX9_uneven_14 : decode cX9_uneven 14 = .ok (.aload_n 0, 1) := by decide +kernel
theorem dX9_uneven_15 : decode cX9_uneven 15 = .ok (.iload_n 1, 1) := by decide +kernel
theorem dX9_uneven_16 : decode cX9_uneven 16 = .ok (.invokevirtual 67, 3) := by decide +kernel
theorem dX9_uneven_19 : decode cX9_uneven 19 = .ok (.aload_n 0, 1) := by decide +kernel
theorem dX9_uneven_20 : decode cX9_uneven 20 = .ok (.aload_n 0, 1) := by decide +kernel
theorem dX9_uneven_21 : decode cX9_uneven 21 = .ok (.getfield 7, 3) := by decide +kernel
theorem dX9_uneven_24 : decode cX9_uneven 24 = .ok (.iconst 0, 1) := by decide +kernel
theorem dX9_uneven_25 : decode cX9_uneven 25 = .ok (.iaload, 1) := by decide +kernel
theorem dX9_uneven_26 : decode cX9_uneven 26 = .ok (.invokevirtual 267, 3) := by decide +kernel
theorem dX9_uneven_29 : decode cX9_uneven 29 = .ok (.ireturn, 1) := by decide +kernel
theorem dX9_evenest_0 : decode cX9_evenest 0 = .ok (.aload_n 0, 1) := by decide +kernel
theorem dX9_evenest_1 : decode cX9_evenest 1 = .ok (.iconst 0, 1) := by decide +kernel
theorem dX9_evenest_2 : decode cX9_evenest 2 = .ok (.putfield 35, 3) := by decide +kernel
theorem dX9_evenest_5 : decode cX9_evenest 5 = .ok (.iload_n 1, 1) := by decide +kernel
theorem dX9_evenest_6 : decode cX9_evenest 6 = .ok (.invokestatic 125, 3) := by decide +kernel
theorem dX9_evenest_9 : decode cX9_evenest 9 = .ok (.ifCond .ne 5, 3) := by decide +kernel
theorem dX9_evenest_12 : decode cX9_evenest 12 = .ok (.iconst (-1), 1) := by decide +kernel
theorem dX9_evenest_13 : decode cX9_evenest 13 = .ok (.ireturn, 1) := by decide +kernel
theorem dX9_evenest_14 : decode cX9_evenest 14 = .ok (.aload_n 0, 1) := by decide +kernel
theorem dX9_evenest_15 : decode cX9_evenest 15 = .ok (.iload_n 1, 1) := by decide +kernel
theorem dX9_evenest_16 : decode cX9_evenest 16 = .ok (.invokevirtual 67, 3) := by decide +kernel
theorem dX9_evenest_19 : decode cX9_evenest 19 = .ok (.iconst (-1), 1) := by decide +kernel
theorem dX9_evenest_20 : decode cX9_evenest 20 = .ok (.istore_n 2, 1) := by decide +kernel
theorem dX9_evenest_21 : decode cX9_evenest 21 = .ok (.iconst 0, 1) := by decide +kernel
theorem dX9_evenest_22 : decode cX9_evenest 22 = .ok (.istore_n 3, 1) := by decide +kernel
theorem dX9_evenest_23 : decode cX9_evenest 23 = .ok (.iconst 3, 1) := by decide +kernel
theorem dX9_evenest_24 : decode cX9_evenest 24 = .ok (.istore 4, 2) := by decide +kernel
theorem dX9_evenest_26 : decode cX9_evenest 26 = .ok (.iload 4, 2) := by decide +kernel
theorem dX9_evenest_28 : decode cX9_evenest 28 = .ok (.bipush 97, 2) := by decide +kernel
theorem dX9_evenest_30 : decode cX9_evenest 30 = .ok (.if_icmp .gt 57, 3) := by decide +kernel
theorem dX9_evenest_33 : decode cX9_evenest 33 = .ok (.aload_n 0, 1) := by decide +kernel
theorem dX9_evenest_34 : decode cX9_evenest 34 = .ok (.invokevirtual 59, 3) := by decide +kernel
theorem dX9_evenest_37 : decode cX9_evenest 37 = .ok (.ifCond .le 50, 3) := by decide +kernel
theorem dX9_evenest_40 : decode cX9_evenest 40 = .ok (.iload 4, 2) := by decide +kernel
theorem dX9_evenest_42 : decode cX9_evenest 42 = .ok (.invokestatic 109, 3) := by decide +kernel
theorem dX9_evenest_45 : decode cX9_evenest 45 = .ok (.ifCond .ne 6, 3) := by decide +kernel
theorem dX9_evenest_48 : decode cX9_evenest 48 = .ok (.goto 33, 3) := by decide +kernel
theorem dX9_evenest_51 : decode cX9_evenest 51 = .ok (.aload_n 0, 1) := by decide +kernel
theorem dX9_evenest_52 : decode cX9_evenest 52 = .ok (.iload 4, 2) := by decide +kernel
theorem dX9_evenest_54 : decode cX9_evenest 54 = .ok (.invokevirtual 267, 3) := by decide +kernel
theorem dX9_evenest_57 : decode cX9_evenest 57 = .ok (.istore 5, 2) := by decide +kernel
theorem dX9_evenest_59 : decode cX9_evenest 59 = .ok (.iload_n 2, 1) := by decide +kernel
theorem dX9_evenest_60 : decode cX9_evenest 60 = .ok (.iconst (-1), 1) := by decide +kernel
theorem dX9_evenest_61 : decode cX9_evenest 61 = .ok (.if_icmp .eq 14, 3) := by decide +kernel
theorem dX9_evenest_64 : decode cX9_evenest 64 = .ok (.iload 5, 2) := by decide +kernel
theorem dX9_evenest_66 : decode cX9_evenest 66 = .ok (.iload_n 2, 1) := by decide +kernel
theorem dX9_evenest_67 : decode cX9_evenest 67 = .ok (.imul, 1) := by decide +kernel
theorem dX9_evenest_68 : decode cX9_evenest 68 = .ok (.iload_n 3, 1) := by decide +kernel
theorem dX9_evenest_69 : decode cX9_evenest 69 = .ok (.iload 4, 2) := by decide +kernel
theorem dX9_evenest_71 : decode cX9_evenest 71 = .ok (.imul, 1) := by decide +kernel
theorem dX9_evenest_72 : decode cX9_evenest 72 = .ok (.if_icmp .ge 9, 3) := by decide +kernel
theorem dX9_evenest_75 : decode cX9_evenest 75 = .ok (.iload 4, 2) := by decide +kernel
theorem dX9_evenest_77 : decode cX9_evenest 77 = .ok (.istore_n 2, 1) := by decide +kernel
theorem dX9_evenest_78 : decode cX9_evenest 78 = .ok (.iload 5, 2) := by decide +kernel
theorem dX9_evenest_80 : decode cX9_evenest 80 = .ok (.istore_n 3, 1) := by decide +kernel
theorem dX9_evenest_81 : decode cX9_evenest 81 = .ok (.iinc 4 1, 3) := by decide +kernel
theorem dX9_evenest_84 : decode cX9_evenest 84 = .ok (.goto (-58), 3) := by decide +kernel
theorem dX9_evenest_87 : decode cX9_evenest 87 = .ok (.iload_n 2, 1) := by decide +kernel
theorem dX9_evenest_88 : decode cX9_evenest 88 = .ok (.ireturn, 1) := by decide +kernel
theorem dX9_changed_0 : decode cX9_changed 0 = .ok (.aload_n 0, 1) := by decide +kernel
theorem dX9_changed_1 : decode cX9_changed 1 = .ok (.iconst 0, 1) := by decide +kernel
theorem dX9_changed_2 : decode cX9_changed 2 = .ok (.putfield 35, 3) := by decide +kernel
theorem dX9_changed_5 : decode cX9_changed 5 = .ok (.iload_n 1, 1) := by decide +kernel
theorem dX9_changed_6 : decode cX9_changed 6 = .ok (.invokestatic 125, 3) := by decide +kernel
theorem dX9_changed_9 : decode cX9_changed 9 = .ok (.ifCond .eq 16, 3) := by decide +kernel
theorem dX9_changed_12 : decode cX9_changed 12 = .ok (.aload_n 0, 1) := by decide +kernel
theorem dX9_changed_13 : decode cX9_changed 13 = .ok (.getfield 7, 3) := by decide +kernel
theorem dX9_changed_16 : decode cX9_changed 16 = .ok (.sipush 249, 3) := by decide +kernel
theorem dX9_changed_19 : decode cX9_changed 19 = .ok (.iload_n 1, 1) := by decide +kernel
theorem dX9_changed_20 : decode cX9_changed 20 = .ok (.iadd, 1) := by decide +kernel
theorem dX9_changed_21 : decode cX9_changed 21 = .ok (.iaload, 1) := by decide +kernel
theorem dX9_changed_22 : decode cX9_changed 22 = .ok (.ifCond .ne 5, 3) := by decide +kernel
theorem dX9_changed_25 : decode cX9_changed 25 = .ok (.iconst (-1), 1) := by decide +kernel
theorem dX9_changed_26 : decode cX9_changed 26 = .ok (.ireturn, 1) := by decide +kernel
theorem dX9_changed_27 : decode cX9_changed 27 = .ok (.iload_n 2, 1) := by decide +kernel
theorem dX9_changed_28 : decode cX9_changed 28 = .ok (.bipush 10, 2) := by decide +kernel
theorem dX9_changed_30 : decode cX9_changed 30 = .ok (.bipush 9, 2) := by decide +kernel
theorem dX9_changed_32 : decode cX9_changed 32 = .ok (.aload_n 0, 1) := by decide +kernel
theorem dX9_changed_33 : decode cX9_changed 33 = .ok (.getfield 7, 3) := by decide +kernel
theorem dX9_changed_36 : decode cX9_changed 36 = .ok (.iconst 0, 1) := by decide +kernel
theorem dX9_changed_37 : decode cX9_changed 37 = .ok (.iaload, 1) := by decide +kernel
theorem dX9_changed_38 : decode cX9_changed 38 = .ok (.iadd, 1) := by decide +kernel
theorem dX9_changed_39 : decode cX9_changed 39 = .ok (.invokestatic 39, 3) := by decide +kernel
theorem dX9_changed_42 : decode cX9_changed 42 = .ok (.ifCond .eq 22, 3) := by decide +kernel
theorem dX9_changed_45 : decode cX9_changed 45 = .ok (.aload_n 0, 1) := by decide +kernel
theorem dX9_changed_46 : decode cX9_changed 46 = .ok (.getfield 7, 3) := by decide +kernel
theorem dX9_changed_49 : decode cX9_changed 49 = .ok (.sipush 253, 3) := by decide +kernel
theorem dX9_changed_52 : decode cX9_changed 52 = .ok (.bipush 97, 2) := by decide +kernel
theorem dX9_changed_54 : decode cX9_changed 54 = .ok (.iload_n 1, 1) := by decide +kernel
theorem dX9_changed_55 : decode cX9_changed 55 = .ok (.imul, 1) := by decide +kernel
theorem dX9_changed_56 : decode cX9_changed 56 = .ok (.iadd, 1) := by decide +kernel
theorem dX9_changed_57 : decode cX9_changed 57 = .ok (.iload_n 2, 1) := by decide +kernel
theorem dX9_changed_58 : decode cX9_changed 58 = .ok (.iadd, 1) := by decide +kernel
theorem dX9_changed_59 : decode cX9_changed 59 = .ok (.bipush 10, 2) := by decide +kernel
theorem dX9_changed_61 : decode cX9_changed 61 = .ok (.isub, 1) := by decide +kernel
theorem dX9_changed_62 : decode cX9_changed 62 = .ok (.iaload, 1) := by decide +kernel
theorem dX9_changed_63 : decode cX9_changed 63 = .ok (.ireturn, 1) := by decide +kernel
theorem dX9_changed_64 : decode cX9_changed 64 = .ok (.iload_n 2, 1) := by decide +kernel
theorem dX9_changed_65 : decode cX9_changed 65 = .ok (.iconst 0, 1) := by decide +kernel
theorem dX9_changed_66 : decode cX9_changed 66 = .ok (.iconst 1, 1) := by decide +kernel
theorem dX9_changed_67 : decode cX9_changed 67 = .ok (.invokestatic 39, 3) := by decide +kernel
theorem dX9_changed_70 : decode cX9_changed 70 = .ok (.ifCond .ne 5, 3) := by decide +kernel
theorem dX9_changed_73 : decode cX9_changed 73 = .ok (.iconst (-1), 1) := by decide +kernel
theorem dX9_changed_74 : decode cX9_changed 74 = .ok (.ireturn, 1) := by decide +kernel
theorem dX9_changed_75 : decode cX9_changed 75 = .ok (.aload_n 0, 1) := by decide +kernel
theorem dX9_changed_76 : decode cX9_changed 76 = .ok (.iload_n 1, 1) := by decide +kernel
theorem dX9_changed_77 : decode cX9_changed 77 = .ok (.invokevirtual 94, 3) := by decide +kernel
theorem dX9_changed_80 : decode cX9_changed 80 = .ok (.iconst 0, 1) := by decide +kernel
theorem dX9_changed_81 : decode cX9_changed 81 = .ok (.istore_n 3, 1) := by decide +kernel
theorem dX9_changed_82 : decode cX9_changed 82 = .ok (.iconst 0, 1) := by decide +kernel
theorem dX9_changed_83 : decode cX9_changed 83 = .ok (.istore 4, 2) := by decide +kernel
theorem dX9_changed_85 : decode cX9_changed 85 = .ok (.iload 4, 2) := by decide +kernel
theorem dX9_changed_87 : decode cX9_changed 87 = .ok (.aload_n 0, 1) := by decide +kernel
theorem dX9_changed_88 : decode cX9_changed 88 = .ok (.getfield 7, 3) := by decide +kernel
theorem dX9_changed_91 : decode cX9_changed 91 = .ok (.iconst 0, 1) := by decide +kernel
theorem dX9_changed_92 : decode cX9_changed 92 = .ok (.iaload, 1) := by decide +kernel
theorem dX9_changed_93 : decode cX9_changed 93 = .ok (.if_icmp .ge 67, 3) := by decide +kernel
theorem dX9_changed_96 : decode cX9_changed 96 = .ok (.aload_n 0, 1) := by decide +kernel
theorem dX9_changed_97 : decode cX9_changed 97 = .ok (.getfield 7, 3) := by decide +kernel
theorem dX9_changed_100 : decode cX9_changed 100 = .ok (.sipush 253, 3) := by decide +kernel
theorem dX9_changed_103 : decode cX9_changed 103 = .ok (.bipush 97, 2) := by decide +kernel
theorem dX9_changed_105 : decode cX9_changed 105 = .ok (.iload_n 1, 1) := by decide +kernel
theorem dX9_changed_106 : decode cX9_changed 106 = .ok (.imul, 1) := by decide +kernel
theorem dX9_changed_107 : decode cX9_changed 107 = .ok (.iadd, 1) := by decide +kernel
theorem dX9_changed_108 : decode cX9_changed 108 = .ok (.iload 4, 2) := by decide +kernel
theorem dX9_changed_110 : decode cX9_changed 110 = .ok (.iadd, 1) := by decide +kernel
theorem dX9_changed_111 : decode cX9_changed 111 = .ok (.iaload, 1) := by decide +kernel
theorem dX9_changed_112 : decode cX9_changed 112 = .ok (.istore 5, 2) := by decide +kernel
theorem dX9_changed_114 : decode cX9_changed 114 = .ok (.iload_n 3, 1) := by decide +kernel
theorem dX9_changed_115 : decode cX9_changed 115 = .ok (.iload 5, 2) := by decide +kernel
theorem dX9_changed_117 : decode cX9_changed 117 = .ok (.aload_n 0, 1) := by decide +kernel
theorem dX9_changed_118 : decode cX9_changed 118 = .ok (.getfield 16, 3) := by decide +kernel
theorem dX9_changed_121 : decode cX9_changed 121 = .ok (.iload 4, 2) := by decide +kernel
theorem dX9_changed_123 : decode cX9_changed 123 = .ok (.iaload, 1) := by decide +kernel
theorem dX9_changed_124 : decode cX9_changed 124 = .ok (.if_icmp .eq 27, 3) := by decide +kernel
theorem dX9_changed_127 : decode cX9_changed 127 = .ok (.iload_n 2, 1) := by decide +kernel
theorem dX9_changed_128 : decode cX9_changed 128 = .ok (.ifCond .eq 19, 3) := by decide +kernel
theorem dX9_changed_131 : decode cX9_changed 131 = .ok (.iload 5, 2) := by decide +kernel
theorem dX9_changed_133 : decode cX9_changed 133 = .ok (.iconst (-1), 1) := by decide +kernel
theorem dX9_changed_134 : decode cX9_changed 134 = .ok (.if_icmp .eq 17, 3) := by decide +kernel
theorem dX9_changed_137 : decode cX9_changed 137 = .ok (.aload_n 0, 1) := by decide +kernel
theorem dX9_changed_138 : decode cX9_changed 138 = .ok (.getfield 22, 3) := by decide +kernel
theorem dX9_changed_141 : decode cX9_changed 141 = .ok (.iload 5, 2) := by decide +kernel
theorem dX9_changed_143 : decode cX9_changed 143 = .ok (.baload, 1) := by decide +kernel
theorem dX9_changed_144 : decode cX9_changed 144 = .ok (.ifCond .eq 7, 3) := by decide +kernel
theorem dX9_changed_147 : decode cX9_changed 147 = .ok (.iconst 1, 1) := by decide +kernel
theorem dX9_changed_148 : decode cX9_changed 148 = .ok (.goto 4, 3) := by decide +kernel
theorem dX9_changed_151 : decode cX9_changed 151 = .ok (.iconst 0, 1) := by decide +kernel
theorem dX9_changed_152 : decode cX9_changed 152 = .ok (.iadd, 1) := by decide +kernel
theorem dX9_changed_153 : decode cX9_changed 153 = .ok (.istore_n 3, 1) := by decide +kernel
theorem dX9_changed_154 : decode cX9_changed 154 = .ok (.iinc 4 1, 3) := by decide +kernel
theorem dX9_changed_157 : decode cX9_changed 157 = .ok (.goto (-72), 3) := by decide +kernel
theorem dX9_changed_160 : decode cX9_changed 160 = .ok (.iload_n 3, 1) := by decide +kernel
theorem dX9_changed_161 : decode cX9_changed 161 = .ok (.ireturn, 1) := by decide +kernel
theorem dX9_alike_0 : decode cX9_alike 0 = .ok (.aload_n 0, 1) := by decide +kernel
theorem dX9_alike_1 : decode cX9_alike 1 = .ok (.iconst 0, 1) := by decide +kernel
theorem dX9_alike_2 : decode cX9_alike 2 = .ok (.putfield 35, 3) := by decide +kernel
theorem dX9_alike_5 : decode cX9_alike 5 = .ok (.iload_n 1, 1) := by decide +kernel
theorem dX9_alike_6 : decode cX9_alike 6 = .ok (.invokestatic 125, 3) := by decide +kernel
theorem dX9_alike_9 : decode cX9_alike 9 = .ok (.ifCond .eq 10, 3) := by decide +kernel
theorem dX9_alike_12 : decode cX9_alike 12 = .ok (.iload_n 2, 1) := by decide +kernel
theorem dX9_alike_13 : decode cX9_alike 13 = .ok (.invokestatic 125, 3) := by decide +kernel
theorem dX9_alike_16 : decode cX9_alike 16 = .ok (.ifCond .ne 5, 3) := by decide +kernel
theorem dX9_alike_19 : decode cX9_alike 19 = .ok (.iconst (-1), 1) := by decide +kernel
theorem dX9_alike_20 : decode cX9_alike 20 = .ok (.ireturn, 1) := by decide +kernel
theorem dX9_alike_21 : decode cX9_alike 21 = .ok (.aload_n 0, 1) := by decide +kernel
theorem dX9_alike_22 : decode cX9_alike 22 = .ok (.iload_n 1, 1) := by decide +kernel
theorem dX9_alike_23 : decode cX9_alike 23 = .ok (.invokevirtual 94, 3) := by decide +kernel
theorem dX9_alike_26 : decode cX9_alike 26 = .ok (.aload_n 0, 1) := by decide +kernel
theorem dX9_alike_27 : decode cX9_alike 27 = .ok (.invokevirtual 270, 3) := by decide +kernel
theorem dX9_alike_30 : decode cX9_alike 30 = .ok (.aload_n 0, 1) := by decide +kernel
theorem dX9_alike_31 : decode cX9_alike 31 = .ok (.iload_n 2, 1) := by decide +kernel
theorem dX9_alike_32 : decode cX9_alike 32 = .ok (.invokevirtual 94, 3) := by decide +kernel
theorem dX9_alike_35 : decode cX9_alike 35 = .ok (.iconst 0, 1) := by decide +kernel
theorem dX9_alike_36 : decode cX9_alike 36 = .ok (.istore_n 3, 1) := by decide +kernel
theorem dX9_alike_37 : decode cX9_alike 37 = .ok (.iconst 0, 1) := by decide +kernel
theorem dX9_alike_38 : decode cX9_alike 38 = .ok (.istore 4, 2) := by decide +kernel
theorem dX9_alike_40 : decode cX9_alike 40 = .ok (.iload 4, 2) := by decide +kernel
theorem dX9_alike_42 : decode cX9_alike 42 = .ok (.aload_n 0, 1) := by decide +kernel
theorem dX9_alike_43 : decode cX9_alike 43 = .ok (.getfield 7, 3) := by decide +kernel
theorem dX9_alike_46 : decode cX9_alike 46 = .ok (.iconst 0, 1) := by decide +kernel
theorem dX9_alike_47 : decode cX9_alike 47 = .ok (.iaload, 1) := by decide +kernel
theorem dX9_alike_48 : decode cX9_alike 48 = .ok (.if_icmp .ge 34, 3) := by decide +kernel
theorem dX9_alike_51 : decode cX9_alike 51 = .ok (.iload_n 3, 1) := by decide +kernel
theorem dX9_alike_52 : decode cX9_alike 52 = .ok (.aload_n 0, 1) := by decide +kernel
theorem dX9_alike_53 : decode cX9_alike 53 = .ok (.getfield 16, 3) := by decide +kernel
theorem dX9_alike_56 : decode cX9_alike 56 = .ok (.iload 4, 2) := by decide +kernel
theorem dX9_alike_58 : decode cX9_alike 58 = .ok (.iaload, 1) := by decide +kernel
theorem dX9_alike_59 : decode cX9_alike 59 = .ok (.aload_n 0, 1) := by decide +kernel
theorem dX9_alike_60 : decode cX9_alike 60 = .ok (.getfield 19, 3) := by decide +kernel
theorem dX9_alike_63 : decode cX9_alike 63 = .ok (.iload 4, 2) := by decide +kernel
theorem dX9_alike_65 : decode cX9_alike 65 = .ok (.iaload, 1) := by decide +kernel
theorem dX9_alike_66 : decode cX9_alike 66 = .ok (.if_icmp .ne 7, 3) := by decide +kernel
theorem dX9_alike_69 : decode cX9_alike 69 = .ok (.iconst 1, 1) := by decide +kernel
theorem dX9_alike_70 : decode cX9_alike 70 = .ok (.goto 4, 3) := by decide +kernel
theorem dX9_alike_73 : decode cX9_alike 73 = .ok (.iconst 0, 1) := by decide +kernel
theorem dX9_alike_74 : decode cX9_alike 74 = .ok (.iadd, 1) := by decide +kernel
theorem dX9_alike_75 : decode cX9_alike 75 = .ok (.istore_n 3, 1) := by decide +kernel
theorem dX9_alike_76 : decode cX9_alike 76 = .ok (.iinc 4 1, 3) := by decide +kernel
theorem dX9_alike_79 : decode cX9_alike 79 = .ok (.goto (-39), 3) := by decide +kernel
theorem dX9_alike_82 : decode cX9_alike 82 = .ok (.iload_n 3, 1) := by decide +kernel
theorem dX9_alike_83 : decode cX9_alike 83 = .ok (.ireturn, 1) := by decide +kernel
theorem dX9_wereBy_0 : decode cX9_wereBy 0 = .ok (.aload_n 0, 1) := by decide +kernel
theorem dX9_wereBy_1 : decode cX9_wereBy 1 = .ok (.iload_n 1, 1) := by decide +kernel
theorem dX9_wereBy_2 : decode cX9_wereBy 2 = .ok (.invokevirtual 94, 3) := by decide +kernel
theorem dX9_wereBy_5 : decode cX9_wereBy 5 = .ok (.aload_n 0, 1) := by decide +kernel
theorem dX9_wereBy_6 : decode cX9_wereBy 6 = .ok (.invokevirtual 270, 3) := by decide +kernel
theorem dX9_wereBy_9 : decode cX9_wereBy 9 = .ok (.aload_n 0, 1) := by decide +kernel
theorem dX9_wereBy_10 : decode cX9_wereBy 10 = .ok (.getfield 22, 3) := by decide +kernel
theorem dX9_wereBy_13 : decode cX9_wereBy 13 = .ok (.iload_n 2, 1) := by decide +kernel
theorem dX9_wereBy_14 : decode cX9_wereBy 14 = .ok (.iload_n 3, 1) := by decide +kernel
theorem dX9_wereBy_15 : decode cX9_wereBy 15 = .ok (.iconst 1, 1) := by decide +kernel
theorem dX9_wereBy_16 : decode cX9_wereBy 16 = .ok (.if_icmp .ne 7, 3) := by decide +kernel
theorem dX9_wereBy_19 : decode cX9_wereBy 19 = .ok (.iconst 1, 1) := by decide +kernel
theorem dX9_wereBy_20 : decode cX9_wereBy 20 = .ok (.goto 4, 3) := by decide +kernel
theorem dX9_wereBy_23 : decode cX9_wereBy 23 = .ok (.iconst 0, 1) := by decide +kernel
theorem dX9_wereBy_24 : decode cX9_wereBy 24 = .ok (.bastore, 1) := by decide +kernel
theorem dX9_wereBy_25 : decode cX9_wereBy 25 = .ok (.aload_n 0, 1) := by decide +kernel
theorem dX9_wereBy_26 : decode cX9_wereBy 26 = .ok (.aload_n 0, 1) := by decide +kernel
theorem dX9_wereBy_27 : decode cX9_wereBy 27 = .ok (.getfield 7, 3) := by decide +kernel
theorem dX9_wereBy_30 : decode cX9_wereBy 30 = .ok (.iconst 0, 1) := by decide +kernel
theorem dX9_wereBy_31 : decode cX9_wereBy 31 = .ok (.iaload, 1) := by decide +kernel
theorem dX9_wereBy_32 : decode cX9_wereBy 32 = .ok (.invokevirtual 71, 3) := by decide +kernel
theorem dX9_wereBy_35 : decode cX9_wereBy 35 = .ok (.iconst 0, 1) := by decide +kernel
theorem dX9_wereBy_36 : decode cX9_wereBy 36 = .ok (.istore 5, 2) := by decide +kernel
theorem dX9_wereBy_38 : decode cX9_wereBy 38 = .ok (.iconst 0, 1) := by decide +kernel
theorem dX9_wereBy_39 : decode cX9_wereBy 39 = .ok (.istore 6, 2) := by decide +kernel
theorem dX9_wereBy_41 : decode cX9_wereBy 41 = .ok (.iload 6, 2) := by decide +kernel
theorem dX9_wereBy_43 : decode cX9_wereBy 43 = .ok (.aload_n 0, 1) := by decide +kernel
theorem dX9_wereBy_44 : decode cX9_wereBy 44 = .ok (.getfield 7, 3) := by decide +kernel
theorem dX9_wereBy_47 : decode cX9_wereBy 47 = .ok (.iconst 0, 1) := by decide +kernel
theorem dX9_wereBy_48 : decode cX9_wereBy 48 = .ok (.iaload, 1) := by decide +kernel
theorem dX9_wereBy_49 : decode cX9_wereBy 49 = .ok (.if_icmp .ge 67, 3) := by decide +kernel
theorem dX9_wereBy_52 : decode cX9_wereBy 52 = .ok (.iload 5, 2) := by decide +kernel
theorem dX9_wereBy_54 : decode cX9_wereBy 54 = .ok (.aload_n 0, 1) := by decide +kernel
theorem dX9_wereBy_55 : decode cX9_wereBy 55 = .ok (.getfield 16, 3) := by decide +kernel
theorem dX9_wereBy_58 : decode cX9_wereBy 58 = .ok (.iload 6, 2) := by decide +kernel
theorem dX9_wereBy_60 : decode cX9_wereBy 60 = .ok (.iaload, 1) := by decide +kernel
theorem dX9_wereBy_61 : decode cX9_wereBy 61 = .ok (.aload_n 0, 1) := by decide +kernel
theorem dX9_wereBy_62 : decode cX9_wereBy 62 = .ok (.getfield 19, 3) := by decide +kernel
theorem dX9_wereBy_65 : decode cX9_wereBy 65 = .ok (.iload 6, 2) := by decide +kernel
theorem dX9_wereBy_67 : decode cX9_wereBy 67 = .ok (.iaload, 1) := by decide +kernel
theorem dX9_wereBy_68 : decode cX9_wereBy 68 = .ok (.if_icmp .eq 38, 3) := by decide +kernel
theorem dX9_wereBy_71 : decode cX9_wereBy 71 = .ok (.iload 4, 2) := by decide +kernel
theorem dX9_wereBy_73 : decode cX9_wereBy 73 = .ok (.ifCond .eq 29, 3) := by decide +kernel
theorem dX9_wereBy_76 : decode cX9_wereBy 76 = .ok (.aload_n 0, 1) := by decide +kernel
theorem dX9_wereBy_77 : decode cX9_wereBy 77 = .ok (.getfield 19, 3) := by decide +kernel
theorem dX9_wereBy_80 : decode cX9_wereBy 80 = .ok (.iload 6, 2) := by decide +kernel
theorem dX9_wereBy_82 : decode cX9_wereBy 82 = .ok (.iaload, 1) := by decide +kernel
theorem dX9_wereBy_83 : decode cX9_wereBy 83 = .ok (.iconst (-1), 1) := by decide +kernel
theorem dX9_wereBy_84 : decode cX9_wereBy 84 = .ok (.if_icmp .eq 22, 3) := by decide +kernel
theorem dX9_wereBy_87 : decode cX9_wereBy 87 = .ok (.aload_n 0, 1) := by decide +kernel
theorem dX9_wereBy_88 : decode cX9_wereBy 88 = .ok (.getfield 22, 3) := by decide +kernel
theorem dX9_wereBy_91 : decode cX9_wereBy 91 = .ok (.aload_n 0, 1) := by decide +kernel
theorem dX9_wereBy_92 : decode cX9_wereBy 92 = .ok (.getfield 19, 3) := by decide +kernel
theorem dX9_wereBy_95 : decode cX9_wereBy 95 = .ok (.iload 6, 2) := by decide +kernel
theorem dX9_wereBy_97 : decode cX9_wereBy 97 = .ok (.iaload, 1) := by decide +kernel
theorem dX9_wereBy_98 : decode cX9_wereBy 98 = .ok (.baload, 1) := by decide +kernel
theorem dX9_wereBy_99 : decode cX9_wereBy 99 = .ok (.ifCond .eq 7, 3) := by decide +kernel
theorem dX9_wereBy_102 : decode cX9_wereBy 102 = .ok (.iconst 1, 1) := by decide +kernel
theorem dX9_wereBy_103 : decode cX9_wereBy 103 = .ok (.goto 4, 3) := by decide +kernel
theorem dX9_wereBy_106 : decode cX9_wereBy 106 = .ok (.iconst 0, 1) := by decide +kernel
theorem dX9_wereBy_107 : decode cX9_wereBy 107 = .ok (.iadd, 1) := by decide +kernel
theorem dX9_wereBy_108 : decode cX9_wereBy 108 = .ok (.istore 5, 2) := by decide +kernel
theorem dX9_wereBy_110 : decode cX9_wereBy 110 = .ok (.iinc 6 1, 3) := by decide +kernel
theorem dX9_wereBy_113 : decode cX9_wereBy 113 = .ok (.goto (-72), 3) := by decide +kernel
theorem dX9_wereBy_116 : decode cX9_wereBy 116 = .ok (.iload 5, 2) := by decide +kernel
theorem dX9_wereBy_118 : decode cX9_wereBy 118 = .ok (.ireturn, 1) := by decide +kernel
theorem dX9_were_0 : decode cX9_were 0 = .ok (.aload_n 0, 1) := by decide +kernel
theorem dX9_were_1 : decode cX9_were 1 = .ok (.iconst 0, 1) := by decide +kernel
theorem dX9_were_2 : decode cX9_were 2 = .ok (.putfield 35, 3) := by decide +kernel
theorem dX9_were_5 : decode cX9_were 5 = .ok (.iload_n 1, 1) := by decide +kernel
theorem dX9_were_6 : decode cX9_were 6 = .ok (.invokestatic 125, 3) := by decide +kernel
theorem dX9_were_9 : decode cX9_were 9 = .ok (.ifCond .eq 32, 3) := by decide +kernel
theorem dX9_were_12 : decode cX9_were 12 = .ok (.aload_n 0, 1) := by decide +kernel
theorem dX9_were_13 : decode cX9_were 13 = .ok (.iload_n 2, 1) := by decide +kernel
theorem dX9_were_14 : decode cX9_were 14 = .ok (.invokevirtual 122, 3) := by decide +kernel
theorem dX9_were_17 : decode cX9_were 17 = .ok (.ifCond .eq 24, 3) := by decide +kernel
theorem dX9_were_20 : decode cX9_were 20 = .ok (.iload_n 3, 1) := by decide +kernel
theorem dX9_were_21 : decode cX9_were 21 = .ok (.iconst 0, 1) := by decide +kernel
theorem dX9_were_22 : decode cX9_were 22 = .ok (.iconst 2, 1) := by decide +kernel
theorem dX9_were_23 : decode cX9_were 23 = .ok (.invokestatic 39, 3) := by decide +kernel
theorem dX9_were_26 : decode cX9_were 26 = .ok (.ifCond .eq 15, 3) := by decide +kernel
theorem dX9_were_29 : decode cX9_were 29 = .ok (.aload_n 0, 1) := by decide +kernel
theorem dX9_were_30 : decode cX9_were 30 = .ok (.iload_n 1, 1) := by decide +kernel
theorem dX9_were_31 : decode cX9_were 31 = .ok (.iload_n 2, 1) := by decide +kernel
theorem dX9_were_32 : decode cX9_were 32 = .ok (.iload_n 3, 1) := by decide +kernel
theorem dX9_were_33 : decode cX9_were 33 = .ok (.iload 4, 2) := by decide +kernel
theorem dX9_were_35 : decode cX9_were 35 = .ok (.invokevirtual 273, 3) := by decide +kernel
theorem dX9_were_38 : decode cX9_were 38 = .ok (.goto 4, 3) := by decide +kernel
theorem dX9_were_41 : decode cX9_were 41 = .ok (.iconst (-1), 1) := by decide +kernel
theorem dX9_were_42 : decode cX9_were 42 = .ok (.ireturn, 1) := by decide +kernel
theorem dX9_roughest_0 : decode cX9_roughest 0 = .ok (.aload_n 0, 1) := by decide +kernel
theorem dX9_roughest_1 : decode cX9_roughest 1 = .ok (.iconst 0, 1) := by decide +kernel
theorem dX9_roughest_2 : decode cX9_roughest 2 = .ok (.putfield 35, 3) := by decide +kernel
theorem dX9_roughest_5 : decode cX9_roughest 5 = .ok (.iconst (-1), 1) := by decide +kernel
theorem dX9_roughest_6 : decode cX9_roughest 6 = .ok (.istore_n 2, 1) := by decide +kernel
theorem dX9_roughest_7 : decode cX9_roughest 7 = .ok (.iconst 0, 1) := by decide +kernel
theorem dX9_roughest_8 : decode cX9_roughest 8 = .ok (.istore_n 3, 1) := by decide +kernel
theorem dX9_roughest_9 : decode cX9_roughest 9 = .ok (.iconst 0, 1) := by decide +kernel
theorem dX9_roughest_10 : decode cX9_roughest 10 = .ok (.istore 4, 2) := by decide +kernel
theorem dX9_roughest_12 : decode cX9_roughest 12 = .ok (.iload 4, 2) := by decide +kernel
theorem dX9_roughest_14 : decode cX9_roughest 14 = .ok (.aload_n 0, 1) := by decide +kernel
theorem dX9_roughest_15 : decode cX9_roughest 15 = .ok (.getfield 7, 3) := by decide +kernel
theorem dX9_roughest_18 : decode cX9_roughest 18 = .ok (.iconst 1, 1) := by decide +kernel
theorem dX9_roughest_19 : decode cX9_roughest 19 = .ok (.iaload, 1) := by decide +kernel
theorem dX9_roughest_20 : decode cX9_roughest 20 = .ok (.if_icmp .ge 58, 3) := by decide +kernel
theorem dX9_roughest_23 : decode cX9_roughest 23 = .ok (.iload_n 1, 1) := by decide +kernel
theorem dX9_roughest_24 : decode cX9_roughest 24 = .ok (.invokestatic 125, 3) := by decide +kernel
theorem dX9_roughest_27 : decode cX9_roughest 27 = .ok (.ifCond .eq 51, 3) := by decide +kernel
theorem dX9_roughest_30 : decode cX9_roughest 30 = .ok (.aload_n 0, 1) := by decide +kernel
theorem dX9_roughest_31 : decode cX9_roughest 31 = .ok (.iload_n 1, 1) := by decide +kernel
theorem dX9_roughest_32 : decode cX9_roughest 32 = .ok (.iload 4, 2) := by decide +kernel
theorem dX9_roughest_34 : decode cX9_roughest 34 = .ok (.invokevirtual 50, 3) := by decide +kernel
theorem dX9_roughest_37 : decode cX9_roughest 37 = .ok (.iconst 1, 1) := by decide +kernel
theorem dX9_roughest_38 : decode cX9_roughest 38 = .ok (.if_icmp .eq 6, 3) := by decide +kernel
theorem dX9_roughest_41 : decode cX9_roughest 41 = .ok (.goto 31, 3) := by decide +kernel
theorem dX9_roughest_44 : decode cX9_roughest 44 = .ok (.aload_n 0, 1) := by decide +kernel
theorem dX9_roughest_45 : decode cX9_roughest 45 = .ok (.iload_n 1, 1) := by decide +kernel
theorem dX9_roughest_46 : decode cX9_roughest 46 = .ok (.iload 4, 2) := by decide +kernel
theorem dX9_roughest_48 : decode cX9_roughest 48 = .ok (.iconst 0, 1) := by decide +kernel
theorem dX9_roughest_49 : decode cX9_roughest 49 = .ok (.iconst 1, 1) := by decide +kernel
theorem dX9_roughest_50 : decode cX9_roughest 50 = .ok (.invokevirtual 273, 3) := by decide +kernel
theorem dX9_roughest_53 : decode cX9_roughest 53 = .ok (.istore 5, 2) := by decide +kernel
theorem dX9_roughest_55 : decode cX9_roughest 55 = .ok (.iload_n 2, 1) := by decide +kernel
theorem dX9_roughest_56 : decode cX9_roughest 56 = .ok (.iconst (-1), 1) := by decide +kernel
theorem dX9_roughest_57 : decode cX9_roughest 57 = .ok (.if_icmp .eq 9, 3) := by decide +kernel
theorem dX9_roughest_60 : decode cX9_roughest 60 = .ok (.iload 5, 2) := by decide +kernel
theorem dX9_roughest_62 : decode cX9_roughest 62 = .ok (.iload_n 3, 1) := by decide +kernel
theorem dX9_roughest_63 : decode cX9_roughest 63 = .ok (.if_icmp .le 9, 3) := by decide +kernel
theorem dX9_roughest_66 : decode cX9_roughest 66 = .ok (.iload 4, 2) := by decide +kernel
theorem dX9_roughest_68 : decode cX9_roughest 68 = .ok (.istore_n 2, 1) := by decide +kernel
theorem dX9_roughest_69 : decode cX9_roughest 69 = .ok (.iload 5, 2) := by decide +kernel
theorem dX9_roughest_71 : decode cX9_roughest 71 = .ok (.istore_n 3, 1) := by decide +kernel
theorem dX9_roughest_72 : decode cX9_roughest 72 = .ok (.iinc 4 1, 3) := by decide +kernel
theorem dX9_roughest_75 : decode cX9_roughest 75 = .ok (.goto (-63), 3) := by decide +kernel
theorem dX9_roughest_78 : decode cX9_roughest 78 = .ok (.iload_n 2, 1) := by decide +kernel
theorem dX9_roughest_79 : decode cX9_roughest 79 = .ok (.ireturn, 1) := by decide +kernel
theorem dX9_flow_0 : decode cX9_flow 0 = .ok (.aload_n 0, 1) := by decide +kernel
theorem dX9_flow_1 : decode cX9_flow 1 = .ok (.iconst 0, 1) := by decide +kernel
theorem dX9_flow_2 : decode cX9_flow 2 = .ok (.putfield 35, 3) := by decide +kernel
theorem dX9_flow_5 : decode cX9_flow 5 = .ok (.iload_n 1, 1) := by decide +kernel
theorem dX9_flow_6 : decode cX9_flow 6 = .ok (.invokestatic 142, 3) := by decide +kernel
theorem dX9_flow_9 : decode cX9_flow 9 = .ok (.ifCond .eq 11, 3) := by decide +kernel
theorem dX9_flow_12 : decode cX9_flow 12 = .ok (.aload_n 0, 1) := by decide +kernel
theorem dX9_flow_13 : decode cX9_flow 13 = .ok (.iload_n 1, 1) := by decide +kernel
theorem dX9_flow_14 : decode cX9_flow 14 = .ok (.invokevirtual 97, 3) := by decide +kernel
theorem dX9_flow_17 : decode cX9_flow 17 = .ok (.goto 4, 3) := by decide +kernel
theorem dX9_flow_20 : decode cX9_flow 20 = .ok (.iconst (-1), 1) := by decide +kernel
theorem dX9_flow_21 : decode cX9_flow 21 = .ok (.ireturn, 1) := by decide +kernel
theorem dX9_remembers_0 : decode cX9_remembers 0 = .ok (.aload_n 0, 1) := by decide +kernel
theorem dX9_remembers_1 : decode cX9_remembers 1 = .ok (.iconst 0, 1) := by decide +kernel
theorem dX9_remembers_2 : decode cX9_remembers 2 = .ok (.putfield 35, 3) := by decide +kernel
theorem dX9_remembers_5 : decode cX9_remembers 5 = .ok (.iload_n 1, 1) := by decide +kernel
theorem dX9_remembers_6 : decode cX9_remembers 6 = .ok (.invokestatic 125, 3) := by decide +kernel
theorem dX9_remembers_9 : decode cX9_remembers 9 = .ok (.ifCond .eq 19, 3) := by decide +kernel
theorem dX9_remembers_12 : decode cX9_remembers 12 = .ok (.iload_n 2, 1) := by decide +kernel
theorem dX9_remembers_13 : decode cX9_remembers 13 = .ok (.invokestatic 142, 3) := by decide +kernel
theorem dX9_remembers_16 : decode cX9_remembers 16 = .ok (.ifCond .eq 12, 3) := by decide +kernel
theorem dX9_remembers_19 : decode cX9_remembers 19 = .ok (.iload_n 3, 1) := by decide +kernel
theorem dX9_remembers_20 : decode cX9_remembers 20 = .ok (.iconst 0, 1) := by decide +kernel
theorem dX9_remembers_21 : decode cX9_remembers 21 = .ok (.iconst 1, 1) := by decide +kernel
theorem dX9_remembers_22 : decode cX9_remembers 22 = .ok (.invokestatic 39, 3) := by decide +kernel
theorem dX9_remembers_25 : decode cX9_remembers 25 = .ok (.ifCond .ne 5, 3) := by decide +kernel
theorem dX9_remembers_28 : decode cX9_remembers 28 = .ok (.iconst (-1), 1) := by decide +kernel
theorem dX9_remembers_29 : decode cX9_remembers 29 = .ok (.ireturn, 1) := by decide +kernel
theorem dX9_remembers_30 : decode cX9_remembers 30 = .ok (.aload_n 0, 1) := by decide +kernel
theorem dX9_remembers_31 : decode cX9_remembers 31 = .ok (.iload_n 1, 1) := by decide +kernel
theorem dX9_remembers_32 : decode cX9_remembers 32 = .ok (.iload_n 2, 1) := by decide +kernel
theorem dX9_remembers_33 : decode cX9_remembers 33 = .ok (.invokevirtual 91, 3) := by decide +kernel
theorem dX9_remembers_36 : decode cX9_remembers 36 = .ok (.istore 4, 2) := by decide +kernel
theorem dX9_remembers_38 : decode cX9_remembers 38 = .ok (.iload 4, 2) := by decide +kernel
theorem dX9_remembers_40 : decode cX9_remembers 40 = .ok (.iconst (-1), 1) := by decide +kernel
theorem dX9_remembers_41 : decode cX9_remembers 41 = .ok (.if_icmp .ne 7, 3) := by decide +kernel
theorem dX9_remembers_44 : decode cX9_remembers 44 = .ok (.iconst (-1), 1) := by decide +kernel
theorem dX9_remembers_45 : decode cX9_remembers 45 = .ok (.goto 24, 3) := by decide +kernel
theorem dX9_remembers_48 : decode cX9_remembers 48 = .ok (.iload_n 3, 1) := by decide +kernel
theorem dX9_remembers_49 : decode cX9_remembers 49 = .ok (.ifCond .ne 13, 3) := by decide +kernel
theorem dX9_remembers_52 : decode cX9_remembers 52 = .ok (.aload_n 0, 1) := by decide +kernel
theorem dX9_remembers_53 : decode cX9_remembers 53 = .ok (.iload_n 1, 1) := by decide +kernel
theorem dX9_remembers_54 : decode cX9_remembers 54 = .ok (.iload 4, 2) := by decide +kernel
theorem dX9_remembers_56 : decode cX9_remembers 56 = .ok (.invokevirtual 77, 3) := by decide +kernel
theorem dX9_remembers_59 : decode cX9_remembers 59 = .ok (.goto 10, 3) := by decide +kernel
theorem dX9_remembers_62 : decode cX9_remembers 62 = .ok (.aload_n 0, 1) := by decide +kernel
theorem dX9_remembers_63 : decode cX9_remembers 63 = .ok (.iload_n 1, 1) := by decide +kernel
theorem dX9_remembers_64 : decode cX9_remembers 64 = .ok (.iload 4, 2) := by decide +kernel
theorem dX9_remembers_66 : decode cX9_remembers 66 = .ok (.invokevirtual 80, 3) := by decide +kernel
theorem dX9_remembers_69 : decode cX9_remembers 69 = .ok (.ireturn, 1) := by decide +kernel
theorem dX9_flows_0 : decode cX9_flows 0 = .ok (.aload_n 0, 1) := by decide +kernel
theorem dX9_flows_1 : decode cX9_flows 1 = .ok (.iconst 0, 1) := by decide +kernel
theorem dX9_flows_2 : decode cX9_flows 2 = .ok (.putfield 35, 3) := by decide +kernel
theorem dX9_flows_5 : decode cX9_flows 5 = .ok (.iload_n 1, 1) := by decide +kernel
theorem dX9_flows_6 : decode cX9_flows 6 = .ok (.invokestatic 125, 3) := by decide +kernel
theorem dX9_flows_9 : decode cX9_flows 9 = .ok (.ifCond .eq 16, 3) := by decide +kernel
theorem dX9_flows_12 : decode cX9_flows 12 = .ok (.iload_n 2, 1) := by decide +kernel
theorem dX9_flows_13 : decode cX9_flows 13 = .ok (.iconst (-1), 1) := by decide +kernel
theorem dX9_flows_14 : decode cX9_flows 14 = .ok (.if_icmp .eq 13, 3) := by decide +kernel
theorem dX9_flows_17 : decode cX9_flows 17 = .ok (.aload_n 0, 1) := by decide +kernel
theorem dX9_flows_18 : decode cX9_flows 18 = .ok (.iload_n 2, 1) := by decide +kernel
theorem dX9_flows_19 : decode cX9_flows 19 = .ok (.invokevirtual 122, 3) := by decide +kernel
theorem dX9_flows_22 : decode cX9_flows 22 = .ok (.ifCond .ne 5, 3) := by decide +kernel
theorem dX9_flows_25 : decode cX9_flows 25 = .ok (.iconst (-1), 1) := by decide +kernel
theorem dX9_flows_26 : decode cX9_flows 26 = .ok (.ireturn, 1) := by decide +kernel
theorem dX9_flows_27 : decode cX9_flows 27 = .ok (.iconst 0, 1) := by decide +kernel
theorem dX9_flows_28 : decode cX9_flows 28 = .ok (.istore_n 3, 1) := by decide +kernel
theorem dX9_flows_29 : decode cX9_flows 29 = .ok (.iconst 0, 1) := by decide +kernel
theorem dX9_flows_30 : decode cX9_flows 30 = .ok (.istore 4, 2) := by decide +kernel
theorem dX9_flows_32 : decode cX9_flows 32 = .ok (.iload 4, 2) := by decide +kernel
theorem dX9_flows_34 : decode cX9_flows 34 = .ok (.aload_n 0, 1) := by decide +kernel
theorem dX9_flows_35 : decode cX9_flows 35 = .ok (.getfield 7, 3) := by decide +kernel
theorem dX9_flows_38 : decode cX9_flows 38 = .ok (.bipush 53, 2) := by decide +kernel
theorem dX9_flows_40 : decode cX9_flows 40 = .ok (.iload_n 1, 1) := by decide +kernel
theorem dX9_flows_41 : decode cX9_flows 41 = .ok (.iadd, 1) := by decide +kernel
theorem dX9_flows_42 : decode cX9_flows 42 = .ok (.iaload, 1) := by decide +kernel
theorem dX9_flows_43 : decode cX9_flows 43 = .ok (.if_icmp .ge 33, 3) := by decide +kernel
theorem dX9_flows_46 : decode cX9_flows 46 = .ok (.iload_n 3, 1) := by decide +kernel
theorem dX9_flows_47 : decode cX9_flows 47 = .ok (.iload_n 2, 1) := by decide +kernel
theorem dX9_flows_48 : decode cX9_flows 48 = .ok (.iconst (-1), 1) := by decide +kernel
theorem dX9_flows_49 : decode cX9_flows 49 = .ok (.if_icmp .eq 14, 3) := by decide +kernel
theorem dX9_flows_52 : decode cX9_flows 52 = .ok (.aload_n 0, 1) := by decide +kernel
theorem dX9_flows_53 : decode cX9_flows 53 = .ok (.iload_n 1, 1) := by decide +kernel
theorem dX9_flows_54 : decode cX9_flows 54 = .ok (.iload 4, 2) := by decide +kernel
theorem dX9_flows_56 : decode cX9_flows 56 = .ok (.invokevirtual 77, 3) := by decide +kernel
theorem dX9_flows_59 : decode cX9_flows 59 = .ok (.iload_n 2, 1) := by decide +kernel
theorem dX9_flows_60 : decode cX9_flows 60 = .ok (.if_icmp .ne 7, 3) := by decide +kernel
theorem dX9_flows_63 : decode cX9_flows 63 = .ok (.iconst 1, 1) := by decide +kernel
theorem dX9_flows_64 : decode cX9_flows 64 = .ok (.goto 4, 3) := by decide +kernel
theorem dX9_flows_67 : decode cX9_flows 67 = .ok (.iconst 0, 1) := by decide +kernel
theorem dX9_flows_68 : decode cX9_flows 68 = .ok (.iadd, 1) := by decide +kernel
theorem dX9_flows_69 : decode cX9_flows 69 = .ok (.istore_n 3, 1) := by decide +kernel
theorem dX9_flows_70 : decode cX9_flows 70 = .ok (.iinc 4 1, 3) := by decide +kernel
