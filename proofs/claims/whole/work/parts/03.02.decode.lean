theorem dX8_changed_108 : decode cX8_changed 108 = .ok (.if_icmp .ne 7, 3) := by decide +kernel
theorem dX8_changed_111 : decode cX8_changed 111 = .ok (.iconst 1, 1) := by decide +kernel
theorem dX8_changed_112 : decode cX8_changed 112 = .ok (.goto 4, 3) := by decide +kernel
theorem dX8_changed_115 : decode cX8_changed 115 = .ok (.iconst 0, 1) := by decide +kernel
theorem dX8_changed_116 : decode cX8_changed 116 = .ok (.invokevirtual 215, 3) := by decide +kernel
theorem dX8_changed_119 : decode cX8_changed 119 = .ok (.ireturn, 1) := by decide +kernel
theorem dX8_alike_0 : decode cX8_alike 0 = .ok (.iload_n 1, 1) := by decide +kernel
theorem dX8_alike_1 : decode cX8_alike 1 = .ok (.invokestatic 112, 3) := by decide +kernel
theorem dX8_alike_4 : decode cX8_alike 4 = .ok (.ifCond .eq 10, 3) := by decide +kernel
theorem dX8_alike_7 : decode cX8_alike 7 = .ok (.iload_n 2, 1) := by decide +kernel
theorem dX8_alike_8 : decode cX8_alike 8 = .ok (.invokestatic 112, 3) := by decide +kernel
theorem dX8_alike_11 : decode cX8_alike 11 = .ok (.ifCond .ne 5, 3) := by decide +kernel
theorem dX8_alike_14 : decode cX8_alike 14 = .ok (.iconst (-1), 1) := by decide +kernel
theorem dX8_alike_15 : decode cX8_alike 15 = .ok (.ireturn, 1) := by decide +kernel
theorem dX8_alike_16 : decode cX8_alike 16 = .ok (.aload_n 0, 1) := by decide +kernel
theorem dX8_alike_17 : decode cX8_alike 17 = .ok (.aload_n 0, 1) := by decide +kernel
theorem dX8_alike_18 : decode cX8_alike 18 = .ok (.getfield 19, 3) := by decide +kernel
theorem dX8_alike_21 : decode cX8_alike 21 = .ok (.getfield 195, 3) := by decide +kernel
theorem dX8_alike_24 : decode cX8_alike 24 = .ok (.aload_n 0, 1) := by decide +kernel
theorem dX8_alike_25 : decode cX8_alike 25 = .ok (.getfield 28, 3) := by decide +kernel
theorem dX8_alike_28 : decode cX8_alike 28 = .ok (.getfield 147, 3) := by decide +kernel
theorem dX8_alike_31 : decode cX8_alike 31 = .ok (.iload_n 1, 1) := by decide +kernel
theorem dX8_alike_32 : decode cX8_alike 32 = .ok (.aaload, 1) := by decide +kernel
theorem dX8_alike_33 : decode cX8_alike 33 = .ok (.invokevirtual 156, 3) := by decide +kernel
theorem dX8_alike_36 : decode cX8_alike 36 = .ok (.invokevirtual 160, 3) := by decide +kernel
theorem dX8_alike_39 : decode cX8_alike 39 = .ok (.aload_n 0, 1) := by decide +kernel
theorem dX8_alike_40 : decode cX8_alike 40 = .ok (.aload_n 0, 1) := by decide +kernel
theorem dX8_alike_41 : decode cX8_alike 41 = .ok (.getfield 19, 3) := by decide +kernel
theorem dX8_alike_44 : decode cX8_alike 44 = .ok (.getfield 219, 3) := by decide +kernel
theorem dX8_alike_47 : decode cX8_alike 47 = .ok (.aload_n 0, 1) := by decide +kernel
theorem dX8_alike_48 : decode cX8_alike 48 = .ok (.getfield 28, 3) := by decide +kernel
theorem dX8_alike_51 : decode cX8_alike 51 = .ok (.getfield 147, 3) := by decide +kernel
theorem dX8_alike_54 : decode cX8_alike 54 = .ok (.iload_n 2, 1) := by decide +kernel
theorem dX8_alike_55 : decode cX8_alike 55 = .ok (.aaload, 1) := by decide +kernel
theorem dX8_alike_56 : decode cX8_alike 56 = .ok (.invokevirtual 156, 3) := by decide +kernel
theorem dX8_alike_59 : decode cX8_alike 59 = .ok (.invokevirtual 160, 3) := by decide +kernel
theorem dX8_alike_62 : decode cX8_alike 62 = .ok (.aload_n 0, 1) := by decide +kernel
theorem dX8_alike_63 : decode cX8_alike 63 = .ok (.getfield 28, 3) := by decide +kernel
theorem dX8_alike_66 : decode cX8_alike 66 = .ok (.getfield 82, 3) := by decide +kernel
theorem dX8_alike_69 : decode cX8_alike 69 = .ok (.aload_n 0, 1) := by decide +kernel
theorem dX8_alike_70 : decode cX8_alike 70 = .ok (.aload_n 0, 1) := by decide +kernel
theorem dX8_alike_71 : decode cX8_alike 71 = .ok (.getfield 19, 3) := by decide +kernel
theorem dX8_alike_74 : decode cX8_alike 74 = .ok (.getfield 195, 3) := by decide +kernel
theorem dX8_alike_77 : decode cX8_alike 77 = .ok (.aload_n 0, 1) := by decide +kernel
theorem dX8_alike_78 : decode cX8_alike 78 = .ok (.getfield 19, 3) := by decide +kernel
theorem dX8_alike_81 : decode cX8_alike 81 = .ok (.getfield 219, 3) := by decide +kernel
theorem dX8_alike_84 : decode cX8_alike 84 = .ok (.iconst 0, 1) := by decide +kernel
theorem dX8_alike_85 : decode cX8_alike 85 = .ok (.iconst 0, 1) := by decide +kernel
theorem dX8_alike_86 : decode cX8_alike 86 = .ok (.invokevirtual 215, 3) := by decide +kernel
theorem dX8_alike_89 : decode cX8_alike 89 = .ok (.isub, 1) := by decide +kernel
theorem dX8_alike_90 : decode cX8_alike 90 = .ok (.ireturn, 1) := by decide +kernel
theorem dX8_were_0 : decode cX8_were 0 = .ok (.iload_n 1, 1) := by decide +kernel
theorem dX8_were_1 : decode cX8_were 1 = .ok (.invokestatic 112, 3) := by decide +kernel
theorem dX8_were_4 : decode cX8_were 4 = .ok (.ifCond .eq 21, 3) := by decide +kernel
theorem dX8_were_7 : decode cX8_were 7 = .ok (.aload_n 0, 1) := by decide +kernel
theorem dX8_were_8 : decode cX8_were 8 = .ok (.getfield 28, 3) := by decide +kernel
theorem dX8_were_11 : decode cX8_were 11 = .ok (.iload_n 2, 1) := by decide +kernel
theorem dX8_were_12 : decode cX8_were 12 = .ok (.invokevirtual 106, 3) := by decide +kernel
theorem dX8_were_15 : decode cX8_were 15 = .ok (.ifCond .eq 10, 3) := by decide +kernel
theorem dX8_were_18 : decode cX8_were 18 = .ok (.iload_n 3, 1) := by decide +kernel
theorem dX8_were_19 : decode cX8_were 19 = .ok (.invokestatic 115, 3) := by decide +kernel
theorem dX8_were_22 : decode cX8_were 22 = .ok (.ifCond .ne 5, 3) := by decide +kernel
theorem dX8_were_25 : decode cX8_were 25 = .ok (.iconst (-1), 1) := by decide +kernel
theorem dX8_were_26 : decode cX8_were 26 = .ok (.ireturn, 1) := by decide +kernel
theorem dX8_were_27 : decode cX8_were 27 = .ok (.aload_n 0, 1) := by decide +kernel
theorem dX8_were_28 : decode cX8_were 28 = .ok (.getfield 28, 3) := by decide +kernel
theorem dX8_were_31 : decode cX8_were 31 = .ok (.getfield 147, 3) := by decide +kernel
theorem dX8_were_34 : decode cX8_were 34 = .ok (.iload_n 1, 1) := by decide +kernel
theorem dX8_were_35 : decode cX8_were 35 = .ok (.aaload, 1) := by decide +kernel
theorem dX8_were_36 : decode cX8_were 36 = .ok (.invokevirtual 156, 3) := by decide +kernel
theorem dX8_were_39 : decode cX8_were 39 = .ok (.istore 5, 2) := by decide +kernel
theorem dX8_were_41 : decode cX8_were 41 = .ok (.iload_n 3, 1) := by decide +kernel
theorem dX8_were_42 : decode cX8_were 42 = .ok (.iconst 1, 1) := by decide +kernel
theorem dX8_were_43 : decode cX8_were 43 = .ok (.if_icmp .ne 12, 3) := by decide +kernel
theorem dX8_were_46 : decode cX8_were 46 = .ok (.iload 5, 2) := by decide +kernel
theorem dX8_were_48 : decode cX8_were 48 = .ok (.iconst 1, 1) := by decide +kernel
theorem dX8_were_49 : decode cX8_were 49 = .ok (.iload_n 2, 1) := by decide +kernel
theorem dX8_were_50 : decode cX8_were 50 = .ok (.ishl, 1) := by decide +kernel
theorem dX8_were_51 : decode cX8_were 51 = .ok (.ior, 1) := by decide +kernel
theorem dX8_were_52 : decode cX8_were 52 = .ok (.goto 11, 3) := by decide +kernel
theorem dX8_were_55 : decode cX8_were 55 = .ok (.iload 5, 2) := by decide +kernel
theorem dX8_were_57 : decode cX8_were 57 = .ok (.iconst 1, 1) := by decide +kernel
theorem dX8_were_58 : decode cX8_were 58 = .ok (.iload_n 2, 1) := by decide +kernel
theorem dX8_were_59 : decode cX8_were 59 = .ok (.ishl, 1) := by decide +kernel
theorem dX8_were_60 : decode cX8_were 60 = .ok (.iconst (-1), 1) := by decide +kernel
theorem dX8_were_61 : decode cX8_were 61 = .ok (.ixor, 1) := by decide +kernel
theorem dX8_were_62 : decode cX8_were 62 = .ok (.iand, 1) := by decide +kernel
theorem dX8_were_63 : decode cX8_were 63 = .ok (.istore 6, 2) := by decide +kernel
theorem dX8_were_65 : decode cX8_were 65 = .ok (.aload_n 0, 1) := by decide +kernel
theorem dX8_were_66 : decode cX8_were 66 = .ok (.aload_n 0, 1) := by decide +kernel
theorem dX8_were_67 : decode cX8_were 67 = .ok (.getfield 19, 3) := by decide +kernel
theorem dX8_were_70 : decode cX8_were 70 = .ok (.getfield 195, 3) := by decide +kernel
theorem dX8_were_73 : decode cX8_were 73 = .ok (.iload 5, 2) := by decide +kernel
theorem dX8_were_75 : decode cX8_were 75 = .ok (.invokevirtual 160, 3) := by decide +kernel
theorem dX8_were_78 : decode cX8_were 78 = .ok (.aload_n 0, 1) := by decide +kernel
theorem dX8_were_79 : decode cX8_were 79 = .ok (.aload_n 0, 1) := by decide +kernel
theorem dX8_were_80 : decode cX8_were 80 = .ok (.getfield 19, 3) := by decide +kernel
theorem dX8_were_83 : decode cX8_were 83 = .ok (.getfield 219, 3) := by decide +kernel
theorem dX8_were_86 : decode cX8_were 86 = .ok (.iload 6, 2) := by decide +kernel
theorem dX8_were_88 : decode cX8_were 88 = .ok (.invokevirtual 160, 3) := by decide +kernel
theorem dX8_were_91 : decode cX8_were 91 = .ok (.aload_n 0, 1) := by decide +kernel
theorem dX8_were_92 : decode cX8_were 92 = .ok (.aload_n 0, 1) := by decide +kernel
theorem dX8_were_93 : decode cX8_were 93 = .ok (.getfield 19, 3) := by decide +kernel
theorem dX8_were_96 : decode cX8_were 96 = .ok (.getfield 195, 3) := by decide +kernel
theorem dX8_were_99 : decode cX8_were 99 = .ok (.aload_n 0, 1) := by decide +kernel
theorem dX8_were_100 : decode cX8_were 100 = .ok (.getfield 19, 3) := by decide +kernel
theorem dX8_were_103 : decode cX8_were 103 = .ok (.getfield 219, 3) := by decide +kernel
theorem dX8_were_106 : decode cX8_were 106 = .ok (.iload 6, 2) := by decide +kernel
theorem dX8_were_108 : decode cX8_were 108 = .ok (.iload 4, 2) := by decide +kernel
theorem dX8_were_110 : decode cX8_were 110 = .ok (.invokevirtual 215, 3) := by decide +kernel
theorem dX8_were_113 : decode cX8_were 113 = .ok (.ireturn, 1) := by decide +kernel
theorem dX8_roughest_0 : decode cX8_roughest 0 = .ok (.iload_n 1, 1) := by decide +kernel
theorem dX8_roughest_1 : decode cX8_roughest 1 = .ok (.invokestatic 112, 3) := by decide +kernel
theorem dX8_roughest_4 : decode cX8_roughest 4 = .ok (.ifCond .ne 5, 3) := by decide +kernel
theorem dX8_roughest_7 : decode cX8_roughest 7 = .ok (.iconst (-1), 1) := by decide +kernel
theorem dX8_roughest_8 : decode cX8_roughest 8 = .ok (.ireturn, 1) := by decide +kernel
theorem dX8_roughest_9 : decode cX8_roughest 9 = .ok (.aload_n 0, 1) := by decide +kernel
theorem dX8_roughest_10 : decode cX8_roughest 10 = .ok (.getfield 28, 3) := by decide +kernel
theorem dX8_roughest_13 : decode cX8_roughest 13 = .ok (.getfield 147, 3) := by decide +kernel
theorem dX8_roughest_16 : decode cX8_roughest 16 = .ok (.iload_n 1, 1) := by decide +kernel
theorem dX8_roughest_17 : decode cX8_roughest 17 = .ok (.aaload, 1) := by decide +kernel
theorem dX8_roughest_18 : decode cX8_roughest 18 = .ok (.invokevirtual 156, 3) := by decide +kernel
theorem dX8_roughest_21 : decode cX8_roughest 21 = .ok (.istore_n 2, 1) := by decide +kernel
theorem dX8_roughest_22 : decode cX8_roughest 22 = .ok (.iconst (-1), 1) := by decide +kernel
theorem dX8_roughest_23 : decode cX8_roughest 23 = .ok (.istore_n 3, 1) := by decide +kernel
theorem dX8_roughest_24 : decode cX8_roughest 24 = .ok (.iconst (-1), 1) := by decide +kernel
theorem dX8_roughest_25 : decode cX8_roughest 25 = .ok (.istore 4, 2) := by decide +kernel
theorem dX8_roughest_27 : decode cX8_roughest 27 = .ok (.aload_n 0, 1) := by decide +kernel
theorem dX8_roughest_28 : decode cX8_roughest 28 = .ok (.aload_n 0, 1) := by decide +kernel
theorem dX8_roughest_29 : decode cX8_roughest 29 = .ok (.getfield 19, 3) := by decide +kernel
theorem dX8_roughest_32 : decode cX8_roughest 32 = .ok (.getfield 195, 3) := by decide +kernel
theorem dX8_roughest_35 : decode cX8_roughest 35 = .ok (.iload_n 2, 1) := by decide +kernel
theorem dX8_roughest_36 : decode cX8_roughest 36 = .ok (.invokevirtual 160, 3) := by decide +kernel
theorem dX8_roughest_39 : decode cX8_roughest 39 = .ok (.iconst 0, 1) := by decide +kernel
theorem dX8_roughest_40 : decode cX8_roughest 40 = .ok (.istore 5, 2) := by decide +kernel
theorem dX8_roughest_42 : decode cX8_roughest 42 = .ok (.iload 5, 2) := by decide +kernel
theorem dX8_roughest_44 : decode cX8_roughest 44 = .ok (.aload_n 0, 1) := by decide +kernel
theorem dX8_roughest_45 : decode cX8_roughest 45 = .ok (.getfield 28, 3) := by decide +kernel
theorem dX8_roughest_48 : decode cX8_roughest 48 = .ok (.getfield 99, 3) := by decide +kernel
theorem dX8_roughest_51 : decode cX8_roughest 51 = .ok (.if_icmp .ge 78, 3) := by decide +kernel
theorem dX8_roughest_54 : decode cX8_roughest 54 = .ok (.iload_n 2, 1) := by decide +kernel
theorem dX8_roughest_55 : decode cX8_roughest 55 = .ok (.iload 5, 2) := by decide +kernel
theorem dX8_roughest_57 : decode cX8_roughest 57 = .ok (.invokestatic 222, 3) := by decide +kernel
theorem dX8_roughest_60 : decode cX8_roughest 60 = .ok (.ifCond .eq 63, 3) := by decide +kernel
theorem dX8_roughest_63 : decode cX8_roughest 63 = .ok (.iload_n 2, 1) := by decide +kernel
theorem dX8_roughest_64 : decode cX8_roughest 64 = .ok (.iconst 1, 1) := by decide +kernel
theorem dX8_roughest_65 : decode cX8_roughest 65 = .ok (.iload 5, 2) := by decide +kernel
theorem dX8_roughest_67 : decode cX8_roughest 67 = .ok (.ishl, 1) := by decide +kernel
theorem dX8_roughest_68 : decode cX8_roughest 68 = .ok (.iconst (-1), 1) := by decide +kernel
theorem dX8_roughest_69 : decode cX8_roughest 69 = .ok (.ixor, 1) := by decide +kernel
theorem dX8_roughest_70 : decode cX8_roughest 70 = .ok (.iand, 1) := by decide +kernel
theorem dX8_roughest_71 : decode cX8_roughest 71 = .ok (.istore 6, 2) := by decide +kernel
theorem dX8_roughest_73 : decode cX8_roughest 73 = .ok (.aload_n 0, 1) := by decide +kernel
theorem dX8_roughest_74 : decode cX8_roughest 74 = .ok (.aload_n 0, 1) := by decide +kernel
theorem dX8_roughest_75 : decode cX8_roughest 75 = .ok (.getfield 19, 3) := by decide +kernel
theorem dX8_roughest_78 : decode cX8_roughest 78 = .ok (.getfield 219, 3) := by decide +kernel
theorem dX8_roughest_81 : decode cX8_roughest 81 = .ok (.iload 6, 2) := by decide +kernel
theorem dX8_roughest_83 : decode cX8_roughest 83 = .ok (.invokevirtual 160, 3) := by decide +kernel
theorem dX8_roughest_86 : decode cX8_roughest 86 = .ok (.aload_n 0, 1) := by decide +kernel
theorem dX8_roughest_87 : decode cX8_roughest 87 = .ok (.aload_n 0, 1) := by decide +kernel
theorem dX8_roughest_88 : decode cX8_roughest 88 = .ok (.getfield 19, 3) := by decide +kernel
theorem dX8_roughest_91 : decode cX8_roughest 91 = .ok (.getfield 195, 3) := by decide +kernel
theorem dX8_roughest_94 : decode cX8_roughest 94 = .ok (.aload_n 0, 1) := by decide +kernel
theorem dX8_roughest_95 : decode cX8_roughest 95 = .ok (.getfield 19, 3) := by decide +kernel
theorem dX8_roughest_98 : decode cX8_roughest 98 = .ok (.getfield 219, 3) := by decide +kernel
theorem dX8_roughest_101 : decode cX8_roughest 101 = .ok (.iload 6, 2) := by decide +kernel
theorem dX8_roughest_103 : decode cX8_roughest 103 = .ok (.iconst 1, 1) := by decide +kernel
theorem dX8_roughest_104 : decode cX8_roughest 104 = .ok (.invokevirtual 215, 3) := by decide +kernel
theorem dX8_roughest_107 : decode cX8_roughest 107 = .ok (.istore 7, 2) := by decide +kernel
theorem dX8_roughest_109 : decode cX8_roughest 109 = .ok (.iload 7, 2) := by decide +kernel
theorem dX8_roughest_111 : decode cX8_roughest 111 = .ok (.iload 4, 2) := by decide +kernel
theorem dX8_roughest_113 : decode cX8_roughest 113 = .ok (.if_icmp .le 10, 3) := by decide +kernel
theorem dX8_roughest_116 : decode cX8_roughest 116 = .ok (.iload 7, 2) := by decide +kernel
theorem dX8_roughest_118 : decode cX8_roughest 118 = .ok (.istore 4, 2) := by decide +kernel
theorem dX8_roughest_120 : decode cX8_roughest 120 = .ok (.iload 5, 2) := by decide +kernel
theorem dX8_roughest_122 : decode cX8_roughest 122 = .ok (.istore_n 3, 1) := by decide +kernel
theorem dX8_roughest_123 : decode cX8_roughest 123 = .ok (.iinc 5 1, 3) := by decide +kernel
theorem dX8_roughest_126 : decode cX8_roughest 126 = .ok (.goto (-84), 3) := by decide +kernel
theorem dX8_roughest_129 : decode cX8_roughest 129 = .ok (.iload_n 3, 1) := by decide +kernel
theorem dX8_roughest_130 : decode cX8_roughest 130 = .ok (.ireturn, 1) := by decide +kernel
theorem dX8_flow_0 : decode cX8_flow 0 = .ok (.iload_n 1, 1) := by decide +kernel
theorem dX8_flow_1 : decode cX8_flow 1 = .ok (.invokestatic 140, 3) := by decide +kernel
theorem dX8_flow_4 : decode cX8_flow 4 = .ok (.ifCond .eq 17, 3) := by decide +kernel
theorem dX8_flow_7 : decode cX8_flow 7 = .ok (.iload_n 1, 1) := by decide +kernel
theorem dX8_flow_8 : decode cX8_flow 8 = .ok (.aload_n 0, 1) := by decide +kernel
theorem dX8_flow_9 : decode cX8_flow 9 = .ok (.getfield 28, 3) := by decide +kernel
theorem dX8_flow_12 : decode cX8_flow 12 = .ok (.getfield 82, 3) := by decide +kernel
theorem dX8_flow_15 : decode cX8_flow 15 = .ok (.invokestatic 226, 3) := by decide +kernel
theorem dX8_flow_18 : decode cX8_flow 18 = .ok (.goto 4, 3) := by decide +kernel
theorem dX8_flow_21 : decode cX8_flow 21 = .ok (.iconst (-1), 1) := by decide +kernel
theorem dX8_flow_22 : decode cX8_flow 22 = .ok (.ireturn, 1) := by decide +kernel
theorem dX8_remembers_0 : decode cX8_remembers 0 = .ok (.iload_n 1, 1) := by decide +kernel
theorem dX8_remembers_1 : decode cX8_remembers 1 = .ok (.invokestatic 112, 3) := by decide +kernel
theorem dX8_remembers_4 : decode cX8_remembers 4 = .ok (.ifCond .eq 10, 3) := by decide +kernel
theorem dX8_remembers_7 : decode cX8_remembers 7 = .ok (.iload_n 2, 1) := by decide +kernel
theorem dX8_remembers_8 : decode cX8_remembers 8 = .ok (.invokestatic 140, 3) := by decide +kernel
theorem dX8_remembers_11 : decode cX8_remembers 11 = .ok (.ifCond .ne 5, 3) := by decide +kernel
theorem dX8_remembers_14 : decode cX8_remembers 14 = .ok (.iconst (-1), 1) := by decide +kernel
theorem dX8_remembers_15 : decode cX8_remembers 15 = .ok (.ireturn, 1) := by decide +kernel
theorem dX8_remembers_16 : decode cX8_remembers 16 = .ok (.aload_n 0, 1) := by decide +kernel
theorem dX8_remembers_17 : decode cX8_remembers 17 = .ok (.getfield 28, 3) := by decide +kernel
theorem dX8_remembers_20 : decode cX8_remembers 20 = .ok (.getfield 147, 3) := by decide +kernel
theorem dX8_remembers_23 : decode cX8_remembers 23 = .ok (.iload_n 1, 1) := by decide +kernel
theorem dX8_remembers_24 : decode cX8_remembers 24 = .ok (.aaload, 1) := by decide +kernel
theorem dX8_remembers_25 : decode cX8_remembers 25 = .ok (.getfield 229, 3) := by decide +kernel
theorem dX8_remembers_28 : decode cX8_remembers 28 = .ok (.astore 4, 2) := by decide +kernel
theorem dX8_remembers_30 : decode cX8_remembers 30 = .ok (.aload 4, 2) := by decide +kernel
theorem dX8_remembers_32 : decode cX8_remembers 32 = .ok (.iload_n 2, 1) := by decide +kernel
theorem dX8_remembers_33 : decode cX8_remembers 33 = .ok (.invokevirtual 233, 3) := by decide +kernel
theorem dX8_remembers_36 : decode cX8_remembers 36 = .ok (.istore 5, 2) := by decide +kernel
theorem dX8_remembers_38 : decode cX8_remembers 38 = .ok (.iload 5, 2) := by decide +kernel
theorem dX8_remembers_40 : decode cX8_remembers 40 = .ok (.iconst (-1), 1) := by decide +kernel
theorem dX8_remembers_41 : decode cX8_remembers 41 = .ok (.if_icmp .ne 5, 3) := by decide +kernel
theorem dX8_remembers_44 : decode cX8_remembers 44 = .ok (.iconst (-1), 1) := by decide +kernel
theorem dX8_remembers_45 : decode cX8_remembers 45 = .ok (.ireturn, 1) := by decide +kernel
theorem dX8_remembers_46 : decode cX8_remembers 46 = .ok (.iload_n 3, 1) := by decide +kernel
theorem dX8_remembers_47 : decode cX8_remembers 47 = .ok (.ifCond .ne 12, 3) := by decide +kernel
theorem dX8_remembers_50 : decode cX8_remembers 50 = .ok (.aload 4, 2) := by decide +kernel
theorem dX8_remembers_52 : decode cX8_remembers 52 = .ok (.getfield 239, 3) := by decide +kernel
theorem dX8_remembers_55 : decode cX8_remembers 55 = .ok (.iload 5, 2) := by decide +kernel
theorem dX8_remembers_57 : decode cX8_remembers 57 = .ok (.iaload, 1) := by decide +kernel
theorem dX8_remembers_58 : decode cX8_remembers 58 = .ok (.ireturn, 1) := by decide +kernel
theorem dX8_remembers_59 : decode cX8_remembers 59 = .ok (.iload_n 3, 1) := by decide +kernel
theorem dX8_remembers_60 : decode cX8_remembers 60 = .ok (.iconst 1, 1) := by decide +kernel
theorem dX8_remembers_61 : decode cX8_remembers 61 = .ok (.if_icmp .ne 14, 3) := by decide +kernel
theorem dX8_remembers_64 : decode cX8_remembers 64 = .ok (.aload 4, 2) := by decide +kernel
theorem dX8_remembers_66 : decode cX8_remembers 66 = .ok (.getfield 242, 3) := by decide +kernel
theorem dX8_remembers_69 : decode cX8_remembers 69 = .ok (.iload 5, 2) := by decide +kernel
theorem dX8_remembers_71 : decode cX8_remembers 71 = .ok (.iaload, 1) := by decide +kernel
theorem dX8_remembers_72 : decode cX8_remembers 72 = .ok (.goto 4, 3) := by decide +kernel
theorem dX8_remembers_75 : decode cX8_remembers 75 = .ok (.iconst (-1), 1) := by decide +kernel
theorem dX8_remembers_76 : decode cX8_remembers 76 = .ok (.ireturn, 1) := by decide +kernel
theorem dX8_flows_0 : decode cX8_flows 0 = .ok (.iload_n 1, 1) := by decide +kernel
theorem dX8_flows_1 : decode cX8_flows 1 = .ok (.invokestatic 112, 3) := by decide +kernel
theorem dX8_flows_4 : decode cX8_flows 4 = .ok (.ifCond .ne 5, 3) := by decide +kernel
theorem dX8_flows_7 : decode cX8_flows 7 = .ok (.iconst (-1), 1) := by decide +kernel
theorem dX8_flows_8 : decode cX8_flows 8 = .ok (.ireturn, 1) := by decide +kernel
theorem dX8_flows_9 : decode cX8_flows 9 = .ok (.aload_n 0, 1) := by decide +kernel
theorem dX8_flows_10 : decode cX8_flows 10 = .ok (.getfield 28, 3) := by decide +kernel
theorem dX8_flows_13 : decode cX8_flows 13 = .ok (.getfield 147, 3) := by decide +kernel
theorem dX8_flows_16 : decode cX8_flows 16 = .ok (.iload_n 1, 1) := by decide +kernel
theorem dX8_flows_17 : decode cX8_flows 17 = .ok (.aaload, 1) := by decide +kernel
theorem dX8_flows_18 : decode cX8_flows 18 = .ok (.getfield 229, 3) := by decide +kernel
theorem dX8_flows_21 : decode cX8_flows 21 = .ok (.astore_n 3, 1) := by decide +kernel
theorem dX8_flows_22 : decode cX8_flows 22 = .ok (.iload_n 2, 1) := by decide +kernel
theorem dX8_flows_23 : decode cX8_flows 23 = .ok (.iconst (-1), 1) := by decide +kernel
theorem dX8_flows_24 : decode cX8_flows 24 = .ok (.if_icmp .ne 8, 3) := by decide +kernel
theorem dX8_flows_27 : decode cX8_flows 27 = .ok (.aload_n 3, 1) := by decide +kernel
theorem dX8_flows_28 : decode cX8_flows 28 = .ok (.getfield 245, 3) := by decide +kernel
theorem dX8_flows_31 : decode cX8_flows 31 = .ok (.ireturn, 1) := by decide +kernel
theorem dX8_flows_32 : decode cX8_flows 32 = .ok (.aload_n 0, 1) := by decide +kernel
theorem dX8_flows_33 : decode cX8_flows 33 = .ok (.getfield 28, 3) := by decide +kernel
theorem dX8_flows_36 : decode cX8_flows 36 = .ok (.iload_n 2, 1) := by decide +kernel
theorem dX8_flows_37 : decode cX8_flows 37 = .ok (.invokevirtual 106, 3) := by decide +kernel
theorem dX8_flows_40 : decode cX8_flows 40 = .ok (.ifCond .eq 11, 3) := by decide +kernel
theorem dX8_flows_43 : decode cX8_flows 43 = .ok (.aload_n 3, 1) := by decide +kernel
theorem dX8_flows_44 : decode cX8_flows 44 = .ok (.iload_n 2, 1) := by decide +kernel
theorem dX8_flows_45 : decode cX8_flows 45 = .ok (.invokevirtual 248, 3) := by decide +kernel
theorem dX8_flows_48 : decode cX8_flows 48 = .ok (.goto 4, 3) := by decide +kernel
theorem dX8_flows_51 : decode cX8_flows 51 = .ok (.iconst (-1), 1) := by decide +kernel
theorem dX8_flows_52 : decode cX8_flows 52 = .ok (.ireturn, 1) := by decide +kernel
theorem dX8_flowAt_0 : decode cX8_flowAt 0 = .ok (.iload_n 1, 1) := by decide +kernel
theorem dX8_flowAt_1 : decode cX8_flowAt 1 = .ok (.invokestatic 112, 3) := by decide +kernel
theorem dX8_flowAt_4 : decode cX8_flowAt 4 = .ok (.ifCond .eq 26, 3) := by decide +kernel
theorem dX8_flowAt_7 : decode cX8_flowAt 7 = .ok (.iload_n 2, 1) := by decide +kernel
theorem dX8_flowAt_8 : decode cX8_flowAt 8 = .ok (.ifCond .lt 22, 3) := by decide +kernel
theorem dX8_flowAt_11 : decode cX8_flowAt 11 = .ok (.iload_n 2, 1) := by decide +kernel
theorem dX8_flowAt_12 : decode cX8_flowAt 12 = .ok (.aload_n 0, 1) := by decide +kernel
theorem dX8_flowAt_13 : decode cX8_flowAt 13 = .ok (.getfield 28, 3) := by decide +kernel
theorem dX8_flowAt_16 : decode cX8_flowAt 16 = .ok (.getfield 147, 3) := by decide +kernel
theorem dX8_flowAt_19 : decode cX8_flowAt 19 = .ok (.iload_n 1, 1) := by decide +kernel
theorem dX8_flowAt_20 : decode cX8_flowAt 20 = .ok (.aaload, 1) := by decide +kernel
theorem dX8_flowAt_21 : decode cX8_flowAt 21 = .ok (.getfield 229, 3) := by decide +kernel
theorem dX8_flowAt_24 : decode cX8_flowAt 24 = .ok (.getfield 245, 3) := by decide +kernel
theorem dX8_flowAt_27 : decode cX8_flowAt 27 = .ok (.if_icmp .lt 5, 3) := by decide +kernel
theorem dX8_flowAt_30 : decode cX8_flowAt 30 = .ok (.iconst (-1), 1) := by decide +kernel
theorem dX8_flowAt_31 : decode cX8_flowAt 31 = .ok (.ireturn, 1) := by decide +kernel
theorem dX8_flowAt_32 : decode cX8_flowAt 32 = .ok (.aload_n 0, 1) := by decide +kernel
theorem dX8_flowAt_33 : decode cX8_flowAt 33 = .ok (.getfield 28, 3) := by decide +kernel
theorem dX8_flowAt_36 : decode cX8_flowAt 36 = .ok (.getfield 147, 3) := by decide +kernel
theorem dX8_flowAt_39 : decode cX8_flowAt 39 = .ok (.iload_n 1, 1) := by decide +kernel
theorem dX8_flowAt_40 : decode cX8_flowAt 40 = .ok (.aaload, 1) := by decide +kernel
theorem dX8_flowAt_41 : decode cX8_flowAt 41 = .ok (.getfield 229, 3) := by decide +kernel
theorem dX8_flowAt_44 : decode cX8_flowAt 44 = .ok (.getfield 251, 3) := by decide +kernel
theorem dX8_flowAt_47 : decode cX8_flowAt 47 = .ok (.iload_n 2, 1) := by decide +kernel
theorem dX8_flowAt_48 : decode cX8_flowAt 48 = .ok (.iaload, 1) := by decide +kernel
theorem dX8_flowAt_49 : decode cX8_flowAt 49 = .ok (.ireturn, 1) := by decide +kernel
theorem dX8_astray_0 : decode cX8_astray 0 = .ok (.iload_n 1, 1) := by decide +kernel
theorem dX8_astray_1 : decode cX8_astray 1 = .ok (.invokestatic 112, 3) := by decide +kernel
theorem dX8_astray_4 : decode cX8_astray 4 = .ok (.ifCond .eq 10, 3) := by decide +kernel
theorem dX8_astray_7 : decode cX8_astray 7 = .ok (.iload_n 2, 1) := by decide +kernel
theorem dX8_astray_8 : decode cX8_astray 8 = .ok (.invokestatic 112, 3) := by decide +kernel
theorem dX8_astray_11 : decode cX8_astray 11 = .ok (.ifCond .ne 5, 3) := by decide +kernel
theorem dX8_astray_14 : decode cX8_astray 14 = .ok (.iconst (-1), 1) := by decide +kernel
theorem dX8_astray_15 : decode cX8_astray 15 = .ok (.ireturn, 1) := by decide +kernel
theorem dX8_astray_16 : decode cX8_astray 16 = .ok (.aload_n 0, 1) := by decide +kernel
theorem dX8_astray_17 : decode cX8_astray 17 = .ok (.getfield 28, 3) := by decide +kernel
theorem dX8_astray_20 : decode cX8_astray 20 = .ok (.getfield 147, 3) := by decide +kernel
theorem dX8_astray_23 : decode cX8_astray 23 = .ok (.iload_n 1, 1) := by decide +kernel
theorem dX8_astray_24 : decode cX8_astray 24 = .ok (.aaload, 1) := by decide +kernel
theorem dX8_astray_25 : decode cX8_astray 25 = .ok (.getfield 229, 3) := by decide +kernel
theorem dX8_astray_28 : decode cX8_astray 28 = .ok (.astore_n 3, 1) := by decide +kernel
theorem dX8_astray_29 : decode cX8_astray 29 = .ok (.aload_n 0, 1) := by decide +kernel
theorem dX8_astray_30 : decode cX8_astray 30 = .ok (.getfield 28, 3) := by decide +kernel
theorem dX8_astray_33 : decode cX8_astray 33 = .ok (.getfield 147, 3) := by decide +kernel
theorem dX8_astray_36 : decode cX8_astray 36 = .ok (.iload_n 2, 1) := by decide +kernel
theorem dX8_astray_37 : decode cX8_astray 37 = .ok (.aaload, 1) := by decide +kernel
theorem dX8_astray_38 : decode cX8_astray 38 = .ok (.astore 4, 2) := by decide +kernel
theorem dX8_astray_40 : decode cX8_astray 40 = .ok (.iconst 0, 1) := by decide +kernel
theorem dX8_astray_41 : decode cX8_astray 41 = .ok (.istore 5, 2) := by decide +kernel
theorem dX8_astray_43 : decode cX8_astray 43 = .ok (.aload_n 0, 1) := by decide +kernel
theorem dX8_astray_44 : decode cX8_astray 44 = .ok (.aload_n 0, 1) := by decide +kernel
theorem dX8_astray_45 : decode cX8_astray 45 = .ok (.getfield 19, 3) := by decide +kernel
theorem dX8_astray_48 : decode cX8_astray 48 = .ok (.getfield 195, 3) := by decide +kernel
theorem dX8_astray_51 : decode cX8_astray 51 = .ok (.aload 4, 2) := by decide +kernel
theorem dX8_astray_53 : decode cX8_astray 53 = .ok (.invokevirtual 156, 3) := by decide +kernel
theorem dX8_astray_56 : decode cX8_astray 56 = .ok (.invokevirtual 160, 3) := by decide +kernel
theorem dX8_astray_59 : decode cX8_astray 59 = .ok (.iconst 0, 1) := by decide +kernel
theorem dX8_astray_60 : decode cX8_astray 60 = .ok (.istore 6, 2) := by decide +kernel
theorem dX8_astray_62 : decode cX8_astray 62 = .ok (.iload 6, 2) := by decide +kernel
theorem dX8_astray_64 : decode cX8_astray 64 = .ok (.aload_n 3, 1) := by decide +kernel
theorem dX8_astray_65 : decode cX8_astray 65 = .ok (.getfield 245, 3) := by decide +kernel
theorem dX8_astray_68 : decode cX8_astray 68 = .ok (.if_icmp .ge 70, 3) := by decide +kernel
theorem dX8_astray_71 : decode cX8_astray 71 = .ok (.aload_n 3, 1) := by decide +kernel
theorem dX8_astray_72 : decode cX8_astray 72 = .ok (.getfield 251, 3) := by decide +kernel
theorem dX8_astray_75 : decode cX8_astray 75 = .ok (.iload 6, 2) := by decide +kernel
theorem dX8_astray_77 : decode cX8_astray 77 = .ok (.iaload, 1) := by decide +kernel
theorem dX8_astray_78 : decode cX8_astray 78 = .ok (.istore 7, 2) := by decide +kernel
theorem dX8_astray_80 : decode cX8_astray 80 = .ok (.aload 4, 2) := by decide +kernel
theorem dX8_astray_82 : decode cX8_astray 82 = .ok (.iload 7, 2) := by decide +kernel
theorem dX8_astray_84 : decode cX8_astray 84 = .ok (.invokevirtual 254, 3) := by decide +kernel
theorem dX8_astray_87 : decode cX8_astray 87 = .ok (.istore 8, 2) := by decide +kernel
theorem dX8_astray_89 : decode cX8_astray 89 = .ok (.iload 8, 2) := by decide +kernel
theorem dX8_astray_91 : decode cX8_astray 91 = .ok (.iconst (-1), 1) := by decide +kernel
theorem dX8_astray_92 : decode cX8_astray 92 = .ok (.if_icmp .ne 25, 3) := by decide +kernel
theorem dX8_astray_95 : decode cX8_astray 95 = .ok (.aload_n 0, 1) := by decide +kernel
theorem dX8_astray_96 : decode cX8_astray 96 = .ok (.getfield 19, 3) := by decide +kernel
theorem dX8_astray_99 : decode cX8_astray 99 = .ok (.getfield 195, 3) := by decide +kernel
theorem dX8_astray_102 : decode cX8_astray 102 = .ok (.iload 7, 2) := by decide +kernel
theorem dX8_astray_104 : decode cX8_astray 104 = .ok (.aload_n 0, 1) := by decide +kernel
theorem dX8_astray_105 : decode cX8_astray 105 = .ok (.getfield 28, 3) := by decide +kernel
theorem dX8_astray_108 : decode cX8_astray 108 = .ok (.getfield 82, 3) := by decide +kernel
theorem dX8_astray_111 : decode cX8_astray 111 = .ok (.invokestatic 226, 3) := by decide +kernel
theorem dX8_astray_114 : decode cX8_astray 114 = .ok (.iaload, 1) := by decide +kernel
theorem dX8_astray_115 : decode cX8_astray 115 = .ok (.istore 8, 2) := by decide +kernel
theorem dX8_astray_117 : decode cX8_astray 117 = .ok (.iload 8, 2) := by decide +kernel
theorem dX8_astray_119 : decode cX8_astray 119 = .ok (.aload_n 3, 1) := by decide +kernel
theorem dX8_astray_120 : decode cX8_astray 120 = .ok (.getfield 239, 3) := by decide +kernel
theorem dX8_astray_123 : decode cX8_astray 123 = .ok (.iload 6, 2) := by decide +kernel
theorem dX8_astray_125 : decode cX8_astray 125 = .ok (.iaload, 1) := by decide +kernel
theorem dX8_astray_126 : decode cX8_astray 126 = .ok (.if_icmp .eq 6, 3) := by decide +kernel
theorem dX8_astray_129 : decode cX8_astray 129 = .ok (.iinc 5 1, 3) := by decide +kernel
theorem dX8_astray_132 : decode cX8_astray 132 = .ok (.iinc 6 1, 3) := by decide +kernel
theorem dX8_astray_135 : decode cX8_astray 135 = .ok (.goto (-73), 3) := by decide +kernel
theorem dX8_astray_138 : decode cX8_astray 138 = .ok (.iload 5, 2) := by decide +kernel
theorem dX8_astray_140 : decode cX8_astray 140 = .ok (.ireturn, 1) := by decide +kernel
theorem dX8_idle_0 : decode cX8_idle 0 = .ok (.iload_n 1, 1) := by decide +kernel
theorem dX8_idle_1 : decode cX8_idle 1 = .ok (.invokestatic 112, 3) := by decide +kernel
theorem dX8_idle_4 : decode cX8_idle 4 = .ok (.ifCond .eq 14, 3) := by decide +kernel
theorem dX8_idle_7 : decode cX8_idle 7 = .ok (.aload_n 0, 1) := by decide +kernel
theorem dX8_idle_8 : decode cX8_idle 8 = .ok (.getfield 28, 3) := by decide +kernel
theorem dX8_idle_11 : decode cX8_idle 11 = .ok (.iload_n 2, 1) := by decide +kernel
theorem dX8_idle_12 : decode cX8_idle 12 = .ok (.invokevirtual 106, 3) := by decide +kernel
theorem dX8_idle_15 : decode cX8_idle 15 = .ok (.ifCond .ne 5, 3) := by decide +kernel
theorem dX8_idle_18 : decode cX8_idle 18 = .ok (.iconst (-1), 1) := by decide +kernel
theorem dX8_idle_19 : decode cX8_idle 19 = .ok (.ireturn, 1) := by decide +kernel
theorem dX8_idle_20 : decode cX8_idle 20 = .ok (.aload_n 0, 1) := by decide +kernel
theorem dX8_idle_21 : decode cX8_idle 21 = .ok (.getfield 28, 3) := by decide +kernel
theorem dX8_idle_24 : decode cX8_idle 24 = .ok (.getfield 147, 3) := by decide +kernel
theorem dX8_idle_27 : decode cX8_idle 27 = .ok (.iload_n 1, 1) := by decide +kernel
theorem dX8_idle_28 : decode cX8_idle 28 = .ok (.aaload, 1) := by decide +kernel
theorem dX8_idle_29 : decode cX8_idle 29 = .ok (.getfield 229, 3) := by decide +kernel
theorem dX8_idle_32 : decode cX8_idle 32 = .ok (.iload_n 2, 1) := by decide +kernel
theorem dX8_idle_33 : decode cX8_idle 33 = .ok (.invokevirtual 257, 3) := by decide +kernel
theorem dX8_idle_36 : decode cX8_idle 36 = .ok (.istore_n 3, 1) := by decide +kernel
theorem dX8_idle_37 : decode cX8_idle 37 = .ok (.iload_n 3, 1) := by decide +kernel
theorem dX8_idle_38 : decode cX8_idle 38 = .ok (.iconst (-1), 1) := by decide +kernel
theorem dX8_idle_39 : decode cX8_idle 39 = .ok (.if_icmp .ne 13, 3) := by decide +kernel
theorem dX8_idle_42 : decode cX8_idle 42 = .ok (.aload_n 0, 1) := by decide +kernel
theorem dX8_idle_43 : decode cX8_idle 43 = .ok (.getfield 28, 3) := by decide +kernel
theorem dX8_idle_46 : decode cX8_idle 46 = .ok (.getfield 137, 3) := by decide +kernel
theorem dX8_idle_49 : decode cX8_idle 49 = .ok (.goto 14, 3) := by decide +kernel
theorem dX8_idle_52 : decode cX8_idle 52 = .ok (.iload_n 3, 1) := by decide +kernel
theorem dX8_idle_53 : decode cX8_idle 53 = .ok (.aload_n 0, 1) := by decide +kernel
theorem dX8_idle_54 : decode cX8_idle 54 = .ok (.getfield 28, 3) := by decide +kernel
theorem dX8_idle_57 : decode cX8_idle 57 = .ok (.getfield 128, 3) := by decide +kernel
theorem dX8_idle_60 : decode cX8_idle 60 = .ok (.iadd, 1) := by decide +kernel
theorem dX8_idle_61 : decode cX8_idle 61 = .ok (.iconst 1, 1) := by decide +kernel
theorem dX8_idle_62 : decode cX8_idle 62 = .ok (.iadd, 1) := by decide +kernel
theorem dX8_idle_63 : decode cX8_idle 63 = .ok (.ireturn, 1) := by decide +kernel
theorem dX8_makeTable_0 : decode cX8_makeTable 0 = .ok (.aload_n 0, 1) := by decide +kernel
theorem dX8_makeTable_1 : decode cX8_makeTable 1 = .ok (.getfield 19, 3) := by decide +kernel
theorem dX8_makeTable_4 : decode cX8_makeTable 4 = .ok (.aload_n 1, 1) := by decide +kernel
theorem dX8_makeTable_5 : decode cX8_makeTable 5 = .ok (.aload_n 0, 1) := by decide +kernel
theorem dX8_makeTable_6 : decode cX8_makeTable 6 = .ok (.getfield 28, 3) := by decide +kernel
theorem dX8_makeTable_9 : decode cX8_makeTable 9 = .ok (.iload_n 2, 1) := by decide +kernel
theorem dX8_makeTable_10 : decode cX8_makeTable 10 = .ok (.aload_n 0, 1) := by decide +kernel
theorem dX8_makeTable_11 : decode cX8_makeTable 11 = .ok (.getfield 28, 3) := by decide +kernel
theorem dX8_makeTable_14 : decode cX8_makeTable 14 = .ok (.getfield 82, 3) := by decide +kernel
theorem dX8_makeTable_17 : decode cX8_makeTable 17 = .ok (.invokevirtual 260, 3) := by decide +kernel
theorem dX8_makeTable_20 : decode cX8_makeTable 20 = .ok (.return_, 1) := by decide +kernel
theorem dX8_changes_0 : decode cX8_changes 0 = .ok (.iconst 0, 1) := by decide +kernel
theorem dX8_changes_1 : decode cX8_changes 1 = .ok (.istore 5, 2) := by decide +kernel
theorem dX8_changes_3 : decode cX8_changes 3 = .ok (.iconst 0, 1) := by decide +kernel
theorem dX8_changes_4 : decode cX8_changes 4 = .ok (.istore 6, 2) := by decide +kernel
theorem dX8_changes_6 : decode cX8_changes 6 = .ok (.iload 6, 2) := by decide +kernel
theorem dX8_changes_8 : decode cX8_changes 8 = .ok (.aload_n 0, 1) := by decide +kernel
theorem dX8_changes_9 : decode cX8_changes 9 = .ok (.getfield 28, 3) := by decide +kernel
theorem dX8_changes_12 : decode cX8_changes 12 = .ok (.getfield 82, 3) := by decide +kernel
theorem dX8_changes_15 : decode cX8_changes 15 = .ok (.if_icmp .ge 39, 3) := by decide +kernel
theorem dX8_changes_18 : decode cX8_changes 18 = .ok (.aload_n 1, 1) := by decide +kernel
theorem dX8_changes_19 : decode cX8_changes 19 = .ok (.iload 6, 2) := by decide +kernel
theorem dX8_changes_21 : decode cX8_changes 21 = .ok (.iaload, 1) := by decide +kernel
theorem dX8_changes_22 : decode cX8_changes 22 = .ok (.aload_n 2, 1) := by decide +kernel
theorem dX8_changes_23 : decode cX8_changes 23 = .ok (.iload 6, 2) := by decide +kernel
theorem dX8_changes_25 : decode cX8_changes 25 = .ok (.iaload, 1) := by decide +kernel
theorem dX8_changes_26 : decode cX8_changes 26 = .ok (.if_icmp .eq 22, 3) := by decide +kernel
theorem dX8_changes_29 : decode cX8_changes 29 = .ok (.iload 4, 2) := by decide +kernel
theorem dX8_changes_31 : decode cX8_changes 31 = .ok (.ifCond .eq 14, 3) := by decide +kernel
theorem dX8_changes_34 : decode cX8_changes 34 = .ok (.iload_n 3, 1) := by decide +kernel
theorem dX8_changes_35 : decode cX8_changes 35 = .ok (.aload_n 1, 1) := by decide +kernel
theorem dX8_changes_36 : decode cX8_changes 36 = .ok (.iload 6, 2) := by decide +kernel
theorem dX8_changes_38 : decode cX8_changes 38 = .ok (.iaload, 1) := by decide +kernel
theorem dX8_changes_39 : decode cX8_changes 39 = .ok (.invokestatic 222, 3) := by decide +kernel
theorem dX8_changes_42 : decode cX8_changes 42 = .ok (.ifCond .eq 6, 3) := by decide +kernel
theorem dX8_changes_45 : decode cX8_changes 45 = .ok (.iinc 5 1, 3) := by decide +kernel
theorem dX8_changes_48 : decode cX8_changes 48 = .ok (.iinc 6 1, 3) := by decide +kernel
theorem dX8_changes_51 : decode cX8_changes 51 = .ok (.goto (-45), 3) := by decide +kernel
theorem dX8_changes_54 : decode cX8_changes 54 = .ok (.iload 5, 2) := by decide +kernel
theorem dX8_changes_56 : decode cX8_changes 56 = .ok (.ireturn, 1) := by decide +kernel
theorem dX8_unevenAt_0 : decode cX8_unevenAt 0 = .ok (.aload_n 0, 1) := by decide +kernel
theorem dX8_unevenAt_1 : decode cX8_unevenAt 1 = .ok (.getfield 19, 3) := by decide +kernel
theorem dX8_unevenAt_4 : decode cX8_unevenAt 4 = .ok (.aload_n 0, 1) := by decide +kernel
theorem dX8_unevenAt_5 : decode cX8_unevenAt 5 = .ok (.getfield 19, 3) := by decide +kernel
theorem dX8_unevenAt_8 : decode cX8_unevenAt 8 = .ok (.getfield 195, 3) := by decide +kernel
theorem dX8_unevenAt_11 : decode cX8_unevenAt 11 = .ok (.aload_n 0, 1) := by decide +kernel
theorem dX8_unevenAt_12 : decode cX8_unevenAt 12 = .ok (.getfield 28, 3) := by decide +kernel
theorem dX8_unevenAt_15 : decode cX8_unevenAt 15 = .ok (.iload_n 1, 1) := by decide +kernel
theorem dX8_unevenAt_16 : decode cX8_unevenAt 16 = .ok (.iload_n 2, 1) := by decide +kernel
theorem dX8_unevenAt_17 : decode cX8_unevenAt 17 = .ok (.invokevirtual 260, 3) := by decide +kernel
theorem dX8_unevenAt_20 : decode cX8_unevenAt 20 = .ok (.iconst 0, 1) := by decide +kernel
theorem dX8_unevenAt_21 : decode cX8_unevenAt 21 = .ok (.istore_n 3, 1) := by decide +kernel
theorem dX8_unevenAt_22 : decode cX8_unevenAt 22 = .ok (.iconst 0, 1) := by decide +kernel
theorem dX8_unevenAt_23 : decode cX8_unevenAt 23 = .ok (.istore 4, 2) := by decide +kernel
theorem dX8_unevenAt_25 : decode cX8_unevenAt 25 = .ok (.iload 4, 2) := by decide +kernel
theorem dX8_unevenAt_27 : decode cX8_unevenAt 27 = .ok (.aload_n 0, 1) := by decide +kernel
theorem dX8_unevenAt_28 : decode cX8_unevenAt 28 = .ok (.getfield 28, 3) := by decide +kernel
theorem dX8_unevenAt_31 : decode cX8_unevenAt 31 = .ok (.getfield 99, 3) := by decide +kernel
theorem dX8_unevenAt_34 : decode cX8_unevenAt 34 = .ok (.if_icmp .ge 31, 3) := by decide +kernel
theorem dX8_unevenAt_37 : decode cX8_unevenAt 37 = .ok (.iload_n 1, 1) := by decide +kernel
theorem dX8_unevenAt_38 : decode cX8_unevenAt 38 = .ok (.iload 4, 2) := by decide +kernel
theorem dX8_unevenAt_40 : decode cX8_unevenAt 40 = .ok (.invokestatic 222, 3) := by decide +kernel
theorem dX8_unevenAt_43 : decode cX8_unevenAt 43 = .ok (.ifCond .eq 16, 3) := by decide +kernel
theorem dX8_unevenAt_46 : decode cX8_unevenAt 46 = .ok (.iload_n 3, 1) := by decide +kernel
theorem dX8_unevenAt_47 : decode cX8_unevenAt 47 = .ok (.aload_n 0, 1) := by decide +kernel
theorem dX8_unevenAt_48 : decode cX8_unevenAt 48 = .ok (.getfield 28, 3) := by decide +kernel
theorem dX8_unevenAt_51 : decode cX8_unevenAt 51 = .ok (.getfield 109, 3) := by decide +kernel
theorem dX8_unevenAt_54 : decode cX8_unevenAt 54 = .ok (.iload 4, 2) := by decide +kernel
theorem dX8_unevenAt_56 : decode cX8_unevenAt 56 = .ok (.iaload, 1) := by decide +kernel
theorem dX8_unevenAt_57 : decode cX8_unevenAt 57 = .ok (.iadd, 1) := by decide +kernel
theorem dX8_unevenAt_58 : decode cX8_unevenAt 58 = .ok (.istore_n 3, 1) := by decide +kernel
theorem dX8_unevenAt_59 : decode cX8_unevenAt 59 = .ok (.iinc 4 1, 3) := by decide +kernel
theorem dX8_unevenAt_62 : decode cX8_unevenAt 62 = .ok (.goto (-37), 3) := by decide +kernel
theorem dX8_unevenAt_65 : decode cX8_unevenAt 65 = .ok (.iconst 0, 1) := by decide +kernel
theorem dX8_unevenAt_66 : decode cX8_unevenAt 66 = .ok (.istore 4, 2) := by decide +kernel
theorem dX8_unevenAt_68 : decode cX8_unevenAt 68 = .ok (.iconst 0, 1) := by decide +kernel
theorem dX8_unevenAt_69 : decode cX8_unevenAt 69 = .ok (.istore 5, 2) := by decide +kernel
theorem dX8_unevenAt_71 : decode cX8_unevenAt 71 = .ok (.iload 5, 2) := by decide +kernel
theorem dX8_unevenAt_73 : decode cX8_unevenAt 73 = .ok (.aload_n 0, 1) := by decide +kernel
theorem dX8_unevenAt_74 : decode cX8_unevenAt 74 = .ok (.getfield 28, 3) := by decide +kernel
theorem dX8_unevenAt_77 : decode cX8_unevenAt 77 = .ok (.getfield 99, 3) := by decide +kernel
theorem dX8_unevenAt_80 : decode cX8_unevenAt 80 = .ok (.if_icmp .ge 60, 3) := by decide +kernel
theorem dX8_unevenAt_83 : decode cX8_unevenAt 83 = .ok (.iload_n 1, 1) := by decide +kernel
theorem dX8_unevenAt_84 : decode cX8_unevenAt 84 = .ok (.iload 5, 2) := by decide +kernel
theorem dX8_unevenAt_86 : decode cX8_unevenAt 86 = .ok (.invokestatic 222, 3) := by decide +kernel
theorem dX8_unevenAt_89 : decode cX8_unevenAt 89 = .ok (.ifCond .eq 45, 3) := by decide +kernel
theorem dX8_unevenAt_92 : decode cX8_unevenAt 92 = .ok (.iload_n 2, 1) := by decide +kernel
theorem dX8_unevenAt_93 : decode cX8_unevenAt 93 = .ok (.aload_n 0, 1) := by decide +kernel
theorem dX8_unevenAt_94 : decode cX8_unevenAt 94 = .ok (.getfield 28, 3) := by decide +kernel
theorem dX8_unevenAt_97 : decode cX8_unevenAt 97 = .ok (.getfield 109, 3) := by decide +kernel
theorem dX8_unevenAt_100 : decode cX8_unevenAt 100 = .ok (.iload 5, 2) := by decide +kernel
theorem dX8_unevenAt_102 : decode cX8_unevenAt 102 = .ok (.iaload, 1) := by decide +kernel
theorem dX8_unevenAt_103 : decode cX8_unevenAt 103 = .ok (.imul, 1) := by decide +kernel
theorem dX8_unevenAt_104 : decode cX8_unevenAt 104 = .ok (.aload_n 0, 1) := by decide +kernel
theorem dX8_unevenAt_105 : decode cX8_unevenAt 105 = .ok (.getfield 19, 3) := by decide +kernel
theorem dX8_unevenAt_108 : decode cX8_unevenAt 108 = .ok (.getfield 195, 3) := by decide +kernel
theorem dX8_unevenAt_111 : decode cX8_unevenAt 111 = .ok (.iload_n 2, 1) := by decide +kernel
theorem dX8_unevenAt_112 : decode cX8_unevenAt 112 = .ok (.iload 5, 2) := by decide +kernel
theorem dX8_unevenAt_114 : decode cX8_unevenAt 114 = .ok (.invokestatic 198, 3) := by decide +kernel
theorem dX8_unevenAt_117 : decode cX8_unevenAt 117 = .ok (.iload_n 3, 1) := by decide +kernel
theorem dX8_unevenAt_118 : decode cX8_unevenAt 118 = .ok (.imul, 1) := by decide +kernel
theorem dX8_unevenAt_119 : decode cX8_unevenAt 119 = .ok (.isub, 1) := by decide +kernel
theorem dX8_unevenAt_120 : decode cX8_unevenAt 120 = .ok (.istore 6, 2) := by decide +kernel
theorem dX8_unevenAt_122 : decode cX8_unevenAt 122 = .ok (.iload 4, 2) := by decide +kernel
theorem dX8_unevenAt_124 : decode cX8_unevenAt 124 = .ok (.iload 6, 2) := by decide +kernel
theorem dX8_unevenAt_126 : decode cX8_unevenAt 126 = .ok (.invokestatic 264, 3) := by decide +kernel
theorem dX8_unevenAt_129 : decode cX8_unevenAt 129 = .ok (.invokestatic 269, 3) := by decide +kernel
theorem dX8_unevenAt_132 : decode cX8_unevenAt 132 = .ok (.istore 4, 2) := by decide +kernel
theorem dX8_unevenAt_134 : decode cX8_unevenAt 134 = .ok (.iinc 5 1, 3) := by decide +kernel
theorem dX8_unevenAt_137 : decode cX8_unevenAt 137 = .ok (.goto (-66), 3) := by decide +kernel
theorem dX8_unevenAt_140 : decode cX8_unevenAt 140 = .ok (.iload 4, 2) := by decide +kernel
theorem dX8_unevenAt_142 : decode cX8_unevenAt 142 = .ok (.ireturn, 1) := by decide +kernel
theorem dX8_slotsOf_0 : decode cX8_slotsOf 0 = .ok (.iconst 0, 1) := by decide +kernel
theorem dX8_slotsOf_1 : decode cX8_slotsOf 1 = .ok (.istore_n 3, 1) := by decide +kernel
theorem dX8_slotsOf_2 : decode cX8_slotsOf 2 = .ok (.iconst 0, 1) := by decide +kernel
theorem dX8_slotsOf_3 : decode cX8_slotsOf 3 = .ok (.istore 4, 2) := by decide +kernel
theorem dX8_slotsOf_5 : decode cX8_slotsOf 5 = .ok (.iload 4, 2) := by decide +kernel
theorem dX8_slotsOf_7 : decode cX8_slotsOf 7 = .ok (.iload_n 1, 1) := by decide +kernel
theorem dX8_slotsOf_8 : decode cX8_slotsOf 8 = .ok (.if_icmp .ge 20, 3) := by decide +kernel
theorem dX8_slotsOf_11 : decode cX8_slotsOf 11 = .ok (.aload_n 0, 1) := by decide +kernel
theorem dX8_slotsOf_12 : decode cX8_slotsOf 12 = .ok (.iload 4, 2) := by decide +kernel
theorem dX8_slotsOf_14 : decode cX8_slotsOf 14 = .ok (.iaload, 1) := by decide +kernel
theorem dX8_slotsOf_15 : decode cX8_slotsOf 15 = .ok (.iload_n 2, 1) := by decide +kernel
theorem dX8_slotsOf_16 : decode cX8_slotsOf 16 = .ok (.if_icmp .ne 6, 3) := by decide +kernel
theorem dX8_slotsOf_19 : decode cX8_slotsOf 19 = .ok (.iinc 3 1, 3) := by decide +kernel
theorem dX8_slotsOf_22 : decode cX8_slotsOf 22 = .ok (.iinc 4 1, 3) := by decide +kernel
theorem dX8_slotsOf_25 : decode cX8_slotsOf 25 = .ok (.goto (-20), 3) := by decide +kernel
theorem dX8_slotsOf_28 : decode cX8_slotsOf 28 = .ok (.iload_n 3, 1) := by decide +kernel
theorem dX8_slotsOf_29 : decode cX8_slotsOf 29 = .ok (.ireturn, 1) := by decide +kernel
theorem dX8_bitsOf_0 : decode cX8_bitsOf 0 = .ok (.fload_n 0, 1) := by decide +kernel
theorem dX8_bitsOf_1 : decode cX8_bitsOf 1 = .ok (.fconst 0, 1) := by decide +kernel
theorem dX8_bitsOf_2 : decode cX8_bitsOf 2 = .ok (.fcmp .g, 1) := by decide +kernel
theorem dX8_bitsOf_3 : decode cX8_bitsOf 3 = .ok (.ifCond .gt 5, 3) := by decide +kernel
theorem dX8_bitsOf_6 : decode cX8_bitsOf 6 = .ok (.iconst 0, 1) := by decide +kernel
theorem dX8_bitsOf_7 : decode cX8_bitsOf 7 = .ok (.ireturn, 1) := by decide +kernel
theorem dX8_bitsOf_8 : decode cX8_bitsOf 8 = .ok (.bipush 127, 2) := by decide +kernel
theorem dX8_bitsOf_10 : decode cX8_bitsOf 10 = .ok (.istore_n 1, 1) := by decide +kernel
theorem dX8_bitsOf_11 : decode cX8_bitsOf 11 = .ok (.fload_n 0, 1) := by decide +kernel
theorem dX8_bitsOf_12 : decode cX8_bitsOf 12 = .ok (.fstore_n 2, 1) := by decide +kernel
theorem dX8_bitsOf_13 : decode cX8_bitsOf 13 = .ok (.iconst 0, 1) := by decide +kernel
theorem dX8_bitsOf_14 : decode cX8_bitsOf 14 = .ok (.istore_n 3, 1) := by decide +kernel
theorem dX8_bitsOf_15 : decode cX8_bitsOf 15 = .ok (.iload_n 3, 1) := by decide +kernel
theorem dX8_bitsOf_16 : decode cX8_bitsOf 16 = .ok (.bipush 126, 2) := by decide +kernel
theorem dX8_bitsOf_18 : decode cX8_bitsOf 18 = .ok (.if_icmp .ge 22, 3) := by decide +kernel
theorem dX8_bitsOf_21 : decode cX8_bitsOf 21 = .ok (.fload_n 2, 1) := by decide +kernel
theorem dX8_bitsOf_22 : decode cX8_bitsOf 22 = .ok (.fconst 1, 1) := by decide +kernel
theorem dX8_bitsOf_23 : decode cX8_bitsOf 23 = .ok (.fcmp .g, 1) := by decide +kernel
theorem dX8_bitsOf_24 : decode cX8_bitsOf 24 = .ok (.ifCond .ge 16, 3) := by decide +kernel
theorem dX8_bitsOf_27 : decode cX8_bitsOf 27 = .ok (.fload_n 2, 1) := by decide +kernel
theorem dX8_bitsOf_28 : decode cX8_bitsOf 28 = .ok (.fconst 2, 1) := by decide +kernel
theorem dX8_bitsOf_29 : decode cX8_bitsOf 29 = .ok (.fmul, 1) := by decide +kernel
theorem dX8_bitsOf_30 : decode cX8_bitsOf 30 = .ok (.fstore_n 2, 1) := by decide +kernel
theorem dX8_bitsOf_31 : decode cX8_bitsOf 31 = .ok (.iinc 1 (-1), 3) := by decide +kernel
theorem dX8_bitsOf_34 : decode cX8_bitsOf 34 = .ok (.iinc 3 1, 3) := by decide +kernel
theorem dX8_bitsOf_37 : decode cX8_bitsOf 37 = .ok (.goto (-22), 3) := by decide +kernel
theorem dX8_bitsOf_40 : decode cX8_bitsOf 40 = .ok (.iload_n 1, 1) := by decide +kernel
theorem dX8_bitsOf_41 : decode cX8_bitsOf 41 = .ok (.bipush 23, 2) := by decide +kernel
theorem dX8_bitsOf_43 : decode cX8_bitsOf 43 = .ok (.ishl, 1) := by decide +kernel
theorem dX8_bitsOf_44 : decode cX8_bitsOf 44 = .ok (.fload_n 2, 1) := by decide +kernel
theorem dX8_bitsOf_45 : decode cX8_bitsOf 45 = .ok (.ldc_w 272, 3) := by decide +kernel
theorem dX8_bitsOf_48 : decode cX8_bitsOf 48 = .ok (.fmul, 1) := by decide +kernel
theorem dX8_bitsOf_49 : decode cX8_bitsOf 49 = .ok (.f2i, 1) := by decide +kernel
theorem dX8_bitsOf_50 : decode cX8_bitsOf 50 = .ok (.iadd, 1) := by decide +kernel
theorem dX8_bitsOf_51 : decode cX8_bitsOf 51 = .ok (.ldc_w 273, 3) := by decide +kernel
theorem dX8_bitsOf_54 : decode cX8_bitsOf 54 = .ok (.isub, 1) := by decide +kernel
theorem dX8_bitsOf_55 : decode cX8_bitsOf 55 = .ok (.ireturn, 1) := by decide +kernel
theorem dX8_mix_0 : decode cX8_mix 0 = .ok (.iload_n 0, 1) := by decide +kernel
theorem dX8_mix_1 : decode cX8_mix 1 = .ok (.iload_n 1, 1) := by decide +kernel
theorem dX8_mix_2 : decode cX8_mix 2 = .ok (.imul, 1) := by decide +kernel
theorem dX8_mix_3 : decode cX8_mix 3 = .ok (.istore_n 2, 1) := by decide +kernel
theorem dX8_mix_4 : decode cX8_mix 4 = .ok (.iload_n 2, 1) := by decide +kernel
theorem dX8_mix_5 : decode cX8_mix 5 = .ok (.iload_n 2, 1) := by decide +kernel
theorem dX8_mix_6 : decode cX8_mix 6 = .ok (.bipush 15, 2) := by decide +kernel
theorem dX8_mix_8 : decode cX8_mix 8 = .ok (.iushr, 1) := by decide +kernel
theorem dX8_mix_9 : decode cX8_mix 9 = .ok (.ixor, 1) := by decide +kernel
theorem dX8_mix_10 : decode cX8_mix 10 = .ok (.istore_n 2, 1) := by decide +kernel
theorem dX8_mix_11 : decode cX8_mix 11 = .ok (.iload_n 2, 1) := by decide +kernel
theorem dX8_mix_12 : decode cX8_mix 12 = .ok (.ldc_w 274, 3) := by decide +kernel
theorem dX8_mix_15 : decode cX8_mix 15 = .ok (.imul, 1) := by decide +kernel
theorem dX8_mix_16 : decode cX8_mix 16 = .ok (.istore_n 2, 1) := by decide +kernel
theorem dX8_mix_17 : decode cX8_mix 17 = .ok (.iload_n 2, 1) := by decide +kernel
theorem dX8_mix_18 : decode cX8_mix 18 = .ok (.iload_n 2, 1) := by decide +kernel
theorem dX8_mix_19 : decode cX8_mix 19 = .ok (.bipush 13, 2) := by decide +kernel
theorem dX8_mix_21 : decode cX8_mix 21 = .ok (.iushr, 1) := by decide +kernel
theorem dX8_mix_22 : decode cX8_mix 22 = .ok (.ixor, 1) := by decide +kernel
theorem dX8_mix_23 : decode cX8_mix 23 = .ok (.istore_n 2, 1) := by decide +kernel
theorem dX8_mix_24 : decode cX8_mix 24 = .ok (.iload_n 2, 1) := by decide +kernel
theorem dX8_mix_25 : decode cX8_mix 25 = .ok (.iconst 1, 1) := by decide +kernel
theorem dX8_mix_26 : decode cX8_mix 26 = .ok (.iushr, 1) := by decide +kernel
theorem dX8_mix_27 : decode cX8_mix 27 = .ok (.ireturn, 1) := by decide +kernel
theorem dX8_modulo_0 : decode cX8_modulo 0 = .ok (.iload_n 1, 1) := by decide +kernel
theorem dX8_modulo_1 : decode cX8_modulo 1 = .ok (.ifCond .le 9, 3) := by decide +kernel
theorem dX8_modulo_4 : decode cX8_modulo 4 = .ok (.iload_n 0, 1) := by decide +kernel
theorem dX8_modulo_5 : decode cX8_modulo 5 = .ok (.iload_n 1, 1) := by decide +kernel
theorem dX8_modulo_6 : decode cX8_modulo 6 = .ok (.irem, 1) := by decide +kernel
theorem dX8_modulo_7 : decode cX8_modulo 7 = .ok (.goto 4, 3) := by decide +kernel
theorem dX8_modulo_10 : decode cX8_modulo 10 = .ok (.iconst 0, 1) := by decide +kernel
theorem dX8_modulo_11 : decode cX8_modulo 11 = .ok (.ireturn, 1) := by decide +kernel
theorem dX8_offsetOf_0 : decode cX8_offsetOf 0 = .ok (.iload_n 0, 1) := by decide +kernel
theorem dX8_offsetOf_1 : decode cX8_offsetOf 1 = .ok (.ldc_w 275, 3) := by decide +kernel
theorem dX8_offsetOf_4 : decode cX8_offsetOf 4 = .ok (.invokestatic 276, 3) := by decide +kernel
theorem dX8_offsetOf_7 : decode cX8_offsetOf 7 = .ok (.iload_n 1, 1) := by decide +kernel
theorem dX8_offsetOf_8 : decode cX8_offsetOf 8 = .ok (.invokestatic 192, 3) := by decide +kernel
theorem dX8_offsetOf_11 : decode cX8_offsetOf 11 = .ok (.ireturn, 1) := by decide +kernel
theorem dX8_skipOf_0 : decode cX8_skipOf 0 = .ok (.iload_n 0, 1) := by decide +kernel
theorem dX8_skipOf_1 : decode cX8_skipOf 1 = .ok (.ldc_w 279, 3) := by decide +kernel
theorem dX8_skipOf_4 : decode cX8_skipOf 4 = .ok (.invokestatic 276, 3) := by decide +kernel
theorem dX8_skipOf_7 : decode cX8_skipOf 7 = .ok (.iload_n 1, 1) := by decide +kernel
theorem dX8_skipOf_8 : decode cX8_skipOf 8 = .ok (.iconst 1, 1) := by decide +kernel
theorem dX8_skipOf_9 : decode cX8_skipOf 9 = .ok (.isub, 1) := by decide +kernel
theorem dX8_skipOf_10 : decode cX8_skipOf 10 = .ok (.invokestatic 192, 3) := by decide +kernel
theorem dX8_skipOf_13 : decode cX8_skipOf 13 = .ok (.iconst 1, 1) := by decide +kernel
theorem dX8_skipOf_14 : decode cX8_skipOf 14 = .ok (.iadd, 1) := by decide +kernel
theorem dX8_skipOf_15 : decode cX8_skipOf 15 = .ok (.ireturn, 1) := by decide +kernel
theorem dX8_slotOfFlow_0 : decode cX8_slotOfFlow 0 = .ok (.iload_n 0, 1) := by decide +kernel
theorem dX8_slotOfFlow_1 : decode cX8_slotOfFlow 1 = .ok (.ldc_w 280, 3) := by decide +kernel
theorem dX8_slotOfFlow_4 : decode cX8_slotOfFlow 4 = .ok (.invokestatic 276, 3) := by decide +kernel
theorem dX8_slotOfFlow_7 : decode cX8_slotOfFlow 7 = .ok (.iload_n 1, 1) := by decide +kernel
theorem dX8_slotOfFlow_8 : decode cX8_slotOfFlow 8 = .ok (.invokestatic 192, 3) := by decide +kernel
theorem dX8_slotOfFlow_11 : decode cX8_slotOfFlow 11 = .ok (.ireturn, 1) := by decide +kernel
theorem dX8_isWithin_0 : decode cX8_isWithin 0 = .ok (.iload_n 0, 1) := by decide +kernel
theorem dX8_isWithin_1 : decode cX8_isWithin 1 = .ok (.iload_n 1, 1) := by decide +kernel
theorem dX8_isWithin_2 : decode cX8_isWithin 2 = .ok (.if_icmp .lt 12, 3) := by decide +kernel
theorem dX8_isWithin_5 : decode cX8_isWithin 5 = .ok (.iload_n 0, 1) := by decide +kernel
theorem dX8_isWithin_6 : decode cX8_isWithin 6 = .ok (.iload_n 2, 1) := by decide +kernel
theorem dX8_isWithin_7 : decode cX8_isWithin 7 = .ok (.if_icmp .gt 7, 3) := by decide +kernel
theorem dX8_isWithin_10 : decode cX8_isWithin 10 = .ok (.iconst 1, 1) := by decide +kernel
theorem dX8_isWithin_11 : decode cX8_isWithin 11 = .ok (.goto 4, 3) := by decide +kernel
theorem dX8_isWithin_14 : decode cX8_isWithin 14 = .ok (.iconst 0, 1) := by decide +kernel
theorem dX8_isWithin_15 : decode cX8_isWithin 15 = .ok (.ireturn, 1) := by decide +kernel
theorem dX8_isGate_0 : decode cX8_isGate 0 = .ok (.iload_n 0, 1) := by decide +kernel
theorem dX8_isGate_1 : decode cX8_isGate 1 = .ok (.iconst 0, 1) := by decide +kernel
theorem dX8_isGate_2 : decode cX8_isGate 2 = .ok (.iconst 3, 1) := by decide +kernel
theorem dX8_isGate_3 : decode cX8_isGate 3 = .ok (.invokestatic 92, 3) := by decide +kernel
theorem dX8_isGate_6 : decode cX8_isGate 6 = .ok (.ireturn, 1) := by decide +kernel
theorem dX8_isState_0 : decode cX8_isState 0 = .ok (.iload_n 0, 1) := by decide +kernel
theorem dX8_isState_1 : decode cX8_isState 1 = .ok (.iconst 0, 1) := by decide +kernel
theorem dX8_isState_2 : decode cX8_isState 2 = .ok (.iconst 2, 1) := by decide +kernel
theorem dX8_isState_3 : decode cX8_isState 3 = .ok (.invokestatic 92, 3) := by decide +kernel
theorem dX8_isState_6 : decode cX8_isState 6 = .ok (.ireturn, 1) := by decide +kernel
theorem dX8_isFlow_0 : decode cX8_isFlow 0 = .ok (.iload_n 0, 1) := by decide +kernel
theorem dX8_isFlow_1 : decode cX8_isFlow 1 = .ok (.iconst 0, 1) := by decide +kernel
theorem dX8_isFlow_2 : decode cX8_isFlow 2 = .ok (.sipush 9999, 3) := by decide +kernel
theorem dX8_isFlow_5 : decode cX8_isFlow 5 = .ok (.invokestatic 92, 3) := by decide +kernel
theorem dX8_isFlow_8 : decode cX8_isFlow 8 = .ok (.ireturn, 1) := by decide +kernel
theorem dX8_isSize_0 : decode cX8_isSize 0 = .ok (.iconst 0, 1) := by decide +kernel
theorem dX8_isSize_1 : decode cX8_isSize 1 = .ok (.istore_n 1, 1) := by decide +kernel
theorem dX8_isSize_2 : decode cX8_isSize 2 = .ok (.iload_n 1, 1) := by decide +kernel
theorem dX8_isSize_3 : decode cX8_isSize 3 = .ok (.getstatic 212, 3) := by decide +kernel
theorem dX8_isSize_6 : decode cX8_isSize 6 = .ok (.arraylength, 1) := by decide +kernel
theorem dX8_isSize_7 : decode cX8_isSize 7 = .ok (.if_icmp .ge 20, 3) := by decide +kernel
theorem dX8_isSize_10 : decode cX8_isSize 10 = .ok (.getstatic 212, 3) := by decide +kernel
theorem dX8_isSize_13 : decode cX8_isSize 13 = .ok (.iload_n 1, 1) := by decide +kernel
theorem dX8_isSize_14 : decode cX8_isSize 14 = .ok (.iaload, 1) := by decide +kernel
theorem dX8_isSize_15 : decode cX8_isSize 15 = .ok (.iload_n 0, 1) := by decide +kernel
theorem dX8_isSize_16 : decode cX8_isSize 16 = .ok (.if_icmp .ne 5, 3) := by decide +kernel
theorem dX8_isSize_19 : decode cX8_isSize 19 = .ok (.iconst 1, 1) := by decide +kernel
theorem dX8_isSize_20 : decode cX8_isSize 20 = .ok (.ireturn, 1) := by decide +kernel
theorem dX8_isSize_21 : decode cX8_isSize 21 = .ok (.iinc 1 1, 3) := by decide +kernel
theorem dX8_isSize_24 : decode cX8_isSize 24 = .ok (.goto (-22), 3) := by decide +kernel
theorem dX8_isSize_27 : decode cX8_isSize 27 = .ok (.iconst 0, 1) := by decide +kernel
theorem dX8_isSize_28 : decode cX8_isSize 28 = .ok (.ireturn, 1) := by decide +kernel
theorem dX8_isAmong_0 : decode cX8_isAmong 0 = .ok (.iload_n 1, 1) := by decide +kernel
theorem dX8_isAmong_1 : decode cX8_isAmong 1 = .ok (.ifCond .lt 16, 3) := by decide +kernel
theorem dX8_isAmong_4 : decode cX8_isAmong 4 = .ok (.iload_n 0, 1) := by decide +kernel
theorem dX8_isAmong_5 : decode cX8_isAmong 5 = .ok (.iload_n 1, 1) := by decide +kernel
theorem dX8_isAmong_6 : decode cX8_isAmong 6 = .ok (.ishr, 1) := by decide +kernel
theorem dX8_isAmong_7 : decode cX8_isAmong 7 = .ok (.iconst 1, 1) := by decide +kernel
theorem dX8_isAmong_8 : decode cX8_isAmong 8 = .ok (.iand, 1) := by decide +kernel
theorem dX8_isAmong_9 : decode cX8_isAmong 9 = .ok (.iconst 1, 1) := by decide +kernel
theorem dX8_isAmong_10 : decode cX8_isAmong 10 = .ok (.if_icmp .ne 7, 3) := by decide +kernel
theorem dX8_isAmong_13 : decode cX8_isAmong 13 = .ok (.iconst 1, 1) := by decide +kernel
theorem dX8_isAmong_14 : decode cX8_isAmong 14 = .ok (.goto 4, 3) := by decide +kernel
theorem dX8_isAmong_17 : decode cX8_isAmong 17 = .ok (.iconst 0, 1) := by decide +kernel
theorem dX8_isAmong_18 : decode cX8_isAmong 18 = .ok (.ireturn, 1) := by decide +kernel
theorem dX9_init_0 : decode cX9_init 0 = .ok (.aload_n 0, 1) := by decide +kernel
theorem dX9_init_1 : decode cX9_init 1 = .ok (.invokespecial 1, 3) := by decide +kernel
theorem dX9_init_4 : decode cX9_init 4 = .ok (.aload_n 0, 1) := by decide +kernel
theorem dX9_init_5 : decode cX9_init 5 = .ok (.sipush 641, 3) := by decide +kernel
theorem dX9_init_8 : decode cX9_init 8 = .ok (.newarray .int, 2) := by decide +kernel
theorem dX9_init_10 : decode cX9_init 10 = .ok (.putfield 7, 3) := by decide +kernel
theorem dX9_init_13 : decode cX9_init 13 = .ok (.aload_n 0, 1) := by decide +kernel
theorem dX9_init_14 : decode cX9_init 14 = .ok (.sipush 641, 3) := by decide +kernel
theorem dX9_init_17 : decode cX9_init 17 = .ok (.newarray .int, 2) := by decide +kernel
theorem dX9_init_19 : decode cX9_init 19 = .ok (.putfield 13, 3) := by decide +kernel
theorem dX9_init_22 : decode cX9_init 22 = .ok (.aload_n 0, 1) := by decide +kernel
theorem dX9_init_23 : decode cX9_init 23 = .ok (.bipush 97, 2) := by decide +kernel
theorem dX9_init_25 : decode cX9_init 25 = .ok (.newarray .int, 2) := by decide +kernel
theorem dX9_init_27 : decode cX9_init 27 = .ok (.putfield 16, 3) := by decide +kernel
theorem dX9_init_30 : decode cX9_init 30 = .ok (.aload_n 0, 1) := by decide +kernel
theorem dX9_init_31 : decode cX9_init 31 = .ok (.bipush 97, 2) := by decide +kernel
theorem dX9_init_33 : decode cX9_init 33 = .ok (.newarray .int, 2) := by decide +kernel
theorem dX9_init_35 : decode cX9_init 35 = .ok (.putfield 19, 3) := by decide +kernel
theorem dX9_init_38 : decode cX9_init 38 = .ok (.aload_n 0, 1) := by decide +kernel
theorem dX9_init_39 : decode cX9_init 39 = .ok (.bipush 8, 2) := by decide +kernel
theorem dX9_init_41 : decode cX9_init 41 = .ok (.newarray .boolean, 2) := by decide +kernel
theorem dX9_init_43 : decode cX9_init 43 = .ok (.putfield 22, 3) := by decide +kernel
theorem dX9_init_46 : decode cX9_init 46 = .ok (.aload_n 0, 1) := by decide +kernel
theorem dX9_init_47 : decode cX9_init 47 = .ok (.bipush 8, 2) := by decide +kernel
theorem dX9_init_49 : decode cX9_init 49 = .ok (.newarray .int, 2) := by decide +kernel
theorem dX9_init_51 : decode cX9_init 51 = .ok (.putfield 26, 3) := by decide +kernel
theorem dX9_init_54 : decode cX9_init 54 = .ok (.aload_n 0, 1) := by decide +kernel
theorem dX9_init_55 : decode cX9_init 55 = .ok (.bipush 8, 2) := by decide +kernel
theorem dX9_init_57 : decode cX9_init 57 = .ok (.newarray .int, 2) := by decide +kernel
theorem dX9_init_59 : decode cX9_init 59 = .ok (.putfield 29, 3) := by decide +kernel
theorem dX9_init_62 : decode cX9_init 62 = .ok (.aload_n 0, 1) := by decide +kernel
theorem dX9_init_63 : decode cX9_init 63 = .ok (.sipush 400, 3) := by decide +kernel
theorem dX9_init_66 : decode cX9_init 66 = .ok (.newarray .int, 2) := by decide +kernel
theorem dX9_init_68 : decode cX9_init 68 = .ok (.putfield 32, 3) := by decide +kernel
theorem dX9_init_71 : decode cX9_init 71 = .ok (.aload_n 0, 1) := by decide +kernel
theorem dX9_init_72 : decode cX9_init 72 = .ok (.getfield 7, 3) := by decide +kernel
theorem dX9_init_75 : decode cX9_init 75 = .ok (.iconst 0, 1) := by decide +kernel
theorem dX9_init_76 : decode cX9_init 76 = .ok (.bipush 7, 2) := by decide +kernel
theorem dX9_init_78 : decode cX9_init 78 = .ok (.iastore, 1) := by decide +kernel
theorem dX9_init_79 : decode cX9_init 79 = .ok (.aload_n 0, 1) := by decide +kernel
theorem dX9_init_80 : decode cX9_init 80 = .ok (.getfield 7, 3) := by decide +kernel
theorem dX9_init_83 : decode cX9_init 83 = .ok (.iconst 3, 1) := by decide +kernel
theorem dX9_init_84 : decode cX9_init 84 = .ok (.bipush 8, 2) := by decide +kernel
theorem dX9_init_86 : decode cX9_init 86 = .ok (.iastore, 1) := by decide +kernel
theorem dX9_init_87 : decode cX9_init 87 = .ok (.aload_n 0, 1) := by decide +kernel
theorem dX9_init_88 : decode cX9_init 88 = .ok (.getfield 7, 3) := by decide +kernel
theorem dX9_init_91 : decode cX9_init 91 = .ok (.iconst 4, 1) := by decide +kernel
theorem dX9_init_92 : decode cX9_init 92 = .ok (.bipush 20, 2) := by decide +kernel
theorem dX9_init_94 : decode cX9_init 94 = .ok (.iastore, 1) := by decide +kernel
theorem dX9_init_95 : decode cX9_init 95 = .ok (.return_, 1) := by decide +kernel
theorem dX9_thrown_0 : decode cX9_thrown 0 = .ok (.aload_n 0, 1) := by decide +kernel
theorem dX9_thrown_1 : decode cX9_thrown 1 = .ok (.getfield 35, 3) := by decide +kernel
theorem dX9_thrown_4 : decode cX9_thrown 4 = .ok (.ireturn, 1) := by decide +kernel
theorem dX9_in_0 : decode cX9_in 0 = .ok (.iload_n 0, 1) := by decide +kernel
theorem dX9_in_1 : decode cX9_in 1 = .ok (.iload_n 1, 1) := by decide +kernel
theorem dX9_in_2 : decode cX9_in 2 = .ok (.if_icmp .lt 12, 3) := by decide +kernel
theorem dX9_in_5 : decode cX9_in 5 = .ok (.iload_n 0, 1) := by decide +kernel
theorem dX9_in_6 : decode cX9_in 6 = .ok (.iload_n 2, 1) := by decide +kernel
theorem dX9_in_7 : decode cX9_in 7 = .ok (.if_icmp .gt 7, 3) := by decide +kernel
theorem dX9_in_10 : decode cX9_in 10 = .ok (.iconst 1, 1) := by decide +kernel
theorem dX9_in_11 : decode cX9_in 11 = .ok (.goto 4, 3) := by decide +kernel
theorem dX9_in_14 : decode cX9_in 14 = .ok (.iconst 0, 1) := by decide +kernel
theorem dX9_in_15 : decode cX9_in 15 = .ok (.ireturn, 1) := by decide +kernel
theorem dX9_isBack_0 : decode cX9_isBack 0 = .ok (.iload_n 1, 1) := by decide +kernel
theorem dX9_isBack_1 : decode cX9_isBack 1 = .ok (.iconst 0, 1) := by decide +kernel
theorem dX9_isBack_2 : decode cX9_isBack 2 = .ok (.aload_n 0, 1) := by decide +kernel
theorem dX9_isBack_3 : decode cX9_isBack 3 = .ok (.getfield 7, 3) := by decide +kernel
theorem dX9_isBack_6 : decode cX9_isBack 6 = .ok (.iconst 1, 1) := by decide +kernel
theorem dX9_isBack_7 : decode cX9_isBack 7 = .ok (.iaload, 1) := by decide +kernel
theorem dX9_isBack_8 : decode cX9_isBack 8 = .ok (.iconst 1, 1) := by decide +kernel
theorem dX9_isBack_9 : decode cX9_isBack 9 = .ok (.isub, 1) := by decide +kernel
theorem dX9_isBack_10 : decode cX9_isBack 10 = .ok (.invokestatic 39, 3) := by decide +kernel
theorem dX9_isBack_13 : decode cX9_isBack 13 = .ok (.ireturn, 1) := by decide +kernel
theorem dX9_isGate_0 : decode cX9_isGate 0 = .ok (.iload_n 0, 1) := by decide +kernel
theorem dX9_isGate_1 : decode cX9_isGate 1 = .ok (.iconst 0, 1) := by decide +kernel
theorem dX9_isGate_2 : decode cX9_isGate 2 = .ok (.iconst 3, 1) := by decide +kernel
theorem dX9_isGate_3 : decode cX9_isGate 3 = .ok (.invokestatic 39, 3) := by decide +kernel
theorem dX9_isGate_6 : decode cX9_isGate 6 = .ok (.ireturn, 1) := by decide +kernel
theorem dX9_isPrime_0 : decode cX9_isPrime 0 = .ok (.iload_n 0, 1) := by decide +kernel
theorem dX9_isPrime_1 : decode cX9_isPrime 1 = .ok (.iconst 3, 1) := by decide +kernel
theorem dX9_isPrime_2 : decode cX9_isPrime 2 = .ok (.if_icmp .lt 9, 3) := by decide +kernel
theorem dX9_isPrime_5 : decode cX9_isPrime 5 = .ok (.iload_n 0, 1) := by decide +kernel
theorem dX9_isPrime_6 : decode cX9_isPrime 6 = .ok (.bipush 97, 2) := by decide +kernel
theorem dX9_isPrime_8 : decode cX9_isPrime 8 = .ok (.if_icmp .le 5, 3) := by decide +kernel
theorem dX9_isPrime_11 : decode cX9_isPrime 11 = .ok (.iconst 0, 1) := by decide +kernel
theorem dX9_isPrime_12 : decode cX9_isPrime 12 = .ok (.ireturn, 1) := by decide +kernel
theorem dX9_isPrime_13 : decode cX9_isPrime 13 = .ok (.iconst 2, 1) := by decide +kernel
theorem dX9_isPrime_14 : decode cX9_isPrime 14 = .ok (.istore_n 1, 1) := by decide +kernel
theorem dX9_isPrime_15 : decode cX9_isPrime 15 = .ok (.iload_n 1, 1) := by decide +kernel
theorem dX9_isPrime_16 : decode cX9_isPrime 16 = .ok (.iload_n 1, 1) := by decide +kernel
theorem dX9_isPrime_17 : decode cX9_isPrime 17 = .ok (.imul, 1) := by decide +kernel
theorem dX9_isPrime_18 : decode cX9_isPrime 18 = .ok (.iload_n 0, 1) := by decide +kernel
theorem dX9_isPrime_19 : decode cX9_isPrime 19 = .ok (.if_icmp .gt 17, 3) := by decide +kernel
theorem dX9_isPrime_22 : decode cX9_isPrime 22 = .ok (.iload_n 0, 1) := by decide +kernel
theorem dX9_isPrime_23 : decode cX9_isPrime 23 = .ok (.iload_n 1, 1) := by decide +kernel
theorem dX9_isPrime_24 : decode cX9_isPrime 24 = .ok (.irem, 1) := by decide +kernel
theorem dX9_isPrime_25 : decode cX9_isPrime 25 = .ok (.ifCond .ne 5, 3) := by decide +kernel
theorem dX9_isPrime_28 : decode cX9_isPrime 28 = .ok (.iconst 0, 1) := by decide +kernel
theorem dX9_isPrime_29 : decode cX9_isPrime 29 = .ok (.ireturn, 1) := by decide +kernel
theorem dX9_isPrime_30 : decode cX9_isPrime 30 = .ok (.iinc 1 1, 3) := by decide +kernel
theorem dX9_isPrime_33 : decode cX9_isPrime 33 = .ok (.goto (-18), 3) := by decide +kernel
theorem dX9_isPrime_36 : decode cX9_isPrime 36 = .ok (.iconst 1, 1) := by decide +kernel
theorem dX9_isPrime_37 : decode cX9_isPrime 37 = .ok (.ireturn, 1) := by decide +kernel
theorem dX9_mix_0 : decode cX9_mix 0 = .ok (.iload_n 0, 1) := by decide +kernel
theorem dX9_mix_1 : decode cX9_mix 1 = .ok (.iload_n 1, 1) := by decide +kernel
theorem dX9_mix_2 : decode cX9_mix 2 = .ok (.imul, 1) := by decide +kernel
theorem dX9_mix_3 : decode cX9_mix 3 = .ok (.istore_n 2, 1) := by decide +kernel
theorem dX9_mix_4 : decode cX9_mix 4 = .ok (.iload_n 2, 1) := by decide +kernel
theorem dX9_mix_5 : decode cX9_mix 5 = .ok (.iload_n 2, 1) := by decide +kernel
theorem dX9_mix_6 : decode cX9_mix 6 = .ok (.bipush 15, 2) := by decide +kernel
theorem dX9_mix_8 : decode cX9_mix 8 = .ok (.iushr, 1) := by decide +kernel
theorem dX9_mix_9 : decode cX9_mix 9 = .ok (.ixor, 1) := by decide +kernel
theorem dX9_mix_10 : decode cX9_mix 10 = .ok (.istore_n 2, 1) := by decide +kernel
theorem dX9_mix_11 : decode cX9_mix 11 = .ok (.iload_n 2, 1) := by decide +kernel
theorem dX9_mix_12 : decode cX9_mix 12 = .ok (.ldc 43, 2) := by decide +kernel
theorem dX9_mix_14 : decode cX9_mix 14 = .ok (.imul, 1) := by decide +kernel
theorem dX9_mix_15 : decode cX9_mix 15 = .ok (.istore_n 2, 1) := by decide +kernel
theorem dX9_mix_16 : decode cX9_mix 16 = .ok (.iload_n 2, 1) := by decide +kernel
theorem dX9_mix_17 : decode cX9_mix 17 = .ok (.iload_n 2, 1) := by decide +kernel
theorem dX9_mix_18 : decode cX9_mix 18 = .ok (.bipush 13, 2) := by decide +kernel
theorem dX9_mix_20 : decode cX9_mix 20 = .ok (.iushr, 1) := by decide +kernel
theorem dX9_mix_21 : decode cX9_mix 21 = .ok (.ixor, 1) := by decide +kernel
theorem dX9_mix_22 : decode cX9_mix 22 = .ok (.istore_n 2, 1) := by decide +kernel
theorem dX9_mix_23 : decode cX9_mix 23 = .ok (.iload_n 2, 1) := by decide +kernel
theorem dX9_mix_24 : decode cX9_mix 24 = .ok (.iconst 1, 1) := by decide +kernel
theorem dX9_mix_25 : decode cX9_mix 25 = .ok (.iushr, 1) := by decide +kernel
theorem dX9_mix_26 : decode cX9_mix 26 = .ok (.ireturn, 1) := by decide +kernel
theorem dX9_stateOf_0 : decode cX9_stateOf 0 = .ok (.aload_n 0, 1) := by decide +kernel
theorem dX9_stateOf_1 : decode cX9_stateOf 1 = .ok (.getfield 7, 3) := by decide +kernel
theorem dX9_stateOf_4 : decode cX9_stateOf 4 = .ok (.bipush 21, 2) := by decide +kernel
theorem dX9_stateOf_6 : decode cX9_stateOf 6 = .ok (.bipush 8, 2) := by decide +kernel
theorem dX9_stateOf_8 : decode cX9_stateOf 8 = .ok (.iload_n 1, 1) := by decide +kernel
theorem dX9_stateOf_9 : decode cX9_stateOf 9 = .ok (.imul, 1) := by decide +kernel
theorem dX9_stateOf_10 : decode cX9_stateOf 10 = .ok (.iadd, 1) := by decide +kernel
theorem dX9_stateOf_11 : decode cX9_stateOf 11 = .ok (.iload_n 2, 1) := by decide +kernel
theorem dX9_stateOf_12 : decode cX9_stateOf 12 = .ok (.iadd, 1) := by decide +kernel
theorem dX9_stateOf_13 : decode cX9_stateOf 13 = .ok (.iaload, 1) := by decide +kernel
theorem dX9_stateOf_14 : decode cX9_stateOf 14 = .ok (.ireturn, 1) := by decide +kernel
theorem dX9_offset_0 : decode cX9_offset 0 = .ok (.aload_n 0, 1) := by decide +kernel
theorem dX9_offset_1 : decode cX9_offset 1 = .ok (.getfield 7, 3) := by decide +kernel
theorem dX9_offset_4 : decode cX9_offset 4 = .ok (.iconst 5, 1) := by decide +kernel
theorem dX9_offset_5 : decode cX9_offset 5 = .ok (.iload_n 1, 1) := by decide +kernel
theorem dX9_offset_6 : decode cX9_offset 6 = .ok (.iadd, 1) := by decide +kernel
theorem dX9_offset_7 : decode cX9_offset 7 = .ok (.iaload, 1) := by decide +kernel
theorem dX9_offset_8 : decode cX9_offset 8 = .ok (.ldc 44, 2) := by decide +kernel
theorem dX9_offset_10 : decode cX9_offset 10 = .ok (.invokestatic 45, 3) := by decide +kernel
theorem dX9_offset_13 : decode cX9_offset 13 = .ok (.iload_n 2, 1) := by decide +kernel
theorem dX9_offset_14 : decode cX9_offset 14 = .ok (.irem, 1) := by decide +kernel
theorem dX9_offset_15 : decode cX9_offset 15 = .ok (.ireturn, 1) := by decide +kernel
theorem dX9_skip_0 : decode cX9_skip 0 = .ok (.aload_n 0, 1) := by decide +kernel
theorem dX9_skip_1 : decode cX9_skip 1 = .ok (.getfield 7, 3) := by decide +kernel
theorem dX9_skip_4 : decode cX9_skip 4 = .ok (.iconst 5, 1) := by decide +kernel
theorem dX9_skip_5 : decode cX9_skip 5 = .ok (.iload_n 1, 1) := by decide +kernel
theorem dX9_skip_6 : decode cX9_skip 6 = .ok (.iadd, 1) := by decide +kernel
theorem dX9_skip_7 : decode cX9_skip 7 = .ok (.iaload, 1) := by decide +kernel
theorem dX9_skip_8 : decode cX9_skip 8 = .ok (.ldc 49, 2) := by decide +kernel
theorem dX9_skip_10 : decode cX9_skip 10 = .ok (.invokestatic 45, 3) := by decide +kernel
theorem dX9_skip_13 : decode cX9_skip 13 = .ok (.iload_n 2, 1) := by decide +kernel
theorem dX9_skip_14 : decode cX9_skip 14 = .ok (.iconst 1, 1) := by decide +kernel
theorem dX9_skip_15 : decode cX9_skip 15 = .ok (.isub, 1) := by decide +kernel
theorem dX9_skip_16 : decode cX9_skip 16 = .ok (.irem, 1) := by decide +kernel
theorem dX9_skip_17 : decode cX9_skip 17 = .ok (.iconst 1, 1) := by decide +kernel
theorem dX9_skip_18 : decode cX9_skip 18 = .ok (.iadd, 1) := by decide +kernel
theorem dX9_skip_19 : decode cX9_skip 19 = .ok (.ireturn, 1) := by decide +kernel
theorem dX9_sees_0 : decode cX9_sees 0 = .ok (.iconst 0, 1) := by decide +kernel
theorem dX9_sees_1 : decode cX9_sees 1 = .ok (.istore_n 2, 1) := by decide +kernel
theorem dX9_sees_2 : decode cX9_sees 2 = .ok (.iload_n 2, 1) := by decide +kernel
theorem dX9_sees_3 : decode cX9_sees 3 = .ok (.bipush 8, 2) := by decide +kernel
theorem dX9_sees_5 : decode cX9_sees 5 = .ok (.if_icmp .ge 40, 3) := by decide +kernel
theorem dX9_sees_8 : decode cX9_sees 8 = .ok (.aload_n 0, 1) := by decide +kernel
theorem dX9_sees_9 : decode cX9_sees 9 = .ok (.getfield 22, 3) := by decide +kernel
theorem dX9_sees_12 : decode cX9_sees 12 = .ok (.iload_n 2, 1) := by decide +kernel
theorem dX9_sees_13 : decode cX9_sees 13 = .ok (.iload_n 2, 1) := by decide +kernel
theorem dX9_sees_14 : decode cX9_sees 14 = .ok (.aload_n 0, 1) := by decide +kernel
theorem dX9_sees_15 : decode cX9_sees 15 = .ok (.getfield 7, 3) := by decide +kernel
theorem dX9_sees_18 : decode cX9_sees 18 = .ok (.iconst 1, 1) := by decide +kernel
theorem dX9_sees_19 : decode cX9_sees 19 = .ok (.iaload, 1) := by decide +kernel
theorem dX9_sees_20 : decode cX9_sees 20 = .ok (.if_icmp .ge 17, 3) := by decide +kernel
theorem dX9_sees_23 : decode cX9_sees 23 = .ok (.aload_n 0, 1) := by decide +kernel
theorem dX9_sees_24 : decode cX9_sees 24 = .ok (.iload_n 1, 1) := by decide +kernel
theorem dX9_sees_25 : decode cX9_sees 25 = .ok (.iload_n 2, 1) := by decide +kernel
theorem dX9_sees_26 : decode cX9_sees 26 = .ok (.invokevirtual 50, 3) := by decide +kernel
theorem dX9_sees_29 : decode cX9_sees 29 = .ok (.iconst 1, 1) := by decide +kernel
theorem dX9_sees_30 : decode cX9_sees 30 = .ok (.if_icmp .ne 7, 3) := by decide +kernel
theorem dX9_sees_33 : decode cX9_sees 33 = .ok (.iconst 1, 1) := by decide +kernel
theorem dX9_sees_34 : decode cX9_sees 34 = .ok (.goto 4, 3) := by decide +kernel
theorem dX9_sees_37 : decode cX9_sees 37 = .ok (.iconst 0, 1) := by decide +kernel
theorem dX9_sees_38 : decode cX9_sees 38 = .ok (.bastore, 1) := by decide +kernel
theorem dX9_sees_39 : decode cX9_sees 39 = .ok (.iinc 2 1, 3) := by decide +kernel
theorem dX9_sees_42 : decode cX9_sees 42 = .ok (.goto (-40), 3) := by decide +kernel
theorem dX9_sees_45 : decode cX9_sees 45 = .ok (.return_, 1) := by decide +kernel
theorem dX9_greatest_0 : decode cX9_greatest 0 = .ok (.iconst 0, 1) := by decide +kernel
theorem dX9_greatest_1 : decode cX9_greatest 1 = .ok (.istore_n 1, 1) := by decide +kernel
theorem dX9_greatest_2 : decode cX9_greatest 2 = .ok (.iconst 0, 1) := by decide +kernel
theorem dX9_greatest_3 : decode cX9_greatest 3 = .ok (.istore_n 2, 1) := by decide +kernel
theorem dX9_greatest_4 : decode cX9_greatest 4 = .ok (.iload_n 2, 1) := by decide +kernel
theorem dX9_greatest_5 : decode cX9_greatest 5 = .ok (.bipush 8, 2) := by decide +kernel
theorem dX9_greatest_7 : decode cX9_greatest 7 = .ok (.if_icmp .ge 45, 3) := by decide +kernel
theorem dX9_greatest_10 : decode cX9_greatest 10 = .ok (.aload_n 0, 1) := by decide +kernel
theorem dX9_greatest_11 : decode cX9_greatest 11 = .ok (.getfield 22, 3) := by decide +kernel
theorem dX9_greatest_14 : decode cX9_greatest 14 = .ok (.iload_n 2, 1) := by decide +kernel
theorem dX9_greatest_15 : decode cX9_greatest 15 = .ok (.baload, 1) := by decide +kernel
theorem dX9_greatest_16 : decode cX9_greatest 16 = .ok (.ifCond .eq 28, 3) := by decide +kernel
theorem dX9_greatest_19 : decode cX9_greatest 19 = .ok (.aload_n 0, 1) := by decide +kernel
theorem dX9_greatest_20 : decode cX9_greatest 20 = .ok (.getfield 7, 3) := by decide +kernel
theorem dX9_greatest_23 : decode cX9_greatest 23 = .ok (.bipush 13, 2) := by decide +kernel
theorem dX9_greatest_25 : decode cX9_greatest 25 = .ok (.iload_n 2, 1) := by decide +kernel
theorem dX9_greatest_26 : decode cX9_greatest 26 = .ok (.iadd, 1) := by decide +kernel
theorem dX9_greatest_27 : decode cX9_greatest 27 = .ok (.iaload, 1) := by decide +kernel
theorem dX9_greatest_28 : decode cX9_greatest 28 = .ok (.iload_n 1, 1) := by decide +kernel
theorem dX9_greatest_29 : decode cX9_greatest 29 = .ok (.if_icmp .le 15, 3) := by decide +kernel
theorem dX9_greatest_32 : decode cX9_greatest 32 = .ok (.aload_n 0, 1) := by decide +kernel
theorem dX9_greatest_33 : decode cX9_greatest 33 = .ok (.getfield 7, 3) := by decide +kernel
theorem dX9_greatest_36 : decode cX9_greatest 36 = .ok (.bipush 13, 2) := by decide +kernel
theorem dX9_greatest_38 : decode cX9_greatest 38 = .ok (.iload_n 2, 1) := by decide +kernel
theorem dX9_greatest_39 : decode cX9_greatest 39 = .ok (.iadd, 1) := by decide +kernel
theorem dX9_greatest_40 : decode cX9_greatest 40 = .ok (.iaload, 1) := by decide +kernel
theorem dX9_greatest_41 : decode cX9_greatest 41 = .ok (.goto 4, 3) := by decide +kernel
theorem dX9_greatest_44 : decode cX9_greatest 44 = .ok (.iload_n 1, 1) := by decide +kernel
theorem dX9_greatest_45 : decode cX9_greatest 45 = .ok (.istore_n 1, 1) := by decide +kernel
theorem dX9_greatest_46 : decode cX9_greatest 46 = .ok (.iinc 2 1, 3) := by decide +kernel
theorem dX9_greatest_49 : decode cX9_greatest 49 = .ok (.goto (-45), 3) := by decide +kernel
theorem dX9_greatest_52 : decode cX9_greatest 52 = .ok (.iload_n 1, 1) := by decide +kernel
theorem dX9_greatest_53 : decode cX9_greatest 53 = .ok (.ireturn, 1) := by decide +kernel
theorem dX9_takes_0 : decode cX9_takes 0 = .ok (.aload_n 0, 1) := by decide +kernel
theorem dX9_takes_1 : decode cX9_takes 1 = .ok (.iload_n 1, 1) := by decide +kernel
theorem dX9_takes_2 : decode cX9_takes 2 = .ok (.iload_n 2, 1) := by decide +kernel
theorem dX9_takes_3 : decode cX9_takes 3 = .ok (.invokevirtual 53, 3) := by decide +kernel
theorem dX9_takes_6 : decode cX9_takes 6 = .ok (.aload_n 0, 1) := by decide +kernel
theorem dX9_takes_7 : decode cX9_takes 7 = .ok (.getfield 29, 3) := by decide +kernel
theorem dX9_takes_10 : decode cX9_takes 10 = .ok (.iload_n 1, 1) := by decide +kernel
theorem dX9_takes_11 : decode cX9_takes 11 = .ok (.iaload, 1) := by decide +kernel
theorem dX9_takes_12 : decode cX9_takes 12 = .ok (.aload_n 0, 1) := by decide +kernel
theorem dX9_takes_13 : decode cX9_takes 13 = .ok (.iload_n 1, 1) := by decide +kernel
theorem dX9_takes_14 : decode cX9_takes 14 = .ok (.iload_n 2, 1) := by decide +kernel
theorem dX9_takes_15 : decode cX9_takes 15 = .ok (.invokevirtual 56, 3) := by decide +kernel
theorem dX9_takes_18 : decode cX9_takes 18 = .ok (.imul, 1) := by decide +kernel
theorem dX9_takes_19 : decode cX9_takes 19 = .ok (.iadd, 1) := by decide +kernel
theorem dX9_takes_20 : decode cX9_takes 20 = .ok (.iload_n 2, 1) := by decide +kernel
theorem dX9_takes_21 : decode cX9_takes 21 = .ok (.irem, 1) := by decide +kernel
theorem dX9_takes_22 : decode cX9_takes 22 = .ok (.istore_n 3, 1) := by decide +kernel
theorem dX9_takes_23 : decode cX9_takes 23 = .ok (.aload_n 0, 1) := by decide +kernel
theorem dX9_takes_24 : decode cX9_takes 24 = .ok (.getfield 16, 3) := by decide +kernel
theorem dX9_takes_27 : decode cX9_takes 27 = .ok (.iload_n 3, 1) := by decide +kernel
theorem dX9_takes_28 : decode cX9_takes 28 = .ok (.iaload, 1) := by decide +kernel
theorem dX9_takes_29 : decode cX9_takes 29 = .ok (.iconst (-1), 1) := by decide +kernel
theorem dX9_takes_30 : decode cX9_takes 30 = .ok (.if_icmp .eq 39, 3) := by decide +kernel
theorem dX9_takes_33 : decode cX9_takes 33 = .ok (.aload_n 0, 1) := by decide +kernel
theorem dX9_takes_34 : decode cX9_takes 34 = .ok (.getfield 29, 3) := by decide +kernel
theorem dX9_takes_37 : decode cX9_takes 37 = .ok (.iload_n 1, 1) := by decide +kernel
theorem dX9_takes_38 : decode cX9_takes 38 = .ok (.dup2, 1) := by decide +kernel
theorem dX9_takes_39 : decode cX9_takes 39 = .ok (.iaload, 1) := by decide +kernel
theorem dX9_takes_40 : decode cX9_takes 40 = .ok (.iconst 1, 1) := by decide +kernel
theorem dX9_takes_41 : decode cX9_takes 41 = .ok (.iadd, 1) := by decide +kernel
theorem dX9_takes_42 : decode cX9_takes 42 = .ok (.iastore, 1) := by decide +kernel
theorem dX9_takes_43 : decode cX9_takes 43 = .ok (.aload_n 0, 1) := by decide +kernel
theorem dX9_takes_44 : decode cX9_takes 44 = .ok (.iload_n 1, 1) := by decide +kernel
theorem dX9_takes_45 : decode cX9_takes 45 = .ok (.iload_n 2, 1) := by decide +kernel
theorem dX9_takes_46 : decode cX9_takes 46 = .ok (.invokevirtual 53, 3) := by decide +kernel
theorem dX9_takes_49 : decode cX9_takes 49 = .ok (.aload_n 0, 1) := by decide +kernel
theorem dX9_takes_50 : decode cX9_takes 50 = .ok (.getfield 29, 3) := by decide +kernel
theorem dX9_takes_53 : decode cX9_takes 53 = .ok (.iload_n 1, 1) := by decide +kernel
theorem dX9_takes_54 : decode cX9_takes 54 = .ok (.iaload, 1) := by decide +kernel
theorem dX9_takes_55 : decode cX9_takes 55 = .ok (.aload_n 0, 1) := by decide +kernel
theorem dX9_takes_56 : decode cX9_takes 56 = .ok (.iload_n 1, 1) := by decide +kernel
theorem dX9_takes_57 : decode cX9_takes 57 = .ok (.iload_n 2, 1) := by decide +kernel
theorem dX9_takes_58 : decode cX9_takes 58 = .ok (.invokevirtual 56, 3) := by decide +kernel
theorem dX9_takes_61 : decode cX9_takes 61 = .ok (.imul, 1) := by decide +kernel
theorem dX9_takes_62 : decode cX9_takes 62 = .ok (.iadd, 1) := by decide +kernel
theorem dX9_takes_63 : decode cX9_takes 63 = .ok (.iload_n 2, 1) := by decide +kernel
theorem dX9_takes_64 : decode cX9_takes 64 = .ok (.irem, 1) := by decide +kernel
theorem dX9_takes_65 : decode cX9_takes 65 = .ok (.istore_n 3, 1) := by decide +kernel
theorem dX9_takes_66 : decode cX9_takes 66 = .ok (.goto (-43), 3) := by decide +kernel
theorem dX9_takes_69 : decode cX9_takes 69 = .ok (.aload_n 0, 1) := by decide +kernel
theorem dX9_takes_70 : decode cX9_takes 70 = .ok (.getfield 16, 3) := by decide +kernel
theorem dX9_takes_73 : decode cX9_takes 73 = .ok (.iload_n 3, 1) := by decide +kernel
theorem dX9_takes_74 : decode cX9_takes 74 = .ok (.iload_n 1, 1) := by decide +kernel
theorem dX9_takes_75 : decode cX9_takes 75 = .ok (.iastore, 1) := by decide +kernel
theorem dX9_takes_76 : decode cX9_takes 76 = .ok (.return_, 1) := by decide +kernel
theorem dX9_lays_0 : decode cX9_lays 0 = .ok (.iconst 0, 1) := by decide +kernel
theorem dX9_lays_1 : decode cX9_lays 1 = .ok (.istore_n 2, 1) := by decide +kernel
theorem dX9_lays_2 : decode cX9_lays 2 = .ok (.iload_n 2, 1) := by decide +kernel
theorem dX9_lays_3 : decode cX9_lays 3 = .ok (.iload_n 1, 1) := by decide +kernel
theorem dX9_lays_4 : decode cX9_lays 4 = .ok (.if_icmp .ge 16, 3) := by decide +kernel
theorem dX9_lays_7 : decode cX9_lays 7 = .ok (.aload_n 0, 1) := by decide +kernel
theorem dX9_lays_8 : decode cX9_lays 8 = .ok (.getfield 16, 3) := by decide +kernel
theorem dX9_lays_11 : decode cX9_lays 11 = .ok (.iload_n 2, 1) := by decide +kernel
theorem dX9_lays_12 : decode cX9_lays 12 = .ok (.iconst (-1), 1) := by decide +kernel
theorem dX9_lays_13 : decode cX9_lays 13 = .ok (.iastore, 1) := by decide +kernel
theorem dX9_lays_14 : decode cX9_lays 14 = .ok (.iinc 2 1, 3) := by decide +kernel
theorem dX9_lays_17 : decode cX9_lays 17 = .ok (.goto (-15), 3) := by decide +kernel
theorem dX9_lays_20 : decode cX9_lays 20 = .ok (.iconst 0, 1) := by decide +kernel
theorem dX9_lays_21 : decode cX9_lays 21 = .ok (.istore_n 2, 1) := by decide +kernel
theorem dX9_lays_22 : decode cX9_lays 22 = .ok (.iload_n 2, 1) := by decide +kernel
theorem dX9_lays_23 : decode cX9_lays 23 = .ok (.bipush 8, 2) := by decide +kernel
theorem dX9_lays_25 : decode cX9_lays 25 = .ok (.if_icmp .ge 23, 3) := by decide +kernel
theorem dX9_lays_28 : decode cX9_lays 28 = .ok (.aload_n 0, 1) := by decide +kernel
theorem dX9_lays_29 : decode cX9_lays 29 = .ok (.getfield 26, 3) := by decide +kernel
theorem dX9_lays_32 : decode cX9_lays 32 = .ok (.iload_n 2, 1) := by decide +kernel
theorem dX9_lays_33 : decode cX9_lays 33 = .ok (.iconst 0, 1) := by decide +kernel
theorem dX9_lays_34 : decode cX9_lays 34 = .ok (.iastore, 1) := by decide +kernel
theorem dX9_lays_35 : decode cX9_lays 35 = .ok (.aload_n 0, 1) := by decide +kernel
theorem dX9_lays_36 : decode cX9_lays 36 = .ok (.getfield 29, 3) := by decide +kernel
theorem dX9_lays_39 : decode cX9_lays 39 = .ok (.iload_n 2, 1) := by decide +kernel
theorem dX9_lays_40 : decode cX9_lays 40 = .ok (.iconst 0, 1) := by decide +kernel
theorem dX9_lays_41 : decode cX9_lays 41 = .ok (.iastore, 1) := by decide +kernel
theorem dX9_lays_42 : decode cX9_lays 42 = .ok (.iinc 2 1, 3) := by decide +kernel
theorem dX9_lays_45 : decode cX9_lays 45 = .ok (.goto (-23), 3) := by decide +kernel
theorem dX9_lays_48 : decode cX9_lays 48 = .ok (.aload_n 0, 1) := by decide +kernel
theorem dX9_lays_49 : decode cX9_lays 49 = .ok (.invokevirtual 59, 3) := by decide +kernel
theorem dX9_lays_52 : decode cX9_lays 52 = .ok (.istore_n 2, 1) := by decide +kernel
theorem dX9_lays_53 : decode cX9_lays 53 = .ok (.iload_n 2, 1) := by decide +kernel
theorem dX9_lays_54 : decode cX9_lays 54 = .ok (.ifCond .ne 7, 3) := by decide +kernel
theorem dX9_lays_57 : decode cX9_lays 57 = .ok (.iconst 0, 1) := by decide +kernel
theorem dX9_lays_58 : decode cX9_lays 58 = .ok (.goto 4, 3) := by decide +kernel
theorem dX9_lays_61 : decode cX9_lays 61 = .ok (.iload_n 1, 1) := by decide +kernel
theorem dX9_lays_62 : decode cX9_lays 62 = .ok (.istore_n 3, 1) := by decide +kernel
theorem dX9_lays_63 : decode cX9_lays 63 = .ok (.iconst 0, 1) := by decide +kernel
theorem dX9_lays_64 : decode cX9_lays 64 = .ok (.istore 4, 2) := by decide +kernel
theorem dX9_lays_66 : decode cX9_lays 66 = .ok (.iload_n 3, 1) := by decide +kernel
theorem dX9_lays_67 : decode cX9_lays 67 = .ok (.ifCond .le 77, 3) := by decide +kernel
theorem dX9_lays_70 : decode cX9_lays 70 = .ok (.aload_n 0, 1) := by decide +kernel
theorem dX9_lays_71 : decode cX9_lays 71 = .ok (.getfield 22, 3) := by decide +kernel
theorem dX9_lays_74 : decode cX9_lays 74 = .ok (.iload 4, 2) := by decide +kernel
theorem dX9_lays_76 : decode cX9_lays 76 = .ok (.baload, 1) := by decide +kernel
theorem dX9_lays_77 : decode cX9_lays 77 = .ok (.ifCond .eq 55, 3) := by decide +kernel
theorem dX9_lays_80 : decode cX9_lays 80 = .ok (.aload_n 0, 1) := by decide +kernel
theorem dX9_lays_81 : decode cX9_lays 81 = .ok (.getfield 26, 3) := by decide +kernel
theorem dX9_lays_84 : decode cX9_lays 84 = .ok (.iload 4, 2) := by decide +kernel
theorem dX9_lays_86 : decode cX9_lays 86 = .ok (.dup2, 1) := by decide +kernel
theorem dX9_lays_87 : decode cX9_lays 87 = .ok (.iaload, 1) := by decide +kernel
theorem dX9_lays_88 : decode cX9_lays 88 = .ok (.aload_n 0, 1) := by decide +kernel
theorem dX9_lays_89 : decode cX9_lays 89 = .ok (.getfield 7, 3) := by decide +kernel
theorem dX9_lays_92 : decode cX9_lays 92 = .ok (.bipush 13, 2) := by decide +kernel
theorem dX9_lays_94 : decode cX9_lays 94 = .ok (.iload 4, 2) := by decide +kernel
theorem dX9_lays_96 : decode cX9_lays 96 = .ok (.iadd, 1) := by decide +kernel
theorem dX9_lays_97 : decode cX9_lays 97 = .ok (.iaload, 1) := by decide +kernel
theorem dX9_lays_98 : decode cX9_lays 98 = .ok (.iadd, 1) := by decide +kernel
theorem dX9_lays_99 : decode cX9_lays 99 = .ok (.iastore, 1) := by decide +kernel
theorem dX9_lays_100 : decode cX9_lays 100 = .ok (.aload_n 0, 1) := by decide +kernel
theorem dX9_lays_101 : decode cX9_lays 101 = .ok (.getfield 26, 3) := by decide +kernel
theorem dX9_lays_104 : decode cX9_lays 104 = .ok (.iload 4, 2) := by decide +kernel
theorem dX9_lays_106 : decode cX9_lays 106 = .ok (.iaload, 1) := by decide +kernel
theorem dX9_lays_107 : decode cX9_lays 107 = .ok (.iload_n 2, 1) := by decide +kernel
theorem dX9_lays_108 : decode cX9_lays 108 = .ok (.if_icmp .lt 24, 3) := by decide +kernel
theorem dX9_lays_111 : decode cX9_lays 111 = .ok (.aload_n 0, 1) := by decide +kernel
theorem dX9_lays_112 : decode cX9_lays 112 = .ok (.getfield 26, 3) := by decide +kernel
theorem dX9_lays_115 : decode cX9_lays 115 = .ok (.iload 4, 2) := by decide +kernel
theorem dX9_lays_117 : decode cX9_lays 117 = .ok (.dup2, 1) := by decide +kernel
theorem dX9_lays_118 : decode cX9_lays 118 = .ok (.iaload, 1) := by decide +kernel
theorem dX9_lays_119 : decode cX9_lays 119 = .ok (.iload_n 2, 1) := by decide +kernel
theorem dX9_lays_120 : decode cX9_lays 120 = .ok (.isub, 1) := by decide +kernel
theorem dX9_lays_121 : decode cX9_lays 121 = .ok (.iastore, 1) := by decide +kernel
theorem dX9_lays_122 : decode cX9_lays 122 = .ok (.aload_n 0, 1) := by decide +kernel
theorem dX9_lays_123 : decode cX9_lays 123 = .ok (.iload 4, 2) := by decide +kernel
theorem dX9_lays_125 : decode cX9_lays 125 = .ok (.iload_n 1, 1) := by decide +kernel
theorem dX9_lays_126 : decode cX9_lays 126 = .ok (.invokevirtual 63, 3) := by decide +kernel
theorem dX9_lays_129 : decode cX9_lays 129 = .ok (.iinc 3 (-1), 3) := by decide +kernel
theorem dX9_lays_132 : decode cX9_lays 132 = .ok (.iload 4, 2) := by decide +kernel
theorem dX9_lays_134 : decode cX9_lays 134 = .ok (.iconst 1, 1) := by decide +kernel
theorem dX9_lays_135 : decode cX9_lays 135 = .ok (.iadd, 1) := by decide +kernel
theorem dX9_lays_136 : decode cX9_lays 136 = .ok (.bipush 8, 2) := by decide +kernel
theorem dX9_lays_138 : decode cX9_lays 138 = .ok (.irem, 1) := by decide +kernel
theorem dX9_lays_139 : decode cX9_lays 139 = .ok (.istore 4, 2) := by decide +kernel
theorem dX9_lays_141 : decode cX9_lays 141 = .ok (.goto (-75), 3) := by decide +kernel
theorem dX9_lays_144 : decode cX9_lays 144 = .ok (.return_, 1) := by decide +kernel
theorem dX9_laysGate_0 : decode cX9_laysGate 0 = .ok (.aload_n 0, 1) := by decide +kernel
theorem dX9_laysGate_1 : decode cX9_laysGate 1 = .ok (.iload_n 1, 1) := by decide +kernel
theorem dX9_laysGate_2 : decode cX9_laysGate 2 = .ok (.invokevirtual 67, 3) := by decide +kernel
theorem dX9_laysGate_5 : decode cX9_laysGate 5 = .ok (.aload_n 0, 1) := by decide +kernel
theorem dX9_laysGate_6 : decode cX9_laysGate 6 = .ok (.aload_n 0, 1) := by decide +kernel
theorem dX9_laysGate_7 : decode cX9_laysGate 7 = .ok (.getfield 7, 3) := by decide +kernel
theorem dX9_laysGate_10 : decode cX9_laysGate 10 = .ok (.iconst 0, 1) := by decide +kernel
theorem dX9_laysGate_11 : decode cX9_laysGate 11 = .ok (.iaload, 1) := by decide +kernel
theorem dX9_laysGate_12 : decode cX9_laysGate 12 = .ok (.invokevirtual 71, 3) := by decide +kernel
theorem dX9_laysGate_15 : decode cX9_laysGate 15 = .ok (.return_, 1) := by decide +kernel
theorem dX9_copiesLaid_0 : decode cX9_copiesLaid 0 = .ok (.iconst 0, 1) := by decide +kernel
theorem dX9_copiesLaid_1 : decode cX9_copiesLaid 1 = .ok (.istore_n 1, 1) := by decide +kernel
theorem dX9_copiesLaid_2 : decode cX9_copiesLaid 2 = .ok (.iload_n 1, 1) := by decide +kernel
theorem dX9_copiesLaid_3 : decode cX9_copiesLaid 3 = .ok (.aload_n 0, 1) := by decide +kernel
theorem dX9_copiesLaid_4 : decode cX9_copiesLaid 4 = .ok (.getfield 7, 3) := by decide +kernel
theorem dX9_copiesLaid_7 : decode cX9_copiesLaid 7 = .ok (.iconst 0, 1) := by decide +kernel
theorem dX9_copiesLaid_8 : decode cX9_copiesLaid 8 = .ok (.iaload, 1) := by decide +kernel
theorem dX9_copiesLaid_9 : decode cX9_copiesLaid 9 = .ok (.if_icmp .ge 21, 3) := by decide +kernel
theorem dX9_copiesLaid_12 : decode cX9_copiesLaid 12 = .ok (.aload_n 0, 1) := by decide +kernel
theorem dX9_copiesLaid_13 : decode cX9_copiesLaid 13 = .ok (.getfield 19, 3) := by decide +kernel
theorem dX9_copiesLaid_16 : decode cX9_copiesLaid 16 = .ok (.iload_n 1, 1) := by decide +kernel
theorem dX9_copiesLaid_17 : decode cX9_copiesLaid 17 = .ok (.aload_n 0, 1) := by decide +kernel
theorem dX9_copiesLaid_18 : decode cX9_copiesLaid 18 = .ok (.getfield 16, 3) := by decide +kernel
theorem dX9_copiesLaid_21 : decode cX9_copiesLaid 21 = .ok (.iload_n 1, 1) := by decide +kernel
theorem dX9_copiesLaid_22 : decode cX9_copiesLaid 22 = .ok (.iaload, 1) := by decide +kernel
theorem dX9_copiesLaid_23 : decode cX9_copiesLaid 23 = .ok (.iastore, 1) := by decide +kernel
theorem dX9_copiesLaid_24 : decode cX9_copiesLaid 24 = .ok (.iinc 1 1, 3) := by decide +kernel
theorem dX9_copiesLaid_27 : decode cX9_copiesLaid 27 = .ok (.goto (-25), 3) := by decide +kernel
theorem dX9_copiesLaid_30 : decode cX9_copiesLaid 30 = .ok (.return_, 1) := by decide +kernel
theorem dX9_flowOf_0 : decode cX9_flowOf 0 = .ok (.aload_n 0, 1) := by decide +kernel
theorem dX9_flowOf_1 : decode cX9_flowOf 1 = .ok (.getfield 7, 3) := by decide +kernel
theorem dX9_flowOf_4 : decode cX9_flowOf 4 = .ok (.bipush 57, 2) := by decide +kernel
theorem dX9_flowOf_6 : decode cX9_flowOf 6 = .ok (.bipush 16, 2) := by decide +kernel
theorem dX9_flowOf_8 : decode cX9_flowOf 8 = .ok (.iload_n 1, 1) := by decide +kernel
theorem dX9_flowOf_9 : decode cX9_flowOf 9 = .ok (.imul, 1) := by decide +kernel
theorem dX9_flowOf_10 : decode cX9_flowOf 10 = .ok (.iadd, 1) := by decide +kernel
theorem dX9_flowOf_11 : decode cX9_flowOf 11 = .ok (.iload_n 2, 1) := by decide +kernel
theorem dX9_flowOf_12 : decode cX9_flowOf 12 = .ok (.iadd, 1) := by decide +kernel
theorem dX9_flowOf_13 : decode cX9_flowOf 13 = .ok (.iaload, 1) := by decide +kernel
theorem dX9_flowOf_14 : decode cX9_flowOf 14 = .ok (.ireturn, 1) := by decide +kernel
theorem dX9_toOf_0 : decode cX9_toOf 0 = .ok (.aload_n 0, 1) := by decide +kernel
theorem dX9_toOf_1 : decode cX9_toOf 1 = .ok (.getfield 7, 3) := by decide +kernel
theorem dX9_toOf_4 : decode cX9_toOf 4 = .ok (.bipush 121, 2) := by decide +kernel
theorem dX9_toOf_6 : decode cX9_toOf 6 = .ok (.bipush 16, 2) := by decide +kernel
theorem dX9_toOf_8 : decode cX9_toOf 8 = .ok (.iload_n 1, 1) := by decide +kernel
theorem dX9_toOf_9 : decode cX9_toOf 9 = .ok (.imul, 1) := by decide +kernel
theorem dX9_toOf_10 : decode cX9_toOf 10 = .ok (.iadd, 1) := by decide +kernel
theorem dX9_toOf_11 : decode cX9_toOf 11 = .ok (.iload_n 2, 1) := by decide +kernel
theorem dX9_toOf_12 : decode cX9_toOf 12 = .ok (.iadd, 1) := by decide +kernel
theorem dX9_toOf_13 : decode cX9_toOf 13 = .ok (.iaload, 1) := by decide +kernel
theorem dX9_toOf_14 : decode cX9_toOf 14 = .ok (.ireturn, 1) := by decide +kernel
theorem dX9_whenOf_0 : decode cX9_whenOf 0 = .ok (.aload_n 0, 1) := by decide +kernel
theorem dX9_whenOf_1 : decode cX9_whenOf 1 = .ok (.getfield 7, 3) := by decide +kernel
theorem dX9_whenOf_4 : decode cX9_whenOf 4 = .ok (.sipush 185, 3) := by decide +kernel
theorem dX9_whenOf_7 : decode cX9_whenOf 7 = .ok (.bipush 16, 2) := by decide +kernel
theorem dX9_whenOf_9 : decode cX9_whenOf 9 = .ok (.iload_n 1, 1) := by decide +kernel
theorem dX9_whenOf_10 : decode cX9_whenOf 10 = .ok (.imul, 1) := by decide +kernel
theorem dX9_whenOf_11 : decode cX9_whenOf 11 = .ok (.iadd, 1) := by decide +kernel
theorem dX9_whenOf_12 : decode cX9_whenOf 12 = .ok (.iload_n 2, 1) := by decide +kernel
theorem dX9_whenOf_13 : decode cX9_whenOf 13 = .ok (.iadd, 1) := by decide +kernel
theorem dX9_whenOf_14 : decode cX9_whenOf 14 = .ok (.iaload, 1) := by decide +kernel
theorem dX9_whenOf_15 : decode cX9_whenOf 15 = .ok (.ireturn, 1) := by decide +kernel
theorem dX9_placeOf_0 : decode cX9_placeOf 0 = .ok (.iconst 0, 1) := by decide +kernel
theorem dX9_placeOf_1 : decode cX9_placeOf 1 = .ok (.istore_n 3, 1) := by decide +kernel
theorem dX9_placeOf_2 : decode cX9_placeOf 2 = .ok (.iload_n 3, 1) := by decide +kernel
theorem dX9_placeOf_3 : decode cX9_placeOf 3 = .ok (.aload_n 0, 1) := by decide +kernel
theorem dX9_placeOf_4 : decode cX9_placeOf 4 = .ok (.getfield 7, 3) := by decide +kernel
theorem dX9_placeOf_7 : decode cX9_placeOf 7 = .ok (.bipush 53, 2) := by decide +kernel
theorem dX9_placeOf_9 : decode cX9_placeOf 9 = .ok (.iload_n 1, 1) := by decide +kernel
