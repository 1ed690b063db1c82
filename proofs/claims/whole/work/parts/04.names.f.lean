theorem dX5_fair_14 : decode cX5_fair 14 = .ok (.iconst 1, 1) := by decide +kernel
theorem dX5_fair_15 : decode cX5_fair 15 = .ok (.invokevirtual 143, 3) := by decide +kernel
theorem dX5_fair_18 : decode cX5_fair 18 = .ok (.iconst 1, 1) := by decide +kernel
theorem dX5_fair_19 : decode cX5_fair 19 = .ok (.invokevirtual 147, 3) := by decide +kernel
theorem dX5_fair_22 : decode cX5_fair 22 = .ok (.goto 5, 3) := by decide +kernel
theorem dX5_fair_25 : decode cX5_fair 25 = .ok (.bipush (-2), 2) := by decide +kernel
theorem dX5_fair_27 : decode cX5_fair 27 = .ok (.ireturn, 1) := by decide +kernel
theorem dX5_best_0 : decode cX5_best 0 = .ok (.iload_n 1, 1) := by decide +kernel
theorem dX5_best_1 : decode cX5_best 1 = .ok (.iconst 2, 1) := by decide +kernel
theorem dX5_best_2 : decode cX5_best 2 = .ok (.iconst 4, 1) := by decide +kernel
theorem dX5_best_3 : decode cX5_best 3 = .ok (.invokestatic 66, 3) := by decide +kernel
theorem dX5_best_6 : decode cX5_best 6 = .ok (.ifCond .ne 6, 3) := by decide +kernel
theorem dX5_best_9 : decode cX5_best 9 = .ok (.bipush (-2), 2) := by decide +kernel
theorem dX5_best_11 : decode cX5_best 11 = .ok (.ireturn, 1) := by decide +kernel
theorem dX5_best_12 : decode cX5_best 12 = .ok (.aload_n 0, 1) := by decide +kernel
theorem dX5_best_13 : decode cX5_best 13 = .ok (.iload_n 1, 1) := by decide +kernel
theorem dX5_best_14 : decode cX5_best 14 = .ok (.iconst 0, 1) := by decide +kernel
theorem dX5_best_15 : decode cX5_best 15 = .ok (.invokevirtual 143, 3) := by decide +kernel
theorem dX5_best_18 : decode cX5_best 18 = .ok (.istore_n 3, 1) := by decide +kernel
theorem dX5_best_19 : decode cX5_best 19 = .ok (.aload_n 0, 1) := by decide +kernel
theorem dX5_best_20 : decode cX5_best 20 = .ok (.iload_n 1, 1) := by decide +kernel
theorem dX5_best_21 : decode cX5_best 21 = .ok (.iload_n 2, 1) := by decide +kernel
theorem dX5_best_22 : decode cX5_best 22 = .ok (.iload_n 3, 1) := by decide +kernel
theorem dX5_best_23 : decode cX5_best 23 = .ok (.aload_n 0, 1) := by decide +kernel
theorem dX5_best_24 : decode cX5_best 24 = .ok (.getfield 133, 3) := by decide +kernel
theorem dX5_best_27 : decode cX5_best 27 = .ok (.invokevirtual 147, 3) := by decide +kernel
theorem dX5_best_30 : decode cX5_best 30 = .ok (.ireturn, 1) := by decide +kernel
theorem dX5_toll_0 : decode cX5_toll 0 = .ok (.iload_n 1, 1) := by decide +kernel
theorem dX5_toll_1 : decode cX5_toll 1 = .ok (.iconst 0, 1) := by decide +kernel
theorem dX5_toll_2 : decode cX5_toll 2 = .ok (.bipush 99, 2) := by decide +kernel
theorem dX5_toll_4 : decode cX5_toll 4 = .ok (.invokestatic 66, 3) := by decide +kernel
theorem dX5_toll_7 : decode cX5_toll 7 = .ok (.ifCond .ne 6, 3) := by decide +kernel
theorem dX5_toll_10 : decode cX5_toll 10 = .ok (.bipush (-2), 2) := by decide +kernel
theorem dX5_toll_12 : decode cX5_toll 12 = .ok (.ireturn, 1) := by decide +kernel
theorem dX5_toll_13 : decode cX5_toll 13 = .ok (.aload_n 0, 1) := by decide +kernel
theorem dX5_toll_14 : decode cX5_toll 14 = .ok (.getfield 25, 3) := by decide +kernel
theorem dX5_toll_17 : decode cX5_toll 17 = .ok (.istore_n 2, 1) := by decide +kernel
theorem dX5_toll_18 : decode cX5_toll 18 = .ok (.aload_n 0, 1) := by decide +kernel
theorem dX5_toll_19 : decode cX5_toll 19 = .ok (.iload_n 1, 1) := by decide +kernel
theorem dX5_toll_20 : decode cX5_toll 20 = .ok (.putfield 25, 3) := by decide +kernel
theorem dX5_toll_23 : decode cX5_toll 23 = .ok (.iload_n 2, 1) := by decide +kernel
theorem dX5_toll_24 : decode cX5_toll 24 = .ok (.ireturn, 1) := by decide +kernel
theorem dX5_right_0 : decode cX5_right 0 = .ok (.iload_n 1, 1) := by decide +kernel
theorem dX5_right_1 : decode cX5_right 1 = .ok (.invokestatic 97, 3) := by decide +kernel
theorem dX5_right_4 : decode cX5_right 4 = .ok (.ifCond .eq 15, 3) := by decide +kernel
theorem dX5_right_7 : decode cX5_right 7 = .ok (.iload_n 2, 1) := by decide +kernel
theorem dX5_right_8 : decode cX5_right 8 = .ok (.invokestatic 97, 3) := by decide +kernel
theorem dX5_right_11 : decode cX5_right 11 = .ok (.ifCond .eq 8, 3) := by decide +kernel
theorem dX5_right_14 : decode cX5_right 14 = .ok (.iload_n 1, 1) := by decide +kernel
theorem dX5_right_15 : decode cX5_right 15 = .ok (.iload_n 2, 1) := by decide +kernel
theorem dX5_right_16 : decode cX5_right 16 = .ok (.if_icmp .ne 5, 3) := by decide +kernel
theorem dX5_right_19 : decode cX5_right 19 = .ok (.iconst (-1), 1) := by decide +kernel
theorem dX5_right_20 : decode cX5_right 20 = .ok (.ireturn, 1) := by decide +kernel
theorem dX5_right_21 : decode cX5_right 21 = .ok (.aload_n 0, 1) := by decide +kernel
theorem dX5_right_22 : decode cX5_right 22 = .ok (.getfield 29, 3) := by decide +kernel
theorem dX5_right_25 : decode cX5_right 25 = .ok (.iload_n 1, 1) := by decide +kernel
theorem dX5_right_26 : decode cX5_right 26 = .ok (.iaload, 1) := by decide +kernel
theorem dX5_right_27 : decode cX5_right 27 = .ok (.iload_n 2, 1) := by decide +kernel
theorem dX5_right_28 : decode cX5_right 28 = .ok (.ishr, 1) := by decide +kernel
theorem dX5_right_29 : decode cX5_right 29 = .ok (.iconst 1, 1) := by decide +kernel
theorem dX5_right_30 : decode cX5_right 30 = .ok (.iand, 1) := by decide +kernel
theorem dX5_right_31 : decode cX5_right 31 = .ok (.istore 4, 2) := by decide +kernel
theorem dX5_right_33 : decode cX5_right 33 = .ok (.aload_n 0, 1) := by decide +kernel
theorem dX5_right_34 : decode cX5_right 34 = .ok (.getfield 29, 3) := by decide +kernel
theorem dX5_right_37 : decode cX5_right 37 = .ok (.iload_n 1, 1) := by decide +kernel
theorem dX5_right_38 : decode cX5_right 38 = .ok (.iload_n 3, 1) := by decide +kernel
theorem dX5_right_39 : decode cX5_right 39 = .ok (.ifCond .eq 16, 3) := by decide +kernel
theorem dX5_right_42 : decode cX5_right 42 = .ok (.aload_n 0, 1) := by decide +kernel
theorem dX5_right_43 : decode cX5_right 43 = .ok (.getfield 29, 3) := by decide +kernel
theorem dX5_right_46 : decode cX5_right 46 = .ok (.iload_n 1, 1) := by decide +kernel
theorem dX5_right_47 : decode cX5_right 47 = .ok (.iaload, 1) := by decide +kernel
theorem dX5_right_48 : decode cX5_right 48 = .ok (.iconst 1, 1) := by decide +kernel
theorem dX5_right_49 : decode cX5_right 49 = .ok (.iload_n 2, 1) := by decide +kernel
theorem dX5_right_50 : decode cX5_right 50 = .ok (.ishl, 1) := by decide +kernel
theorem dX5_right_51 : decode cX5_right 51 = .ok (.ior, 1) := by decide +kernel
theorem dX5_right_52 : decode cX5_right 52 = .ok (.goto 15, 3) := by decide +kernel
theorem dX5_right_55 : decode cX5_right 55 = .ok (.aload_n 0, 1) := by decide +kernel
theorem dX5_right_56 : decode cX5_right 56 = .ok (.getfield 29, 3) := by decide +kernel
theorem dX5_right_59 : decode cX5_right 59 = .ok (.iload_n 1, 1) := by decide +kernel
theorem dX5_right_60 : decode cX5_right 60 = .ok (.iaload, 1) := by decide +kernel
theorem dX5_right_61 : decode cX5_right 61 = .ok (.iconst 1, 1) := by decide +kernel
theorem dX5_right_62 : decode cX5_right 62 = .ok (.iload_n 2, 1) := by decide +kernel
theorem dX5_right_63 : decode cX5_right 63 = .ok (.ishl, 1) := by decide +kernel
theorem dX5_right_64 : decode cX5_right 64 = .ok (.iconst (-1), 1) := by decide +kernel
theorem dX5_right_65 : decode cX5_right 65 = .ok (.ixor, 1) := by decide +kernel
theorem dX5_right_66 : decode cX5_right 66 = .ok (.iand, 1) := by decide +kernel
theorem dX5_right_67 : decode cX5_right 67 = .ok (.iastore, 1) := by decide +kernel
theorem dX5_right_68 : decode cX5_right 68 = .ok (.iload 4, 2) := by decide +kernel
theorem dX5_right_70 : decode cX5_right 70 = .ok (.ireturn, 1) := by decide +kernel
theorem dX5_wayCost_0 : decode cX5_wayCost 0 = .ok (.iconst 4, 1) := by decide +kernel
theorem dX5_wayCost_1 : decode cX5_wayCost 1 = .ok (.iload 4, 2) := by decide +kernel
theorem dX5_wayCost_3 : decode cX5_wayCost 3 = .ok (.imul, 1) := by decide +kernel
theorem dX5_wayCost_4 : decode cX5_wayCost 4 = .ok (.istore 6, 2) := by decide +kernel
theorem dX5_wayCost_6 : decode cX5_wayCost 6 = .ok (.iload_n 2, 1) := by decide +kernel
theorem dX5_wayCost_7 : decode cX5_wayCost 7 = .ok (.istore 7, 2) := by decide +kernel
theorem dX5_wayCost_9 : decode cX5_wayCost 9 = .ok (.iload 7, 2) := by decide +kernel
theorem dX5_wayCost_11 : decode cX5_wayCost 11 = .ok (.iload_n 3, 1) := by decide +kernel
theorem dX5_wayCost_12 : decode cX5_wayCost 12 = .ok (.if_icmp .eq 87, 3) := by decide +kernel
theorem dX5_wayCost_15 : decode cX5_wayCost 15 = .ok (.iload 5, 2) := by decide +kernel
theorem dX5_wayCost_17 : decode cX5_wayCost 17 = .ok (.ifCond .eq 11, 3) := by decide +kernel
theorem dX5_wayCost_20 : decode cX5_wayCost 20 = .ok (.iload 7, 2) := by decide +kernel
theorem dX5_wayCost_22 : decode cX5_wayCost 22 = .ok (.invokestatic 151, 3) := by decide +kernel
theorem dX5_wayCost_25 : decode cX5_wayCost 25 = .ok (.goto 8, 3) := by decide +kernel
theorem dX5_wayCost_28 : decode cX5_wayCost 28 = .ok (.iload 7, 2) := by decide +kernel
theorem dX5_wayCost_30 : decode cX5_wayCost 30 = .ok (.invokestatic 154, 3) := by decide +kernel
theorem dX5_wayCost_33 : decode cX5_wayCost 33 = .ok (.istore 7, 2) := by decide +kernel
theorem dX5_wayCost_35 : decode cX5_wayCost 35 = .ok (.aload_n 0, 1) := by decide +kernel
theorem dX5_wayCost_36 : decode cX5_wayCost 36 = .ok (.getfield 16, 3) := by decide +kernel
theorem dX5_wayCost_39 : decode cX5_wayCost 39 = .ok (.iload 7, 2) := by decide +kernel
theorem dX5_wayCost_41 : decode cX5_wayCost 41 = .ok (.iaload, 1) := by decide +kernel
theorem dX5_wayCost_42 : decode cX5_wayCost 42 = .ok (.iload_n 1, 1) := by decide +kernel
theorem dX5_wayCost_43 : decode cX5_wayCost 43 = .ok (.if_icmp .eq 22, 3) := by decide +kernel
theorem dX5_wayCost_46 : decode cX5_wayCost 46 = .ok (.aload_n 0, 1) := by decide +kernel
theorem dX5_wayCost_47 : decode cX5_wayCost 47 = .ok (.getfield 29, 3) := by decide +kernel
theorem dX5_wayCost_50 : decode cX5_wayCost 50 = .ok (.aload_n 0, 1) := by decide +kernel
theorem dX5_wayCost_51 : decode cX5_wayCost 51 = .ok (.getfield 16, 3) := by decide +kernel
theorem dX5_wayCost_54 : decode cX5_wayCost 54 = .ok (.iload 7, 2) := by decide +kernel
theorem dX5_wayCost_56 : decode cX5_wayCost 56 = .ok (.iaload, 1) := by decide +kernel
theorem dX5_wayCost_57 : decode cX5_wayCost 57 = .ok (.iaload, 1) := by decide +kernel
theorem dX5_wayCost_58 : decode cX5_wayCost 58 = .ok (.iload_n 1, 1) := by decide +kernel
theorem dX5_wayCost_59 : decode cX5_wayCost 59 = .ok (.invokestatic 106, 3) := by decide +kernel
theorem dX5_wayCost_62 : decode cX5_wayCost 62 = .ok (.ifCond .eq 7, 3) := by decide +kernel
theorem dX5_wayCost_65 : decode cX5_wayCost 65 = .ok (.iconst 1, 1) := by decide +kernel
theorem dX5_wayCost_66 : decode cX5_wayCost 66 = .ok (.goto 4, 3) := by decide +kernel
theorem dX5_wayCost_69 : decode cX5_wayCost 69 = .ok (.iconst 0, 1) := by decide +kernel
theorem dX5_wayCost_70 : decode cX5_wayCost 70 = .ok (.istore 8, 2) := by decide +kernel
theorem dX5_wayCost_72 : decode cX5_wayCost 72 = .ok (.iload 6, 2) := by decide +kernel
theorem dX5_wayCost_74 : decode cX5_wayCost 74 = .ok (.bipush 6, 2) := by decide +kernel
theorem dX5_wayCost_76 : decode cX5_wayCost 76 = .ok (.iload 4, 2) := by decide +kernel
theorem dX5_wayCost_78 : decode cX5_wayCost 78 = .ok (.isub, 1) := by decide +kernel
theorem dX5_wayCost_79 : decode cX5_wayCost 79 = .ok (.iload 8, 2) := by decide +kernel
theorem dX5_wayCost_81 : decode cX5_wayCost 81 = .ok (.ifCond .eq 7, 3) := by decide +kernel
theorem dX5_wayCost_84 : decode cX5_wayCost 84 = .ok (.iconst 0, 1) := by decide +kernel
theorem dX5_wayCost_85 : decode cX5_wayCost 85 = .ok (.goto 7, 3) := by decide +kernel
theorem dX5_wayCost_88 : decode cX5_wayCost 88 = .ok (.aload_n 0, 1) := by decide +kernel
theorem dX5_wayCost_89 : decode cX5_wayCost 89 = .ok (.getfield 25, 3) := by decide +kernel
theorem dX5_wayCost_92 : decode cX5_wayCost 92 = .ok (.iadd, 1) := by decide +kernel
theorem dX5_wayCost_93 : decode cX5_wayCost 93 = .ok (.iadd, 1) := by decide +kernel
theorem dX5_wayCost_94 : decode cX5_wayCost 94 = .ok (.istore 6, 2) := by decide +kernel
theorem dX5_wayCost_96 : decode cX5_wayCost 96 = .ok (.goto (-87), 3) := by decide +kernel
theorem dX5_wayCost_99 : decode cX5_wayCost 99 = .ok (.iload 6, 2) := by decide +kernel
theorem dX5_wayCost_101 : decode cX5_wayCost 101 = .ok (.ireturn, 1) := by decide +kernel
theorem dX5_way_0 : decode cX5_way 0 = .ok (.iload_n 1, 1) := by decide +kernel
theorem dX5_way_1 : decode cX5_way 1 = .ok (.invokestatic 97, 3) := by decide +kernel
theorem dX5_way_4 : decode cX5_way 4 = .ok (.ifCond .eq 17, 3) := by decide +kernel
theorem dX5_way_7 : decode cX5_way 7 = .ok (.iload_n 2, 1) := by decide +kernel
theorem dX5_way_8 : decode cX5_way 8 = .ok (.invokestatic 100, 3) := by decide +kernel
theorem dX5_way_11 : decode cX5_way 11 = .ok (.ifCond .eq 10, 3) := by decide +kernel
theorem dX5_way_14 : decode cX5_way 14 = .ok (.iload_n 3, 1) := by decide +kernel
theorem dX5_way_15 : decode cX5_way 15 = .ok (.invokestatic 100, 3) := by decide +kernel
theorem dX5_way_18 : decode cX5_way 18 = .ok (.ifCond .ne 5, 3) := by decide +kernel
theorem dX5_way_21 : decode cX5_way 21 = .ok (.iconst (-1), 1) := by decide +kernel
theorem dX5_way_22 : decode cX5_way 22 = .ok (.ireturn, 1) := by decide +kernel
theorem dX5_way_23 : decode cX5_way 23 = .ok (.iload 4, 2) := by decide +kernel
theorem dX5_way_25 : decode cX5_way 25 = .ok (.iconst 0, 1) := by decide +kernel
theorem dX5_way_26 : decode cX5_way 26 = .ok (.iconst 2, 1) := by decide +kernel
theorem dX5_way_27 : decode cX5_way 27 = .ok (.invokestatic 66, 3) := by decide +kernel
theorem dX5_way_30 : decode cX5_way 30 = .ok (.ifCond .ne 6, 3) := by decide +kernel
theorem dX5_way_33 : decode cX5_way 33 = .ok (.bipush (-2), 2) := by decide +kernel
theorem dX5_way_35 : decode cX5_way 35 = .ok (.ireturn, 1) := by decide +kernel
theorem dX5_way_36 : decode cX5_way 36 = .ok (.bipush (-6), 2) := by decide +kernel
theorem dX5_way_38 : decode cX5_way 38 = .ok (.istore 5, 2) := by decide +kernel
theorem dX5_way_40 : decode cX5_way 40 = .ok (.iconst 0, 1) := by decide +kernel
theorem dX5_way_41 : decode cX5_way 41 = .ok (.istore 6, 2) := by decide +kernel
theorem dX5_way_43 : decode cX5_way 43 = .ok (.iconst 0, 1) := by decide +kernel
theorem dX5_way_44 : decode cX5_way 44 = .ok (.istore 7, 2) := by decide +kernel
theorem dX5_way_46 : decode cX5_way 46 = .ok (.iload 7, 2) := by decide +kernel
theorem dX5_way_48 : decode cX5_way 48 = .ok (.bipush 10, 2) := by decide +kernel
theorem dX5_way_50 : decode cX5_way 50 = .ok (.if_icmp .ge 54, 3) := by decide +kernel
theorem dX5_way_53 : decode cX5_way 53 = .ok (.aload_n 0, 1) := by decide +kernel
theorem dX5_way_54 : decode cX5_way 54 = .ok (.iload_n 1, 1) := by decide +kernel
theorem dX5_way_55 : decode cX5_way 55 = .ok (.iload_n 2, 1) := by decide +kernel
theorem dX5_way_56 : decode cX5_way 56 = .ok (.iload_n 3, 1) := by decide +kernel
theorem dX5_way_57 : decode cX5_way 57 = .ok (.iload 7, 2) := by decide +kernel
theorem dX5_way_59 : decode cX5_way 59 = .ok (.iconst 2, 1) := by decide +kernel
theorem dX5_way_60 : decode cX5_way 60 = .ok (.idiv, 1) := by decide +kernel
theorem dX5_way_61 : decode cX5_way 61 = .ok (.iload 7, 2) := by decide +kernel
theorem dX5_way_63 : decode cX5_way 63 = .ok (.iconst 2, 1) := by decide +kernel
theorem dX5_way_64 : decode cX5_way 64 = .ok (.irem, 1) := by decide +kernel
theorem dX5_way_65 : decode cX5_way 65 = .ok (.ifCond .ne 7, 3) := by decide +kernel
theorem dX5_way_68 : decode cX5_way 68 = .ok (.iconst 1, 1) := by decide +kernel
theorem dX5_way_69 : decode cX5_way 69 = .ok (.goto 4, 3) := by decide +kernel
theorem dX5_way_72 : decode cX5_way 72 = .ok (.iconst 0, 1) := by decide +kernel
theorem dX5_way_73 : decode cX5_way 73 = .ok (.invokevirtual 157, 3) := by decide +kernel
theorem dX5_way_76 : decode cX5_way 76 = .ok (.istore 8, 2) := by decide +kernel
theorem dX5_way_78 : decode cX5_way 78 = .ok (.iload 5, 2) := by decide +kernel
theorem dX5_way_80 : decode cX5_way 80 = .ok (.ifCond .lt 10, 3) := by decide +kernel
theorem dX5_way_83 : decode cX5_way 83 = .ok (.iload 8, 2) := by decide +kernel
theorem dX5_way_85 : decode cX5_way 85 = .ok (.iload 5, 2) := by decide +kernel
theorem dX5_way_87 : decode cX5_way 87 = .ok (.if_icmp .ge 11, 3) := by decide +kernel
theorem dX5_way_90 : decode cX5_way 90 = .ok (.iload 8, 2) := by decide +kernel
theorem dX5_way_92 : decode cX5_way 92 = .ok (.istore 5, 2) := by decide +kernel
theorem dX5_way_94 : decode cX5_way 94 = .ok (.iload 7, 2) := by decide +kernel
theorem dX5_way_96 : decode cX5_way 96 = .ok (.istore 6, 2) := by decide +kernel
theorem dX5_way_98 : decode cX5_way 98 = .ok (.iinc 7 1, 3) := by decide +kernel
theorem dX5_way_101 : decode cX5_way 101 = .ok (.goto (-55), 3) := by decide +kernel
theorem dX5_way_104 : decode cX5_way 104 = .ok (.iload 4, 2) := by decide +kernel
theorem dX5_way_106 : decode cX5_way 106 = .ok (.ifCond .ne 8, 3) := by decide +kernel
theorem dX5_way_109 : decode cX5_way 109 = .ok (.iload 5, 2) := by decide +kernel
theorem dX5_way_111 : decode cX5_way 111 = .ok (.goto 22, 3) := by decide +kernel
theorem dX5_way_114 : decode cX5_way 114 = .ok (.iload 4, 2) := by decide +kernel
theorem dX5_way_116 : decode cX5_way 116 = .ok (.iconst 1, 1) := by decide +kernel
theorem dX5_way_117 : decode cX5_way 117 = .ok (.if_icmp .ne 10, 3) := by decide +kernel
theorem dX5_way_120 : decode cX5_way 120 = .ok (.iload 6, 2) := by decide +kernel
theorem dX5_way_122 : decode cX5_way 122 = .ok (.iconst 2, 1) := by decide +kernel
theorem dX5_way_123 : decode cX5_way 123 = .ok (.idiv, 1) := by decide +kernel
theorem dX5_way_124 : decode cX5_way 124 = .ok (.goto 9, 3) := by decide +kernel
theorem dX5_way_127 : decode cX5_way 127 = .ok (.iconst 1, 1) := by decide +kernel
theorem dX5_way_128 : decode cX5_way 128 = .ok (.iload 6, 2) := by decide +kernel
theorem dX5_way_130 : decode cX5_way 130 = .ok (.iconst 2, 1) := by decide +kernel
theorem dX5_way_131 : decode cX5_way 131 = .ok (.irem, 1) := by decide +kernel
theorem dX5_way_132 : decode cX5_way 132 = .ok (.isub, 1) := by decide +kernel
theorem dX5_way_133 : decode cX5_way 133 = .ok (.ireturn, 1) := by decide +kernel
theorem dX5_hitBy_0 : decode cX5_hitBy 0 = .ok (.iconst 0, 1) := by decide +kernel
theorem dX5_hitBy_1 : decode cX5_hitBy 1 = .ok (.istore_n 3, 1) := by decide +kernel
theorem dX5_hitBy_2 : decode cX5_hitBy 2 = .ok (.iload_n 1, 1) := by decide +kernel
theorem dX5_hitBy_3 : decode cX5_hitBy 3 = .ok (.istore 4, 2) := by decide +kernel
theorem dX5_hitBy_5 : decode cX5_hitBy 5 = .ok (.iload_n 2, 1) := by decide +kernel
theorem dX5_hitBy_6 : decode cX5_hitBy 6 = .ok (.istore 5, 2) := by decide +kernel
theorem dX5_hitBy_8 : decode cX5_hitBy 8 = .ok (.aload_n 0, 1) := by decide +kernel
theorem dX5_hitBy_9 : decode cX5_hitBy 9 = .ok (.bipush (-6), 2) := by decide +kernel
theorem dX5_hitBy_11 : decode cX5_hitBy 11 = .ok (.putfield 161, 3) := by decide +kernel
theorem dX5_hitBy_14 : decode cX5_hitBy 14 = .ok (.iconst 1, 1) := by decide +kernel
theorem dX5_hitBy_15 : decode cX5_hitBy 15 = .ok (.istore 6, 2) := by decide +kernel
theorem dX5_hitBy_17 : decode cX5_hitBy 17 = .ok (.iload 6, 2) := by decide +kernel
theorem dX5_hitBy_19 : decode cX5_hitBy 19 = .ok (.ifCond .eq 95, 3) := by decide +kernel
theorem dX5_hitBy_22 : decode cX5_hitBy 22 = .ok (.aload_n 0, 1) := by decide +kernel
theorem dX5_hitBy_23 : decode cX5_hitBy 23 = .ok (.getfield 13, 3) := by decide +kernel
theorem dX5_hitBy_26 : decode cX5_hitBy 26 = .ok (.bipush 24, 2) := by decide +kernel
theorem dX5_hitBy_28 : decode cX5_hitBy 28 = .ok (.iload 4, 2) := by decide +kernel
theorem dX5_hitBy_30 : decode cX5_hitBy 30 = .ok (.imul, 1) := by decide +kernel
theorem dX5_hitBy_31 : decode cX5_hitBy 31 = .ok (.iload 5, 2) := by decide +kernel
theorem dX5_hitBy_33 : decode cX5_hitBy 33 = .ok (.iadd, 1) := by decide +kernel
theorem dX5_hitBy_34 : decode cX5_hitBy 34 = .ok (.iaload, 1) := by decide +kernel
theorem dX5_hitBy_35 : decode cX5_hitBy 35 = .ok (.istore 7, 2) := by decide +kernel
theorem dX5_hitBy_37 : decode cX5_hitBy 37 = .ok (.iload 7, 2) := by decide +kernel
theorem dX5_hitBy_39 : decode cX5_hitBy 39 = .ok (.bipush 119, 2) := by decide +kernel
theorem dX5_hitBy_41 : decode cX5_hitBy 41 = .ok (.if_icmp .ne 15, 3) := by decide +kernel
theorem dX5_hitBy_44 : decode cX5_hitBy 44 = .ok (.aload_n 0, 1) := by decide +kernel
theorem dX5_hitBy_45 : decode cX5_hitBy 45 = .ok (.iload 5, 2) := by decide +kernel
theorem dX5_hitBy_47 : decode cX5_hitBy 47 = .ok (.putfield 161, 3) := by decide +kernel
theorem dX5_hitBy_50 : decode cX5_hitBy 50 = .ok (.iconst 0, 1) := by decide +kernel
theorem dX5_hitBy_51 : decode cX5_hitBy 51 = .ok (.istore 6, 2) := by decide +kernel
theorem dX5_hitBy_53 : decode cX5_hitBy 53 = .ok (.goto 58, 3) := by decide +kernel
theorem dX5_hitBy_56 : decode cX5_hitBy 56 = .ok (.iload 7, 2) := by decide +kernel
theorem dX5_hitBy_58 : decode cX5_hitBy 58 = .ok (.bipush 114, 2) := by decide +kernel
theorem dX5_hitBy_60 : decode cX5_hitBy 60 = .ok (.if_icmp .ne 11, 3) := by decide +kernel
theorem dX5_hitBy_63 : decode cX5_hitBy 63 = .ok (.iload 5, 2) := by decide +kernel
theorem dX5_hitBy_65 : decode cX5_hitBy 65 = .ok (.invokestatic 151, 3) := by decide +kernel
theorem dX5_hitBy_68 : decode cX5_hitBy 68 = .ok (.goto 5, 3) := by decide +kernel
theorem dX5_hitBy_71 : decode cX5_hitBy 71 = .ok (.iload 5, 2) := by decide +kernel
theorem dX5_hitBy_73 : decode cX5_hitBy 73 = .ok (.istore 5, 2) := by decide +kernel
theorem dX5_hitBy_75 : decode cX5_hitBy 75 = .ok (.iinc 4 (-1), 3) := by decide +kernel
theorem dX5_hitBy_78 : decode cX5_hitBy 78 = .ok (.iload 4, 2) := by decide +kernel
theorem dX5_hitBy_80 : decode cX5_hitBy 80 = .ok (.ifCond .lt 7, 3) := by decide +kernel
theorem dX5_hitBy_83 : decode cX5_hitBy 83 = .ok (.iconst 1, 1) := by decide +kernel
theorem dX5_hitBy_84 : decode cX5_hitBy 84 = .ok (.goto 4, 3) := by decide +kernel
theorem dX5_hitBy_87 : decode cX5_hitBy 87 = .ok (.iconst 0, 1) := by decide +kernel
theorem dX5_hitBy_88 : decode cX5_hitBy 88 = .ok (.istore 6, 2) := by decide +kernel
theorem dX5_hitBy_90 : decode cX5_hitBy 90 = .ok (.iload_n 3, 1) := by decide +kernel
theorem dX5_hitBy_91 : decode cX5_hitBy 91 = .ok (.iload 6, 2) := by decide +kernel
theorem dX5_hitBy_93 : decode cX5_hitBy 93 = .ok (.ifCond .eq 15, 3) := by decide +kernel
theorem dX5_hitBy_96 : decode cX5_hitBy 96 = .ok (.iconst 1, 1) := by decide +kernel
theorem dX5_hitBy_97 : decode cX5_hitBy 97 = .ok (.aload_n 0, 1) := by decide +kernel
theorem dX5_hitBy_98 : decode cX5_hitBy 98 = .ok (.getfield 16, 3) := by decide +kernel
theorem dX5_hitBy_101 : decode cX5_hitBy 101 = .ok (.iload 5, 2) := by decide +kernel
theorem dX5_hitBy_103 : decode cX5_hitBy 103 = .ok (.iaload, 1) := by decide +kernel
theorem dX5_hitBy_104 : decode cX5_hitBy 104 = .ok (.ishl, 1) := by decide +kernel
theorem dX5_hitBy_105 : decode cX5_hitBy 105 = .ok (.goto 4, 3) := by decide +kernel
theorem dX5_hitBy_108 : decode cX5_hitBy 108 = .ok (.iconst 0, 1) := by decide +kernel
theorem dX5_hitBy_109 : decode cX5_hitBy 109 = .ok (.ior, 1) := by decide +kernel
theorem dX5_hitBy_110 : decode cX5_hitBy 110 = .ok (.istore_n 3, 1) := by decide +kernel
theorem dX5_hitBy_111 : decode cX5_hitBy 111 = .ok (.goto (-94), 3) := by decide +kernel
theorem dX5_hitBy_114 : decode cX5_hitBy 114 = .ok (.iload_n 3, 1) := by decide +kernel
theorem dX5_hitBy_115 : decode cX5_hitBy 115 = .ok (.ireturn, 1) := by decide +kernel
theorem dX5_stone_0 : decode cX5_stone 0 = .ok (.iload_n 1, 1) := by decide +kernel
theorem dX5_stone_1 : decode cX5_stone 1 = .ok (.invokestatic 87, 3) := by decide +kernel
theorem dX5_stone_4 : decode cX5_stone 4 = .ok (.ifCond .eq 10, 3) := by decide +kernel
theorem dX5_stone_7 : decode cX5_stone 7 = .ok (.iload_n 2, 1) := by decide +kernel
theorem dX5_stone_8 : decode cX5_stone 8 = .ok (.invokestatic 100, 3) := by decide +kernel
theorem dX5_stone_11 : decode cX5_stone 11 = .ok (.ifCond .ne 5, 3) := by decide +kernel
theorem dX5_stone_14 : decode cX5_stone 14 = .ok (.iconst (-1), 1) := by decide +kernel
theorem dX5_stone_15 : decode cX5_stone 15 = .ok (.ireturn, 1) := by decide +kernel
theorem dX5_stone_16 : decode cX5_stone 16 = .ok (.iload_n 3, 1) := by decide +kernel
theorem dX5_stone_17 : decode cX5_stone 17 = .ok (.iconst 0, 1) := by decide +kernel
theorem dX5_stone_18 : decode cX5_stone 18 = .ok (.iconst 1, 1) := by decide +kernel
theorem dX5_stone_19 : decode cX5_stone 19 = .ok (.invokestatic 66, 3) := by decide +kernel
theorem dX5_stone_22 : decode cX5_stone 22 = .ok (.ifCond .ne 6, 3) := by decide +kernel
theorem dX5_stone_25 : decode cX5_stone 25 = .ok (.bipush (-2), 2) := by decide +kernel
theorem dX5_stone_27 : decode cX5_stone 27 = .ok (.ireturn, 1) := by decide +kernel
theorem dX5_stone_28 : decode cX5_stone 28 = .ok (.aload_n 0, 1) := by decide +kernel
theorem dX5_stone_29 : decode cX5_stone 29 = .ok (.iload_n 1, 1) := by decide +kernel
theorem dX5_stone_30 : decode cX5_stone 30 = .ok (.iload_n 2, 1) := by decide +kernel
theorem dX5_stone_31 : decode cX5_stone 31 = .ok (.invokevirtual 164, 3) := by decide +kernel
theorem dX5_stone_34 : decode cX5_stone 34 = .ok (.istore 4, 2) := by decide +kernel
theorem dX5_stone_36 : decode cX5_stone 36 = .ok (.iload_n 3, 1) := by decide +kernel
theorem dX5_stone_37 : decode cX5_stone 37 = .ok (.ifCond .ne 8, 3) := by decide +kernel
theorem dX5_stone_40 : decode cX5_stone 40 = .ok (.iload 4, 2) := by decide +kernel
theorem dX5_stone_42 : decode cX5_stone 42 = .ok (.goto 7, 3) := by decide +kernel
theorem dX5_stone_45 : decode cX5_stone 45 = .ok (.aload_n 0, 1) := by decide +kernel
theorem dX5_stone_46 : decode cX5_stone 46 = .ok (.getfield 161, 3) := by decide +kernel
theorem dX5_stone_49 : decode cX5_stone 49 = .ok (.ireturn, 1) := by decide +kernel
theorem dX5_avalanche_0 : decode cX5_avalanche 0 = .ok (.iload_n 1, 1) := by decide +kernel
theorem dX5_avalanche_1 : decode cX5_avalanche 1 = .ok (.invokestatic 87, 3) := by decide +kernel
theorem dX5_avalanche_4 : decode cX5_avalanche 4 = .ok (.ifCond .eq 10, 3) := by decide +kernel
theorem dX5_avalanche_7 : decode cX5_avalanche 7 = .ok (.iload_n 2, 1) := by decide +kernel
theorem dX5_avalanche_8 : decode cX5_avalanche 8 = .ok (.invokestatic 100, 3) := by decide +kernel
theorem dX5_avalanche_11 : decode cX5_avalanche 11 = .ok (.ifCond .ne 5, 3) := by decide +kernel
theorem dX5_avalanche_14 : decode cX5_avalanche 14 = .ok (.iconst (-1), 1) := by decide +kernel
theorem dX5_avalanche_15 : decode cX5_avalanche 15 = .ok (.ireturn, 1) := by decide +kernel
theorem dX5_avalanche_16 : decode cX5_avalanche 16 = .ok (.iload_n 3, 1) := by decide +kernel
theorem dX5_avalanche_17 : decode cX5_avalanche 17 = .ok (.iconst 0, 1) := by decide +kernel
theorem dX5_avalanche_18 : decode cX5_avalanche 18 = .ok (.iconst 1, 1) := by decide +kernel
theorem dX5_avalanche_19 : decode cX5_avalanche 19 = .ok (.invokestatic 66, 3) := by decide +kernel
theorem dX5_avalanche_22 : decode cX5_avalanche 22 = .ok (.ifCond .ne 6, 3) := by decide +kernel
theorem dX5_avalanche_25 : decode cX5_avalanche 25 = .ok (.bipush (-2), 2) := by decide +kernel
theorem dX5_avalanche_27 : decode cX5_avalanche 27 = .ok (.ireturn, 1) := by decide +kernel
theorem dX5_avalanche_28 : decode cX5_avalanche 28 = .ok (.aload_n 0, 1) := by decide +kernel
theorem dX5_avalanche_29 : decode cX5_avalanche 29 = .ok (.getfield 13, 3) := by decide +kernel
theorem dX5_avalanche_32 : decode cX5_avalanche 32 = .ok (.bipush 24, 2) := by decide +kernel
theorem dX5_avalanche_34 : decode cX5_avalanche 34 = .ok (.iload_n 1, 1) := by decide +kernel
theorem dX5_avalanche_35 : decode cX5_avalanche 35 = .ok (.imul, 1) := by decide +kernel
theorem dX5_avalanche_36 : decode cX5_avalanche 36 = .ok (.iload_n 2, 1) := by decide +kernel
theorem dX5_avalanche_37 : decode cX5_avalanche 37 = .ok (.iadd, 1) := by decide +kernel
theorem dX5_avalanche_38 : decode cX5_avalanche 38 = .ok (.iaload, 1) := by decide +kernel
theorem dX5_avalanche_39 : decode cX5_avalanche 39 = .ok (.bipush 115, 2) := by decide +kernel
theorem dX5_avalanche_41 : decode cX5_avalanche 41 = .ok (.if_icmp .eq 6, 3) := by decide +kernel
theorem dX5_avalanche_44 : decode cX5_avalanche 44 = .ok (.bipush (-3), 2) := by decide +kernel
theorem dX5_avalanche_46 : decode cX5_avalanche 46 = .ok (.ireturn, 1) := by decide +kernel
theorem dX5_avalanche_47 : decode cX5_avalanche 47 = .ok (.iconst 1, 1) := by decide +kernel
theorem dX5_avalanche_48 : decode cX5_avalanche 48 = .ok (.iload_n 2, 1) := by decide +kernel
theorem dX5_avalanche_49 : decode cX5_avalanche 49 = .ok (.ishl, 1) := by decide +kernel
theorem dX5_avalanche_50 : decode cX5_avalanche 50 = .ok (.istore 4, 2) := by decide +kernel
theorem dX5_avalanche_52 : decode cX5_avalanche 52 = .ok (.iconst 0, 1) := by decide +kernel
theorem dX5_avalanche_53 : decode cX5_avalanche 53 = .ok (.istore 5, 2) := by decide +kernel
theorem dX5_avalanche_55 : decode cX5_avalanche 55 = .ok (.iconst 1, 1) := by decide +kernel
theorem dX5_avalanche_56 : decode cX5_avalanche 56 = .ok (.istore 6, 2) := by decide +kernel
theorem dX5_avalanche_58 : decode cX5_avalanche 58 = .ok (.iload_n 1, 1) := by decide +kernel
theorem dX5_avalanche_59 : decode cX5_avalanche 59 = .ok (.iconst 1, 1) := by decide +kernel
theorem dX5_avalanche_60 : decode cX5_avalanche 60 = .ok (.isub, 1) := by decide +kernel
theorem dX5_avalanche_61 : decode cX5_avalanche 61 = .ok (.istore 7, 2) := by decide +kernel
theorem dX5_avalanche_63 : decode cX5_avalanche 63 = .ok (.iload 7, 2) := by decide +kernel
theorem dX5_avalanche_65 : decode cX5_avalanche 65 = .ok (.ifCond .lt 124, 3) := by decide +kernel
theorem dX5_avalanche_68 : decode cX5_avalanche 68 = .ok (.iconst 0, 1) := by decide +kernel
theorem dX5_avalanche_69 : decode cX5_avalanche 69 = .ok (.istore 8, 2) := by decide +kernel
theorem dX5_avalanche_71 : decode cX5_avalanche 71 = .ok (.iconst 0, 1) := by decide +kernel
theorem dX5_avalanche_72 : decode cX5_avalanche 72 = .ok (.istore 9, 2) := by decide +kernel
theorem dX5_avalanche_74 : decode cX5_avalanche 74 = .ok (.iload 9, 2) := by decide +kernel
theorem dX5_avalanche_76 : decode cX5_avalanche 76 = .ok (.bipush 24, 2) := by decide +kernel
theorem dX5_avalanche_78 : decode cX5_avalanche 78 = .ok (.if_icmp .ge 101, 3) := by decide +kernel
theorem dX5_avalanche_81 : decode cX5_avalanche 81 = .ok (.iload 4, 2) := by decide +kernel
theorem dX5_avalanche_83 : decode cX5_avalanche 83 = .ok (.iload 9, 2) := by decide +kernel
theorem dX5_avalanche_85 : decode cX5_avalanche 85 = .ok (.invokestatic 106, 3) := by decide +kernel
theorem dX5_avalanche_88 : decode cX5_avalanche 88 = .ok (.ifCond .ne 29, 3) := by decide +kernel
theorem dX5_avalanche_91 : decode cX5_avalanche 91 = .ok (.iload 4, 2) := by decide +kernel
theorem dX5_avalanche_93 : decode cX5_avalanche 93 = .ok (.iload 9, 2) := by decide +kernel
theorem dX5_avalanche_95 : decode cX5_avalanche 95 = .ok (.invokestatic 151, 3) := by decide +kernel
theorem dX5_avalanche_98 : decode cX5_avalanche 98 = .ok (.invokestatic 106, 3) := by decide +kernel
theorem dX5_avalanche_101 : decode cX5_avalanche 101 = .ok (.ifCond .ne 16, 3) := by decide +kernel
theorem dX5_avalanche_104 : decode cX5_avalanche 104 = .ok (.iload 4, 2) := by decide +kernel
theorem dX5_avalanche_106 : decode cX5_avalanche 106 = .ok (.iload 9, 2) := by decide +kernel
theorem dX5_avalanche_108 : decode cX5_avalanche 108 = .ok (.invokestatic 154, 3) := by decide +kernel
theorem dX5_avalanche_111 : decode cX5_avalanche 111 = .ok (.invokestatic 106, 3) := by decide +kernel
theorem dX5_avalanche_114 : decode cX5_avalanche 114 = .ok (.ifCond .eq 7, 3) := by decide +kernel
theorem dX5_avalanche_117 : decode cX5_avalanche 117 = .ok (.iconst 1, 1) := by decide +kernel
theorem dX5_avalanche_118 : decode cX5_avalanche 118 = .ok (.goto 4, 3) := by decide +kernel
theorem dX5_avalanche_121 : decode cX5_avalanche 121 = .ok (.iconst 0, 1) := by decide +kernel
theorem dX5_avalanche_122 : decode cX5_avalanche 122 = .ok (.istore 10, 2) := by decide +kernel
theorem dX5_avalanche_124 : decode cX5_avalanche 124 = .ok (.iload 10, 2) := by decide +kernel
theorem dX5_avalanche_126 : decode cX5_avalanche 126 = .ok (.ifCond .eq 47, 3) := by decide +kernel
theorem dX5_avalanche_129 : decode cX5_avalanche 129 = .ok (.aload_n 0, 1) := by decide +kernel
theorem dX5_avalanche_130 : decode cX5_avalanche 130 = .ok (.getfield 13, 3) := by decide +kernel
theorem dX5_avalanche_133 : decode cX5_avalanche 133 = .ok (.bipush 24, 2) := by decide +kernel
theorem dX5_avalanche_135 : decode cX5_avalanche 135 = .ok (.iload 7, 2) := by decide +kernel
theorem dX5_avalanche_137 : decode cX5_avalanche 137 = .ok (.imul, 1) := by decide +kernel
theorem dX5_avalanche_138 : decode cX5_avalanche 138 = .ok (.iload 9, 2) := by decide +kernel
theorem dX5_avalanche_140 : decode cX5_avalanche 140 = .ok (.iadd, 1) := by decide +kernel
theorem dX5_avalanche_141 : decode cX5_avalanche 141 = .ok (.iaload, 1) := by decide +kernel
theorem dX5_avalanche_142 : decode cX5_avalanche 142 = .ok (.bipush 119, 2) := by decide +kernel
theorem dX5_avalanche_144 : decode cX5_avalanche 144 = .ok (.if_icmp .eq 29, 3) := by decide +kernel
theorem dX5_avalanche_147 : decode cX5_avalanche 147 = .ok (.iload 8, 2) := by decide +kernel
theorem dX5_avalanche_149 : decode cX5_avalanche 149 = .ok (.iconst 1, 1) := by decide +kernel
theorem dX5_avalanche_150 : decode cX5_avalanche 150 = .ok (.iload 9, 2) := by decide +kernel
theorem dX5_avalanche_152 : decode cX5_avalanche 152 = .ok (.ishl, 1) := by decide +kernel
theorem dX5_avalanche_153 : decode cX5_avalanche 153 = .ok (.ior, 1) := by decide +kernel
theorem dX5_avalanche_154 : decode cX5_avalanche 154 = .ok (.istore 8, 2) := by decide +kernel
theorem dX5_avalanche_156 : decode cX5_avalanche 156 = .ok (.iload 5, 2) := by decide +kernel
theorem dX5_avalanche_158 : decode cX5_avalanche 158 = .ok (.iconst 1, 1) := by decide +kernel
theorem dX5_avalanche_159 : decode cX5_avalanche 159 = .ok (.aload_n 0, 1) := by decide +kernel
theorem dX5_avalanche_160 : decode cX5_avalanche 160 = .ok (.getfield 16, 3) := by decide +kernel
theorem dX5_avalanche_163 : decode cX5_avalanche 163 = .ok (.iload 9, 2) := by decide +kernel
theorem dX5_avalanche_165 : decode cX5_avalanche 165 = .ok (.iaload, 1) := by decide +kernel
theorem dX5_avalanche_166 : decode cX5_avalanche 166 = .ok (.ishl, 1) := by decide +kernel
theorem dX5_avalanche_167 : decode cX5_avalanche 167 = .ok (.ior, 1) := by decide +kernel
theorem dX5_avalanche_168 : decode cX5_avalanche 168 = .ok (.istore 5, 2) := by decide +kernel
theorem dX5_avalanche_170 : decode cX5_avalanche 170 = .ok (.iinc 6 1, 3) := by decide +kernel
theorem dX5_avalanche_173 : decode cX5_avalanche 173 = .ok (.iinc 9 1, 3) := by decide +kernel
theorem dX5_avalanche_176 : decode cX5_avalanche 176 = .ok (.goto (-102), 3) := by decide +kernel
theorem dX5_avalanche_179 : decode cX5_avalanche 179 = .ok (.iload 8, 2) := by decide +kernel
theorem dX5_avalanche_181 : decode cX5_avalanche 181 = .ok (.istore 4, 2) := by decide +kernel
theorem dX5_avalanche_183 : decode cX5_avalanche 183 = .ok (.iinc 7 (-1), 3) := by decide +kernel
theorem dX5_avalanche_186 : decode cX5_avalanche 186 = .ok (.goto (-123), 3) := by decide +kernel
theorem dX5_avalanche_189 : decode cX5_avalanche 189 = .ok (.iload_n 3, 1) := by decide +kernel
theorem dX5_avalanche_190 : decode cX5_avalanche 190 = .ok (.ifCond .ne 8, 3) := by decide +kernel
theorem dX5_avalanche_193 : decode cX5_avalanche 193 = .ok (.iload 5, 2) := by decide +kernel
theorem dX5_avalanche_195 : decode cX5_avalanche 195 = .ok (.goto 5, 3) := by decide +kernel
theorem dX5_avalanche_198 : decode cX5_avalanche 198 = .ok (.iload 6, 2) := by decide +kernel
theorem dX5_avalanche_200 : decode cX5_avalanche 200 = .ok (.ireturn, 1) := by decide +kernel
theorem dX5_rolls_0 : decode cX5_rolls 0 = .ok (.iload_n 1, 1) := by decide +kernel
theorem dX5_rolls_1 : decode cX5_rolls 1 = .ok (.invokestatic 97, 3) := by decide +kernel
theorem dX5_rolls_4 : decode cX5_rolls 4 = .ok (.ifCond .ne 5, 3) := by decide +kernel
theorem dX5_rolls_7 : decode cX5_rolls 7 = .ok (.iconst (-1), 1) := by decide +kernel
theorem dX5_rolls_8 : decode cX5_rolls 8 = .ok (.ireturn, 1) := by decide +kernel
theorem dX5_rolls_9 : decode cX5_rolls 9 = .ok (.iconst 0, 1) := by decide +kernel
theorem dX5_rolls_10 : decode cX5_rolls 10 = .ok (.istore_n 2, 1) := by decide +kernel
theorem dX5_rolls_11 : decode cX5_rolls 11 = .ok (.iconst 0, 1) := by decide +kernel
theorem dX5_rolls_12 : decode cX5_rolls 12 = .ok (.istore_n 3, 1) := by decide +kernel
theorem dX5_rolls_13 : decode cX5_rolls 13 = .ok (.iload_n 3, 1) := by decide +kernel
theorem dX5_rolls_14 : decode cX5_rolls 14 = .ok (.bipush 120, 2) := by decide +kernel
theorem dX5_rolls_16 : decode cX5_rolls 16 = .ok (.if_icmp .ge 41, 3) := by decide +kernel
theorem dX5_rolls_19 : decode cX5_rolls 19 = .ok (.iload_n 2, 1) := by decide +kernel
theorem dX5_rolls_20 : decode cX5_rolls 20 = .ok (.aload_n 0, 1) := by decide +kernel
theorem dX5_rolls_21 : decode cX5_rolls 21 = .ok (.getfield 16, 3) := by decide +kernel
theorem dX5_rolls_24 : decode cX5_rolls 24 = .ok (.iload_n 3, 1) := by decide +kernel
theorem dX5_rolls_25 : decode cX5_rolls 25 = .ok (.bipush 24, 2) := by decide +kernel
theorem dX5_rolls_27 : decode cX5_rolls 27 = .ok (.irem, 1) := by decide +kernel
theorem dX5_rolls_28 : decode cX5_rolls 28 = .ok (.iaload, 1) := by decide +kernel
theorem dX5_rolls_29 : decode cX5_rolls 29 = .ok (.iload_n 1, 1) := by decide +kernel
theorem dX5_rolls_30 : decode cX5_rolls 30 = .ok (.if_icmp .ne 18, 3) := by decide +kernel
theorem dX5_rolls_33 : decode cX5_rolls 33 = .ok (.aload_n 0, 1) := by decide +kernel
theorem dX5_rolls_34 : decode cX5_rolls 34 = .ok (.iload_n 3, 1) := by decide +kernel
theorem dX5_rolls_35 : decode cX5_rolls 35 = .ok (.bipush 24, 2) := by decide +kernel
theorem dX5_rolls_37 : decode cX5_rolls 37 = .ok (.idiv, 1) := by decide +kernel
theorem dX5_rolls_38 : decode cX5_rolls 38 = .ok (.iload_n 3, 1) := by decide +kernel
theorem dX5_rolls_39 : decode cX5_rolls 39 = .ok (.bipush 24, 2) := by decide +kernel
theorem dX5_rolls_41 : decode cX5_rolls 41 = .ok (.irem, 1) := by decide +kernel
theorem dX5_rolls_42 : decode cX5_rolls 42 = .ok (.invokevirtual 164, 3) := by decide +kernel
theorem dX5_rolls_45 : decode cX5_rolls 45 = .ok (.goto 4, 3) := by decide +kernel
theorem dX5_rolls_48 : decode cX5_rolls 48 = .ok (.iconst 0, 1) := by decide +kernel
theorem dX5_rolls_49 : decode cX5_rolls 49 = .ok (.ior, 1) := by decide +kernel
theorem dX5_rolls_50 : decode cX5_rolls 50 = .ok (.istore_n 2, 1) := by decide +kernel
theorem dX5_rolls_51 : decode cX5_rolls 51 = .ok (.iinc 3 1, 3) := by decide +kernel
theorem dX5_rolls_54 : decode cX5_rolls 54 = .ok (.goto (-41), 3) := by decide +kernel
theorem dX5_rolls_57 : decode cX5_rolls 57 = .ok (.iload_n 2, 1) := by decide +kernel
theorem dX5_rolls_58 : decode cX5_rolls 58 = .ok (.iconst 1, 1) := by decide +kernel
theorem dX5_rolls_59 : decode cX5_rolls 59 = .ok (.iload_n 1, 1) := by decide +kernel
theorem dX5_rolls_60 : decode cX5_rolls 60 = .ok (.ishl, 1) := by decide +kernel
theorem dX5_rolls_61 : decode cX5_rolls 61 = .ok (.iconst (-1), 1) := by decide +kernel
theorem dX5_rolls_62 : decode cX5_rolls 62 = .ok (.ixor, 1) := by decide +kernel
theorem dX5_rolls_63 : decode cX5_rolls 63 = .ok (.iand, 1) := by decide +kernel
theorem dX5_rolls_64 : decode cX5_rolls 64 = .ok (.ireturn, 1) := by decide +kernel
theorem dX5_begins_0 : decode cX5_begins 0 = .ok (.aload_n 0, 1) := by decide +kernel
theorem dX5_begins_1 : decode cX5_begins 1 = .ok (.getfield 16, 3) := by decide +kernel
theorem dX5_begins_4 : decode cX5_begins 4 = .ok (.iload_n 2, 1) := by decide +kernel
theorem dX5_begins_5 : decode cX5_begins 5 = .ok (.bipush 24, 2) := by decide +kernel
theorem dX5_begins_7 : decode cX5_begins 7 = .ok (.irem, 1) := by decide +kernel
theorem dX5_begins_8 : decode cX5_begins 8 = .ok (.iaload, 1) := by decide +kernel
theorem dX5_begins_9 : decode cX5_begins 9 = .ok (.iload_n 1, 1) := by decide +kernel
theorem dX5_begins_10 : decode cX5_begins 10 = .ok (.if_icmp .ne 18, 3) := by decide +kernel
theorem dX5_begins_13 : decode cX5_begins 13 = .ok (.aload_n 0, 1) := by decide +kernel
theorem dX5_begins_14 : decode cX5_begins 14 = .ok (.getfield 13, 3) := by decide +kernel
theorem dX5_begins_17 : decode cX5_begins 17 = .ok (.iload_n 2, 1) := by decide +kernel
theorem dX5_begins_18 : decode cX5_begins 18 = .ok (.iaload, 1) := by decide +kernel
theorem dX5_begins_19 : decode cX5_begins 19 = .ok (.bipush 109, 2) := by decide +kernel
theorem dX5_begins_21 : decode cX5_begins 21 = .ok (.if_icmp .ne 7, 3) := by decide +kernel
theorem dX5_begins_24 : decode cX5_begins 24 = .ok (.iconst 1, 1) := by decide +kernel
theorem dX5_begins_25 : decode cX5_begins 25 = .ok (.goto 4, 3) := by decide +kernel
theorem dX5_begins_28 : decode cX5_begins 28 = .ok (.iconst 0, 1) := by decide +kernel
theorem dX5_begins_29 : decode cX5_begins 29 = .ok (.ireturn, 1) := by decide +kernel
theorem dX5_ends_0 : decode cX5_ends 0 = .ok (.aload_n 0, 1) := by decide +kernel
theorem dX5_ends_1 : decode cX5_ends 1 = .ok (.getfield 16, 3) := by decide +kernel
theorem dX5_ends_4 : decode cX5_ends 4 = .ok (.iload_n 2, 1) := by decide +kernel
theorem dX5_ends_5 : decode cX5_ends 5 = .ok (.bipush 24, 2) := by decide +kernel
theorem dX5_ends_7 : decode cX5_ends 7 = .ok (.irem, 1) := by decide +kernel
theorem dX5_ends_8 : decode cX5_ends 8 = .ok (.iaload, 1) := by decide +kernel
theorem dX5_ends_9 : decode cX5_ends 9 = .ok (.iload_n 1, 1) := by decide +kernel
theorem dX5_ends_10 : decode cX5_ends 10 = .ok (.if_icmp .eq 18, 3) := by decide +kernel
theorem dX5_ends_13 : decode cX5_ends 13 = .ok (.aload_n 0, 1) := by decide +kernel
theorem dX5_ends_14 : decode cX5_ends 14 = .ok (.getfield 13, 3) := by decide +kernel
theorem dX5_ends_17 : decode cX5_ends 17 = .ok (.iload_n 2, 1) := by decide +kernel
theorem dX5_ends_18 : decode cX5_ends 18 = .ok (.iaload, 1) := by decide +kernel
theorem dX5_ends_19 : decode cX5_ends 19 = .ok (.bipush 118, 2) := by decide +kernel
theorem dX5_ends_21 : decode cX5_ends 21 = .ok (.if_icmp .ne 7, 3) := by decide +kernel
theorem dX5_ends_24 : decode cX5_ends 24 = .ok (.iconst 1, 1) := by decide +kernel
theorem dX5_ends_25 : decode cX5_ends 25 = .ok (.goto 4, 3) := by decide +kernel
theorem dX5_ends_28 : decode cX5_ends 28 = .ok (.iconst 0, 1) := by decide +kernel
theorem dX5_ends_29 : decode cX5_ends 29 = .ok (.ireturn, 1) := by decide +kernel
theorem dX5_goes_0 : decode cX5_goes 0 = .ok (.iload_n 1, 1) := by decide +kernel
theorem dX5_goes_1 : decode cX5_goes 1 = .ok (.bipush 24, 2) := by decide +kernel
theorem dX5_goes_3 : decode cX5_goes 3 = .ok (.idiv, 1) := by decide +kernel
theorem dX5_goes_4 : decode cX5_goes 4 = .ok (.istore_n 3, 1) := by decide +kernel
theorem dX5_goes_5 : decode cX5_goes 5 = .ok (.iload_n 1, 1) := by decide +kernel
theorem dX5_goes_6 : decode cX5_goes 6 = .ok (.bipush 24, 2) := by decide +kernel
theorem dX5_goes_8 : decode cX5_goes 8 = .ok (.irem, 1) := by decide +kernel
theorem dX5_goes_9 : decode cX5_goes 9 = .ok (.istore 4, 2) := by decide +kernel
theorem dX5_goes_11 : decode cX5_goes 11 = .ok (.bipush 24, 2) := by decide +kernel
theorem dX5_goes_13 : decode cX5_goes 13 = .ok (.iload_n 3, 1) := by decide +kernel
theorem dX5_goes_14 : decode cX5_goes 14 = .ok (.imul, 1) := by decide +kernel
theorem dX5_goes_15 : decode cX5_goes 15 = .ok (.iload 4, 2) := by decide +kernel
theorem dX5_goes_17 : decode cX5_goes 17 = .ok (.invokestatic 151, 3) := by decide +kernel
theorem dX5_goes_20 : decode cX5_goes 20 = .ok (.iadd, 1) := by decide +kernel
theorem dX5_goes_21 : decode cX5_goes 21 = .ok (.istore 5, 2) := by decide +kernel
theorem dX5_goes_23 : decode cX5_goes 23 = .ok (.bipush 24, 2) := by decide +kernel
theorem dX5_goes_25 : decode cX5_goes 25 = .ok (.iload_n 3, 1) := by decide +kernel
theorem dX5_goes_26 : decode cX5_goes 26 = .ok (.imul, 1) := by decide +kernel
theorem dX5_goes_27 : decode cX5_goes 27 = .ok (.iload 4, 2) := by decide +kernel
theorem dX5_goes_29 : decode cX5_goes 29 = .ok (.invokestatic 154, 3) := by decide +kernel
theorem dX5_goes_32 : decode cX5_goes 32 = .ok (.iadd, 1) := by decide +kernel
theorem dX5_goes_33 : decode cX5_goes 33 = .ok (.istore 6, 2) := by decide +kernel
theorem dX5_goes_35 : decode cX5_goes 35 = .ok (.iload_n 2, 1) := by decide +kernel
theorem dX5_goes_36 : decode cX5_goes 36 = .ok (.tableswitch 93 0 2 #[28, 46, 66], 28) := by decide +kernel
theorem dX5_goes_64 : decode cX5_goes 64 = .ok (.aload_n 0, 1) := by decide +kernel
theorem dX5_goes_65 : decode cX5_goes 65 = .ok (.getfield 47, 3) := by decide +kernel
theorem dX5_goes_68 : decode cX5_goes 68 = .ok (.iload_n 1, 1) := by decide +kernel
theorem dX5_goes_69 : decode cX5_goes 69 = .ok (.iaload, 1) := by decide +kernel
theorem dX5_goes_70 : decode cX5_goes 70 = .ok (.iconst 2, 1) := by decide +kernel
theorem dX5_goes_71 : decode cX5_goes 71 = .ok (.if_icmp .ge 8, 3) := by decide +kernel
theorem dX5_goes_74 : decode cX5_goes 74 = .ok (.iload 5, 2) := by decide +kernel
theorem dX5_goes_76 : decode cX5_goes 76 = .ok (.goto 5, 3) := by decide +kernel
theorem dX5_goes_79 : decode cX5_goes 79 = .ok (.bipush (-6), 2) := by decide +kernel
theorem dX5_goes_81 : decode cX5_goes 81 = .ok (.ireturn, 1) := by decide +kernel
theorem dX5_goes_82 : decode cX5_goes 82 = .ok (.aload_n 0, 1) := by decide +kernel
theorem dX5_goes_83 : decode cX5_goes 83 = .ok (.getfield 47, 3) := by decide +kernel
theorem dX5_goes_86 : decode cX5_goes 86 = .ok (.iload 6, 2) := by decide +kernel
theorem dX5_goes_88 : decode cX5_goes 88 = .ok (.iaload, 1) := by decide +kernel
theorem dX5_goes_89 : decode cX5_goes 89 = .ok (.bipush (-2), 2) := by decide +kernel
theorem dX5_goes_91 : decode cX5_goes 91 = .ok (.if_icmp .le 8, 3) := by decide +kernel
theorem dX5_goes_94 : decode cX5_goes 94 = .ok (.iload 6, 2) := by decide +kernel
theorem dX5_goes_96 : decode cX5_goes 96 = .ok (.goto 5, 3) := by decide +kernel
theorem dX5_goes_99 : decode cX5_goes 99 = .ok (.bipush (-6), 2) := by decide +kernel
theorem dX5_goes_101 : decode cX5_goes 101 = .ok (.ireturn, 1) := by decide +kernel
theorem dX5_goes_102 : decode cX5_goes 102 = .ok (.iload_n 3, 1) := by decide +kernel
theorem dX5_goes_103 : decode cX5_goes 103 = .ok (.iconst 4, 1) := by decide +kernel
theorem dX5_goes_104 : decode cX5_goes 104 = .ok (.if_icmp .ge 22, 3) := by decide +kernel
theorem dX5_goes_107 : decode cX5_goes 107 = .ok (.aload_n 0, 1) := by decide +kernel
theorem dX5_goes_108 : decode cX5_goes 108 = .ok (.getfield 50, 3) := by decide +kernel
theorem dX5_goes_111 : decode cX5_goes 111 = .ok (.iload_n 1, 1) := by decide +kernel
theorem dX5_goes_112 : decode cX5_goes 112 = .ok (.iaload, 1) := by decide +kernel
theorem dX5_goes_113 : decode cX5_goes 113 = .ok (.iconst 5, 1) := by decide +kernel
theorem dX5_goes_114 : decode cX5_goes 114 = .ok (.iload_n 3, 1) := by decide +kernel
theorem dX5_goes_115 : decode cX5_goes 115 = .ok (.isub, 1) := by decide +kernel
theorem dX5_goes_116 : decode cX5_goes 116 = .ok (.if_icmp .ge 10, 3) := by decide +kernel
theorem dX5_goes_119 : decode cX5_goes 119 = .ok (.iload_n 1, 1) := by decide +kernel
theorem dX5_goes_120 : decode cX5_goes 120 = .ok (.bipush 24, 2) := by decide +kernel
theorem dX5_goes_122 : decode cX5_goes 122 = .ok (.iadd, 1) := by decide +kernel
theorem dX5_goes_123 : decode cX5_goes 123 = .ok (.goto 5, 3) := by decide +kernel
theorem dX5_goes_126 : decode cX5_goes 126 = .ok (.bipush (-6), 2) := by decide +kernel
theorem dX5_goes_128 : decode cX5_goes 128 = .ok (.ireturn, 1) := by decide +kernel
theorem dX5_goes_129 : decode cX5_goes 129 = .ok (.iload_n 3, 1) := by decide +kernel
theorem dX5_goes_130 : decode cX5_goes 130 = .ok (.ifCond .le 26, 3) := by decide +kernel
theorem dX5_goes_133 : decode cX5_goes 133 = .ok (.aload_n 0, 1) := by decide +kernel
theorem dX5_goes_134 : decode cX5_goes 134 = .ok (.getfield 50, 3) := by decide +kernel
theorem dX5_goes_137 : decode cX5_goes 137 = .ok (.iload_n 1, 1) := by decide +kernel
theorem dX5_goes_138 : decode cX5_goes 138 = .ok (.bipush 24, 2) := by decide +kernel
theorem dX5_goes_140 : decode cX5_goes 140 = .ok (.isub, 1) := by decide +kernel
theorem dX5_goes_141 : decode cX5_goes 141 = .ok (.iaload, 1) := by decide +kernel
theorem dX5_goes_142 : decode cX5_goes 142 = .ok (.iload_n 3, 1) := by decide +kernel
theorem dX5_goes_143 : decode cX5_goes 143 = .ok (.bipush 6, 2) := by decide +kernel
theorem dX5_goes_145 : decode cX5_goes 145 = .ok (.isub, 1) := by decide +kernel
theorem dX5_goes_146 : decode cX5_goes 146 = .ok (.if_icmp .le 10, 3) := by decide +kernel
theorem dX5_goes_149 : decode cX5_goes 149 = .ok (.iload_n 1, 1) := by decide +kernel
theorem dX5_goes_150 : decode cX5_goes 150 = .ok (.bipush 24, 2) := by decide +kernel
theorem dX5_goes_152 : decode cX5_goes 152 = .ok (.isub, 1) := by decide +kernel
theorem dX5_goes_153 : decode cX5_goes 153 = .ok (.goto 5, 3) := by decide +kernel
theorem dX5_goes_156 : decode cX5_goes 156 = .ok (.bipush (-6), 2) := by decide +kernel
theorem dX5_goes_158 : decode cX5_goes 158 = .ok (.ireturn, 1) := by decide +kernel
theorem dX5_go_0 : decode cX5_go 0 = .ok (.iload_n 3, 1) := by decide +kernel
theorem dX5_go_1 : decode cX5_go 1 = .ok (.tableswitch 66 0 2 #[27, 40, 53], 27) := by decide +kernel
theorem dX5_go_28 : decode cX5_go 28 = .ok (.aload_n 0, 1) := by decide +kernel
theorem dX5_go_29 : decode cX5_go 29 = .ok (.getfield 47, 3) := by decide +kernel
theorem dX5_go_32 : decode cX5_go 32 = .ok (.iload_n 1, 1) := by decide +kernel
theorem dX5_go_33 : decode cX5_go 33 = .ok (.dup2, 1) := by decide +kernel
theorem dX5_go_34 : decode cX5_go 34 = .ok (.iaload, 1) := by decide +kernel
theorem dX5_go_35 : decode cX5_go 35 = .ok (.iconst 1, 1) := by decide +kernel
theorem dX5_go_36 : decode cX5_go 36 = .ok (.iadd, 1) := by decide +kernel
theorem dX5_go_37 : decode cX5_go 37 = .ok (.iastore, 1) := by decide +kernel
theorem dX5_go_38 : decode cX5_go 38 = .ok (.goto 39, 3) := by decide +kernel
theorem dX5_go_41 : decode cX5_go 41 = .ok (.aload_n 0, 1) := by decide +kernel
theorem dX5_go_42 : decode cX5_go 42 = .ok (.getfield 47, 3) := by decide +kernel
theorem dX5_go_45 : decode cX5_go 45 = .ok (.iload_n 2, 1) := by decide +kernel
theorem dX5_go_46 : decode cX5_go 46 = .ok (.dup2, 1) := by decide +kernel
theorem dX5_go_47 : decode cX5_go 47 = .ok (.iaload, 1) := by decide +kernel
theorem dX5_go_48 : decode cX5_go 48 = .ok (.iconst 1, 1) := by decide +kernel
theorem dX5_go_49 : decode cX5_go 49 = .ok (.isub, 1) := by decide +kernel
theorem dX5_go_50 : decode cX5_go 50 = .ok (.iastore, 1) := by decide +kernel
theorem dX5_go_51 : decode cX5_go 51 = .ok (.goto 26, 3) := by decide +kernel
theorem dX5_go_54 : decode cX5_go 54 = .ok (.aload_n 0, 1) := by decide +kernel
theorem dX5_go_55 : decode cX5_go 55 = .ok (.getfield 50, 3) := by decide +kernel
theorem dX5_go_58 : decode cX5_go 58 = .ok (.iload_n 1, 1) := by decide +kernel
theorem dX5_go_59 : decode cX5_go 59 = .ok (.dup2, 1) := by decide +kernel
theorem dX5_go_60 : decode cX5_go 60 = .ok (.iaload, 1) := by decide +kernel
theorem dX5_go_61 : decode cX5_go 61 = .ok (.iconst 1, 1) := by decide +kernel
theorem dX5_go_62 : decode cX5_go 62 = .ok (.iadd, 1) := by decide +kernel
theorem dX5_go_63 : decode cX5_go 63 = .ok (.iastore, 1) := by decide +kernel
theorem dX5_go_64 : decode cX5_go 64 = .ok (.goto 13, 3) := by decide +kernel
theorem dX5_go_67 : decode cX5_go 67 = .ok (.aload_n 0, 1) := by decide +kernel
theorem dX5_go_68 : decode cX5_go 68 = .ok (.getfield 50, 3) := by decide +kernel
theorem dX5_go_71 : decode cX5_go 71 = .ok (.iload_n 2, 1) := by decide +kernel
theorem dX5_go_72 : decode cX5_go 72 = .ok (.dup2, 1) := by decide +kernel
theorem dX5_go_73 : decode cX5_go 73 = .ok (.iaload, 1) := by decide +kernel
theorem dX5_go_74 : decode cX5_go 74 = .ok (.iconst 1, 1) := by decide +kernel
theorem dX5_go_75 : decode cX5_go 75 = .ok (.isub, 1) := by decide +kernel
theorem dX5_go_76 : decode cX5_go 76 = .ok (.iastore, 1) := by decide +kernel
theorem dX5_go_77 : decode cX5_go 77 = .ok (.return_, 1) := by decide +kernel
theorem dX5_goOne_0 : decode cX5_goOne 0 = .ok (.iconst 0, 1) := by decide +kernel
theorem dX5_goOne_1 : decode cX5_goOne 1 = .ok (.istore_n 2, 1) := by decide +kernel
theorem dX5_goOne_2 : decode cX5_goOne 2 = .ok (.iconst 0, 1) := by decide +kernel
theorem dX5_goOne_3 : decode cX5_goOne 3 = .ok (.istore_n 3, 1) := by decide +kernel
theorem dX5_goOne_4 : decode cX5_goOne 4 = .ok (.iload_n 3, 1) := by decide +kernel
theorem dX5_goOne_5 : decode cX5_goOne 5 = .ok (.bipush 120, 2) := by decide +kernel
theorem dX5_goOne_7 : decode cX5_goOne 7 = .ok (.if_icmp .ge 45, 3) := by decide +kernel
theorem dX5_goOne_10 : decode cX5_goOne 10 = .ok (.aload_n 0, 1) := by decide +kernel
theorem dX5_goOne_11 : decode cX5_goOne 11 = .ok (.getfield 53, 3) := by decide +kernel
theorem dX5_goOne_14 : decode cX5_goOne 14 = .ok (.iload_n 3, 1) := by decide +kernel
theorem dX5_goOne_15 : decode cX5_goOne 15 = .ok (.bipush (-6), 2) := by decide +kernel
theorem dX5_goOne_17 : decode cX5_goOne 17 = .ok (.iastore, 1) := by decide +kernel
theorem dX5_goOne_18 : decode cX5_goOne 18 = .ok (.aload_n 0, 1) := by decide +kernel
theorem dX5_goOne_19 : decode cX5_goOne 19 = .ok (.iload_n 1, 1) := by decide +kernel
theorem dX5_goOne_20 : decode cX5_goOne 20 = .ok (.iload_n 3, 1) := by decide +kernel
theorem dX5_goOne_21 : decode cX5_goOne 21 = .ok (.invokevirtual 167, 3) := by decide +kernel
theorem dX5_goOne_24 : decode cX5_goOne 24 = .ok (.ifCond .eq 22, 3) := by decide +kernel
theorem dX5_goOne_27 : decode cX5_goOne 27 = .ok (.aload_n 0, 1) := by decide +kernel
theorem dX5_goOne_28 : decode cX5_goOne 28 = .ok (.getfield 53, 3) := by decide +kernel
theorem dX5_goOne_31 : decode cX5_goOne 31 = .ok (.iload_n 3, 1) := by decide +kernel
theorem dX5_goOne_32 : decode cX5_goOne 32 = .ok (.sipush 1000, 3) := by decide +kernel
theorem dX5_goOne_35 : decode cX5_goOne 35 = .ok (.iastore, 1) := by decide +kernel
theorem dX5_goOne_36 : decode cX5_goOne 36 = .ok (.aload_n 0, 1) := by decide +kernel
theorem dX5_goOne_37 : decode cX5_goOne 37 = .ok (.getfield 56, 3) := by decide +kernel
theorem dX5_goOne_40 : decode cX5_goOne 40 = .ok (.iload_n 2, 1) := by decide +kernel
theorem dX5_goOne_41 : decode cX5_goOne 41 = .ok (.iload_n 3, 1) := by decide +kernel
theorem dX5_goOne_42 : decode cX5_goOne 42 = .ok (.iastore, 1) := by decide +kernel
theorem dX5_goOne_43 : decode cX5_goOne 43 = .ok (.iinc 2 1, 3) := by decide +kernel
theorem dX5_goOne_46 : decode cX5_goOne 46 = .ok (.iinc 3 1, 3) := by decide +kernel
theorem dX5_goOne_49 : decode cX5_goOne 49 = .ok (.goto (-45), 3) := by decide +kernel
theorem dX5_goOne_52 : decode cX5_goOne 52 = .ok (.bipush (-6), 2) := by decide +kernel
theorem dX5_goOne_54 : decode cX5_goOne 54 = .ok (.istore_n 3, 1) := by decide +kernel
theorem dX5_goOne_55 : decode cX5_goOne 55 = .ok (.iconst 0, 1) := by decide +kernel
theorem dX5_goOne_56 : decode cX5_goOne 56 = .ok (.istore 4, 2) := by decide +kernel
theorem dX5_goOne_58 : decode cX5_goOne 58 = .ok (.iload 4, 2) := by decide +kernel
theorem dX5_goOne_60 : decode cX5_goOne 60 = .ok (.iload_n 2, 1) := by decide +kernel
theorem dX5_goOne_61 : decode cX5_goOne 61 = .ok (.if_icmp .ge 109, 3) := by decide +kernel
theorem dX5_goOne_64 : decode cX5_goOne 64 = .ok (.iload_n 3, 1) := by decide +kernel
theorem dX5_goOne_65 : decode cX5_goOne 65 = .ok (.ifCond .ge 105, 3) := by decide +kernel
theorem dX5_goOne_68 : decode cX5_goOne 68 = .ok (.aload_n 0, 1) := by decide +kernel
theorem dX5_goOne_69 : decode cX5_goOne 69 = .ok (.getfield 56, 3) := by decide +kernel
theorem dX5_goOne_72 : decode cX5_goOne 72 = .ok (.iload 4, 2) := by decide +kernel
theorem dX5_goOne_74 : decode cX5_goOne 74 = .ok (.iaload, 1) := by decide +kernel
theorem dX5_goOne_75 : decode cX5_goOne 75 = .ok (.istore 5, 2) := by decide +kernel
theorem dX5_goOne_77 : decode cX5_goOne 77 = .ok (.iconst 0, 1) := by decide +kernel
theorem dX5_goOne_78 : decode cX5_goOne 78 = .ok (.istore 6, 2) := by decide +kernel
theorem dX5_goOne_80 : decode cX5_goOne 80 = .ok (.iload 6, 2) := by decide +kernel
theorem dX5_goOne_82 : decode cX5_goOne 82 = .ok (.iconst 4, 1) := by decide +kernel
theorem dX5_goOne_83 : decode cX5_goOne 83 = .ok (.if_icmp .ge 81, 3) := by decide +kernel
theorem dX5_goOne_86 : decode cX5_goOne 86 = .ok (.iload_n 3, 1) := by decide +kernel
theorem dX5_goOne_87 : decode cX5_goOne 87 = .ok (.ifCond .ge 77, 3) := by decide +kernel
theorem dX5_goOne_90 : decode cX5_goOne 90 = .ok (.aload_n 0, 1) := by decide +kernel
theorem dX5_goOne_91 : decode cX5_goOne 91 = .ok (.iload 5, 2) := by decide +kernel
theorem dX5_goOne_93 : decode cX5_goOne 93 = .ok (.iload 6, 2) := by decide +kernel
theorem dX5_goOne_95 : decode cX5_goOne 95 = .ok (.invokevirtual 170, 3) := by decide +kernel
theorem dX5_goOne_98 : decode cX5_goOne 98 = .ok (.istore 7, 2) := by decide +kernel
theorem dX5_goOne_100 : decode cX5_goOne 100 = .ok (.iload 7, 2) := by decide +kernel
theorem dX5_goOne_102 : decode cX5_goOne 102 = .ok (.ifCond .lt 56, 3) := by decide +kernel
theorem dX5_goOne_105 : decode cX5_goOne 105 = .ok (.aload_n 0, 1) := by decide +kernel
theorem dX5_goOne_106 : decode cX5_goOne 106 = .ok (.getfield 53, 3) := by decide +kernel
theorem dX5_goOne_109 : decode cX5_goOne 109 = .ok (.iload 7, 2) := by decide +kernel
theorem dX5_goOne_111 : decode cX5_goOne 111 = .ok (.iaload, 1) := by decide +kernel
theorem dX5_goOne_112 : decode cX5_goOne 112 = .ok (.ifCond .ge 46, 3) := by decide +kernel
theorem dX5_goOne_115 : decode cX5_goOne 115 = .ok (.aload_n 0, 1) := by decide +kernel
theorem dX5_goOne_116 : decode cX5_goOne 116 = .ok (.getfield 53, 3) := by decide +kernel
theorem dX5_goOne_119 : decode cX5_goOne 119 = .ok (.iload 7, 2) := by decide +kernel
theorem dX5_goOne_121 : decode cX5_goOne 121 = .ok (.iconst 4, 1) := by decide +kernel
theorem dX5_goOne_122 : decode cX5_goOne 122 = .ok (.iload 5, 2) := by decide +kernel
theorem dX5_goOne_124 : decode cX5_goOne 124 = .ok (.imul, 1) := by decide +kernel
theorem dX5_goOne_125 : decode cX5_goOne 125 = .ok (.iload 6, 2) := by decide +kernel
theorem dX5_goOne_127 : decode cX5_goOne 127 = .ok (.iadd, 1) := by decide +kernel
theorem dX5_goOne_128 : decode cX5_goOne 128 = .ok (.iastore, 1) := by decide +kernel
theorem dX5_goOne_129 : decode cX5_goOne 129 = .ok (.aload_n 0, 1) := by decide +kernel
theorem dX5_goOne_130 : decode cX5_goOne 130 = .ok (.getfield 56, 3) := by decide +kernel
theorem dX5_goOne_133 : decode cX5_goOne 133 = .ok (.iload_n 2, 1) := by decide +kernel
theorem dX5_goOne_134 : decode cX5_goOne 134 = .ok (.iload 7, 2) := by decide +kernel
theorem dX5_goOne_136 : decode cX5_goOne 136 = .ok (.iastore, 1) := by decide +kernel
theorem dX5_goOne_137 : decode cX5_goOne 137 = .ok (.iinc 2 1, 3) := by decide +kernel
theorem dX5_goOne_140 : decode cX5_goOne 140 = .ok (.aload_n 0, 1) := by decide +kernel
theorem dX5_goOne_141 : decode cX5_goOne 141 = .ok (.iload_n 1, 1) := by decide +kernel
theorem dX5_goOne_142 : decode cX5_goOne 142 = .ok (.iload 7, 2) := by decide +kernel
theorem dX5_goOne_144 : decode cX5_goOne 144 = .ok (.invokevirtual 173, 3) := by decide +kernel
theorem dX5_goOne_147 : decode cX5_goOne 147 = .ok (.ifCond .eq 8, 3) := by decide +kernel
theorem dX5_goOne_150 : decode cX5_goOne 150 = .ok (.iload 7, 2) := by decide +kernel
theorem dX5_goOne_152 : decode cX5_goOne 152 = .ok (.goto 5, 3) := by decide +kernel
theorem dX5_goOne_155 : decode cX5_goOne 155 = .ok (.bipush (-6), 2) := by decide +kernel
theorem dX5_goOne_157 : decode cX5_goOne 157 = .ok (.istore_n 3, 1) := by decide +kernel
theorem dX5_goOne_158 : decode cX5_goOne 158 = .ok (.iinc 6 1, 3) := by decide +kernel
theorem dX5_goOne_161 : decode cX5_goOne 161 = .ok (.goto (-81), 3) := by decide +kernel
theorem dX5_goOne_164 : decode cX5_goOne 164 = .ok (.iinc 4 1, 3) := by decide +kernel
theorem dX5_goOne_167 : decode cX5_goOne 167 = .ok (.goto (-109), 3) := by decide +kernel
theorem dX5_goOne_170 : decode cX5_goOne 170 = .ok (.iload_n 3, 1) := by decide +kernel
theorem dX5_goOne_171 : decode cX5_goOne 171 = .ok (.ifCond .ge 5, 3) := by decide +kernel
theorem dX5_goOne_174 : decode cX5_goOne 174 = .ok (.iconst 0, 1) := by decide +kernel
theorem dX5_goOne_175 : decode cX5_goOne 175 = .ok (.ireturn, 1) := by decide +kernel
theorem dX5_goOne_176 : decode cX5_goOne 176 = .ok (.iload_n 3, 1) := by decide +kernel
theorem dX5_goOne_177 : decode cX5_goOne 177 = .ok (.istore 4, 2) := by decide +kernel
theorem dX5_goOne_179 : decode cX5_goOne 179 = .ok (.aload_n 0, 1) := by decide +kernel
theorem dX5_goOne_180 : decode cX5_goOne 180 = .ok (.getfield 53, 3) := by decide +kernel
theorem dX5_goOne_183 : decode cX5_goOne 183 = .ok (.iload 4, 2) := by decide +kernel
theorem dX5_goOne_185 : decode cX5_goOne 185 = .ok (.iaload, 1) := by decide +kernel
theorem dX5_goOne_186 : decode cX5_goOne 186 = .ok (.sipush 1000, 3) := by decide +kernel
theorem dX5_goOne_189 : decode cX5_goOne 189 = .ok (.if_icmp .eq 38, 3) := by decide +kernel
theorem dX5_goOne_192 : decode cX5_goOne 192 = .ok (.aload_n 0, 1) := by decide +kernel
theorem dX5_goOne_193 : decode cX5_goOne 193 = .ok (.getfield 53, 3) := by decide +kernel
theorem dX5_goOne_196 : decode cX5_goOne 196 = .ok (.iload 4, 2) := by decide +kernel
theorem dX5_goOne_198 : decode cX5_goOne 198 = .ok (.iaload, 1) := by decide +kernel
theorem dX5_goOne_199 : decode cX5_goOne 199 = .ok (.iconst 4, 1) := by decide +kernel
theorem dX5_goOne_200 : decode cX5_goOne 200 = .ok (.idiv, 1) := by decide +kernel
theorem dX5_goOne_201 : decode cX5_goOne 201 = .ok (.istore 5, 2) := by decide +kernel
theorem dX5_goOne_203 : decode cX5_goOne 203 = .ok (.aload_n 0, 1) := by decide +kernel
theorem dX5_goOne_204 : decode cX5_goOne 204 = .ok (.iload 5, 2) := by decide +kernel
theorem dX5_goOne_206 : decode cX5_goOne 206 = .ok (.iload 4, 2) := by decide +kernel
theorem dX5_goOne_208 : decode cX5_goOne 208 = .ok (.aload_n 0, 1) := by decide +kernel
theorem dX5_goOne_209 : decode cX5_goOne 209 = .ok (.getfield 53, 3) := by decide +kernel
theorem dX5_goOne_212 : decode cX5_goOne 212 = .ok (.iload 4, 2) := by decide +kernel
theorem dX5_goOne_214 : decode cX5_goOne 214 = .ok (.iaload, 1) := by decide +kernel
theorem dX5_goOne_215 : decode cX5_goOne 215 = .ok (.iconst 4, 1) := by decide +kernel
theorem dX5_goOne_216 : decode cX5_goOne 216 = .ok (.irem, 1) := by decide +kernel
theorem dX5_goOne_217 : decode cX5_goOne 217 = .ok (.invokevirtual 176, 3) := by decide +kernel
theorem dX5_goOne_220 : decode cX5_goOne 220 = .ok (.iload 5, 2) := by decide +kernel
theorem dX5_goOne_222 : decode cX5_goOne 222 = .ok (.istore 4, 2) := by decide +kernel
theorem dX5_goOne_224 : decode cX5_goOne 224 = .ok (.goto (-45), 3) := by decide +kernel
theorem dX5_goOne_227 : decode cX5_goOne 227 = .ok (.iconst 1, 1) := by decide +kernel
theorem dX5_goOne_228 : decode cX5_goOne 228 = .ok (.ireturn, 1) := by decide +kernel
theorem dX5_fence_0 : decode cX5_fence 0 = .ok (.iload_n 1, 1) := by decide +kernel
theorem dX5_fence_1 : decode cX5_fence 1 = .ok (.invokestatic 97, 3) := by decide +kernel
theorem dX5_fence_4 : decode cX5_fence 4 = .ok (.ifCond .ne 5, 3) := by decide +kernel
theorem dX5_fence_7 : decode cX5_fence 7 = .ok (.iconst (-1), 1) := by decide +kernel
theorem dX5_fence_8 : decode cX5_fence 8 = .ok (.ireturn, 1) := by decide +kernel
theorem dX5_fence_9 : decode cX5_fence 9 = .ok (.iconst 0, 1) := by decide +kernel
theorem dX5_fence_10 : decode cX5_fence 10 = .ok (.istore_n 2, 1) := by decide +kernel
theorem dX5_fence_11 : decode cX5_fence 11 = .ok (.iload_n 2, 1) := by decide +kernel
theorem dX5_fence_12 : decode cX5_fence 12 = .ok (.bipush 120, 2) := by decide +kernel
theorem dX5_fence_14 : decode cX5_fence 14 = .ok (.if_icmp .ge 23, 3) := by decide +kernel
theorem dX5_fence_17 : decode cX5_fence 17 = .ok (.aload_n 0, 1) := by decide +kernel
theorem dX5_fence_18 : decode cX5_fence 18 = .ok (.getfield 47, 3) := by decide +kernel
theorem dX5_fence_21 : decode cX5_fence 21 = .ok (.iload_n 2, 1) := by decide +kernel
theorem dX5_fence_22 : decode cX5_fence 22 = .ok (.iconst 0, 1) := by decide +kernel
theorem dX5_fence_23 : decode cX5_fence 23 = .ok (.iastore, 1) := by decide +kernel
theorem dX5_fence_24 : decode cX5_fence 24 = .ok (.aload_n 0, 1) := by decide +kernel
theorem dX5_fence_25 : decode cX5_fence 25 = .ok (.getfield 50, 3) := by decide +kernel
theorem dX5_fence_28 : decode cX5_fence 28 = .ok (.iload_n 2, 1) := by decide +kernel
theorem dX5_fence_29 : decode cX5_fence 29 = .ok (.iconst 0, 1) := by decide +kernel
theorem dX5_fence_30 : decode cX5_fence 30 = .ok (.iastore, 1) := by decide +kernel
theorem dX5_fence_31 : decode cX5_fence 31 = .ok (.iinc 2 1, 3) := by decide +kernel
theorem dX5_fence_34 : decode cX5_fence 34 = .ok (.goto (-23), 3) := by decide +kernel
theorem dX5_fence_37 : decode cX5_fence 37 = .ok (.iconst 0, 1) := by decide +kernel
theorem dX5_fence_38 : decode cX5_fence 38 = .ok (.istore_n 2, 1) := by decide +kernel
theorem dX5_fence_39 : decode cX5_fence 39 = .ok (.aload_n 0, 1) := by decide +kernel
theorem dX5_fence_40 : decode cX5_fence 40 = .ok (.iload_n 1, 1) := by decide +kernel
theorem dX5_fence_41 : decode cX5_fence 41 = .ok (.invokevirtual 180, 3) := by decide +kernel
theorem dX5_fence_44 : decode cX5_fence 44 = .ok (.ifCond .eq 9, 3) := by decide +kernel
theorem dX5_fence_47 : decode cX5_fence 47 = .ok (.iinc 2 1, 3) := by decide +kernel
theorem dX5_fence_50 : decode cX5_fence 50 = .ok (.goto (-11), 3) := by decide +kernel
theorem dX5_fence_53 : decode cX5_fence 53 = .ok (.iload_n 2, 1) := by decide +kernel
theorem dX5_fence_54 : decode cX5_fence 54 = .ok (.ireturn, 1) := by decide +kernel
theorem dX5_spring_0 : decode cX5_spring 0 = .ok (.iload_n 1, 1) := by decide +kernel
theorem dX5_spring_1 : decode cX5_spring 1 = .ok (.invokestatic 100, 3) := by decide +kernel
theorem dX5_spring_4 : decode cX5_spring 4 = .ok (.ifCond .ne 5, 3) := by decide +kernel
theorem dX5_spring_7 : decode cX5_spring 7 = .ok (.iconst (-1), 1) := by decide +kernel
theorem dX5_spring_8 : decode cX5_spring 8 = .ok (.ireturn, 1) := by decide +kernel
theorem dX5_spring_9 : decode cX5_spring 9 = .ok (.iload_n 2, 1) := by decide +kernel
theorem dX5_spring_10 : decode cX5_spring 10 = .ok (.iconst 0, 1) := by decide +kernel
theorem dX5_spring_11 : decode cX5_spring 11 = .ok (.bipush 23, 2) := by decide +kernel
theorem dX5_spring_13 : decode cX5_spring 13 = .ok (.invokestatic 66, 3) := by decide +kernel
theorem dX5_spring_16 : decode cX5_spring 16 = .ok (.ifCond .eq 43, 3) := by decide +kernel
theorem dX5_spring_19 : decode cX5_spring 19 = .ok (.iload_n 3, 1) := by decide +kernel
theorem dX5_spring_20 : decode cX5_spring 20 = .ok (.iconst 0, 1) := by decide +kernel
theorem dX5_spring_21 : decode cX5_spring 21 = .ok (.sipush 999, 3) := by decide +kernel
theorem dX5_spring_24 : decode cX5_spring 24 = .ok (.invokestatic 66, 3) := by decide +kernel
theorem dX5_spring_27 : decode cX5_spring 27 = .ok (.ifCond .eq 32, 3) := by decide +kernel
theorem dX5_spring_30 : decode cX5_spring 30 = .ok (.iload 4, 2) := by decide +kernel
theorem dX5_spring_32 : decode cX5_spring 32 = .ok (.ifCond .eq 30, 3) := by decide +kernel
theorem dX5_spring_35 : decode cX5_spring 35 = .ok (.iload 4, 2) := by decide +kernel
theorem dX5_spring_37 : decode cX5_spring 37 = .ok (.bipush 10, 2) := by decide +kernel
theorem dX5_spring_39 : decode cX5_spring 39 = .ok (.bipush 15, 2) := by decide +kernel
theorem dX5_spring_41 : decode cX5_spring 41 = .ok (.invokestatic 66, 3) := by decide +kernel
theorem dX5_spring_44 : decode cX5_spring 44 = .ok (.ifCond .ne 18, 3) := by decide +kernel
theorem dX5_spring_47 : decode cX5_spring 47 = .ok (.iload 4, 2) := by decide +kernel
theorem dX5_spring_49 : decode cX5_spring 49 = .ok (.bipush 20, 2) := by decide +kernel
theorem dX5_spring_51 : decode cX5_spring 51 = .ok (.bipush 25, 2) := by decide +kernel
theorem dX5_spring_53 : decode cX5_spring 53 = .ok (.invokestatic 66, 3) := by decide +kernel
theorem dX5_spring_56 : decode cX5_spring 56 = .ok (.ifCond .ne 6, 3) := by decide +kernel
theorem dX5_spring_59 : decode cX5_spring 59 = .ok (.bipush (-2), 2) := by decide +kernel
theorem dX5_spring_61 : decode cX5_spring 61 = .ok (.ireturn, 1) := by decide +kernel
theorem dX5_spring_62 : decode cX5_spring 62 = .ok (.iconst 0, 1) := by decide +kernel
theorem dX5_spring_63 : decode cX5_spring 63 = .ok (.istore 5, 2) := by decide +kernel
theorem dX5_spring_65 : decode cX5_spring 65 = .ok (.bipush (-6), 2) := by decide +kernel
theorem dX5_spring_67 : decode cX5_spring 67 = .ok (.istore 6, 2) := by decide +kernel
theorem dX5_spring_69 : decode cX5_spring 69 = .ok (.iconst 0, 1) := by decide +kernel
theorem dX5_spring_70 : decode cX5_spring 70 = .ok (.istore 7, 2) := by decide +kernel
theorem dX5_spring_72 : decode cX5_spring 72 = .ok (.iload 7, 2) := by decide +kernel
theorem dX5_spring_74 : decode cX5_spring 74 = .ok (.iload_n 3, 1) := by decide +kernel
theorem dX5_spring_75 : decode cX5_spring 75 = .ok (.if_icmp .gt 72, 3) := by decide +kernel
theorem dX5_spring_78 : decode cX5_spring 78 = .ok (.aload_n 0, 1) := by decide +kernel
theorem dX5_spring_79 : decode cX5_spring 79 = .ok (.getfield 16, 3) := by decide +kernel
theorem dX5_spring_82 : decode cX5_spring 82 = .ok (.iload_n 1, 1) := by decide +kernel
theorem dX5_spring_83 : decode cX5_spring 83 = .ok (.iload_n 2, 1) := by decide +kernel
theorem dX5_spring_84 : decode cX5_spring 84 = .ok (.iload 7, 2) := by decide +kernel
theorem dX5_spring_86 : decode cX5_spring 86 = .ok (.imul, 1) := by decide +kernel
theorem dX5_spring_87 : decode cX5_spring 87 = .ok (.iadd, 1) := by decide +kernel
theorem dX5_spring_88 : decode cX5_spring 88 = .ok (.bipush 24, 2) := by decide +kernel
theorem dX5_spring_90 : decode cX5_spring 90 = .ok (.irem, 1) := by decide +kernel
theorem dX5_spring_91 : decode cX5_spring 91 = .ok (.iaload, 1) := by decide +kernel
theorem dX5_spring_92 : decode cX5_spring 92 = .ok (.iload 4, 2) := by decide +kernel
theorem dX5_spring_94 : decode cX5_spring 94 = .ok (.bipush 10, 2) := by decide +kernel
theorem dX5_spring_96 : decode cX5_spring 96 = .ok (.irem, 1) := by decide +kernel
theorem dX5_spring_97 : decode cX5_spring 97 = .ok (.if_icmp .ne 7, 3) := by decide +kernel
theorem dX5_spring_100 : decode cX5_spring 100 = .ok (.iconst 1, 1) := by decide +kernel
theorem dX5_spring_101 : decode cX5_spring 101 = .ok (.goto 4, 3) := by decide +kernel
theorem dX5_spring_104 : decode cX5_spring 104 = .ok (.iconst 0, 1) := by decide +kernel
theorem dX5_spring_105 : decode cX5_spring 105 = .ok (.istore 8, 2) := by decide +kernel
theorem dX5_spring_107 : decode cX5_spring 107 = .ok (.iload 5, 2) := by decide +kernel
theorem dX5_spring_109 : decode cX5_spring 109 = .ok (.iload 8, 2) := by decide +kernel
theorem dX5_spring_111 : decode cX5_spring 111 = .ok (.ifCond .eq 7, 3) := by decide +kernel
theorem dX5_spring_114 : decode cX5_spring 114 = .ok (.iconst 1, 1) := by decide +kernel
theorem dX5_spring_115 : decode cX5_spring 115 = .ok (.goto 4, 3) := by decide +kernel
theorem dX5_spring_118 : decode cX5_spring 118 = .ok (.iconst 0, 1) := by decide +kernel
theorem dX5_spring_119 : decode cX5_spring 119 = .ok (.iadd, 1) := by decide +kernel
theorem dX5_spring_120 : decode cX5_spring 120 = .ok (.istore 5, 2) := by decide +kernel
theorem dX5_spring_122 : decode cX5_spring 122 = .ok (.iload 8, 2) := by decide +kernel
theorem dX5_spring_124 : decode cX5_spring 124 = .ok (.ifCond .eq 13, 3) := by decide +kernel
theorem dX5_spring_127 : decode cX5_spring 127 = .ok (.iload 6, 2) := by decide +kernel
theorem dX5_spring_129 : decode cX5_spring 129 = .ok (.ifCond .ge 8, 3) := by decide +kernel
theorem dX5_spring_132 : decode cX5_spring 132 = .ok (.iload 7, 2) := by decide +kernel
theorem dX5_spring_134 : decode cX5_spring 134 = .ok (.goto 5, 3) := by decide +kernel
theorem dX5_spring_137 : decode cX5_spring 137 = .ok (.iload 6, 2) := by decide +kernel
theorem dX5_spring_139 : decode cX5_spring 139 = .ok (.istore 6, 2) := by decide +kernel
theorem dX5_spring_141 : decode cX5_spring 141 = .ok (.iinc 7 1, 3) := by decide +kernel
theorem dX5_spring_144 : decode cX5_spring 144 = .ok (.goto (-72), 3) := by decide +kernel
theorem dX5_spring_147 : decode cX5_spring 147 = .ok (.iload 4, 2) := by decide +kernel
theorem dX5_spring_149 : decode cX5_spring 149 = .ok (.ifCond .ne 19, 3) := by decide +kernel
theorem dX5_spring_152 : decode cX5_spring 152 = .ok (.aload_n 0, 1) := by decide +kernel
theorem dX5_spring_153 : decode cX5_spring 153 = .ok (.getfield 16, 3) := by decide +kernel
theorem dX5_spring_156 : decode cX5_spring 156 = .ok (.iload_n 1, 1) := by decide +kernel
theorem dX5_spring_157 : decode cX5_spring 157 = .ok (.iload_n 2, 1) := by decide +kernel
theorem dX5_spring_158 : decode cX5_spring 158 = .ok (.iload_n 3, 1) := by decide +kernel
theorem dX5_spring_159 : decode cX5_spring 159 = .ok (.imul, 1) := by decide +kernel
theorem dX5_spring_160 : decode cX5_spring 160 = .ok (.iadd, 1) := by decide +kernel
theorem dX5_spring_161 : decode cX5_spring 161 = .ok (.bipush 24, 2) := by decide +kernel
theorem dX5_spring_163 : decode cX5_spring 163 = .ok (.irem, 1) := by decide +kernel
theorem dX5_spring_164 : decode cX5_spring 164 = .ok (.iaload, 1) := by decide +kernel
theorem dX5_spring_165 : decode cX5_spring 165 = .ok (.goto 17, 3) := by decide +kernel
theorem dX5_spring_168 : decode cX5_spring 168 = .ok (.iload 4, 2) := by decide +kernel
theorem dX5_spring_170 : decode cX5_spring 170 = .ok (.bipush 20, 2) := by decide +kernel
theorem dX5_spring_172 : decode cX5_spring 172 = .ok (.if_icmp .ge 8, 3) := by decide +kernel
theorem dX5_spring_175 : decode cX5_spring 175 = .ok (.iload 5, 2) := by decide +kernel
theorem dX5_spring_177 : decode cX5_spring 177 = .ok (.goto 5, 3) := by decide +kernel
theorem dX5_spring_180 : decode cX5_spring 180 = .ok (.iload 6, 2) := by decide +kernel
theorem dX5_spring_182 : decode cX5_spring 182 = .ok (.ireturn, 1) := by decide +kernel
theorem dX5_boundsBy_0 : decode cX5_boundsBy 0 = .ok (.iconst 0, 1) := by decide +kernel
theorem dX5_boundsBy_1 : decode cX5_boundsBy 1 = .ok (.istore_n 3, 1) := by decide +kernel
theorem dX5_boundsBy_2 : decode cX5_boundsBy 2 = .ok (.iconst 0, 1) := by decide +kernel
theorem dX5_boundsBy_3 : decode cX5_boundsBy 3 = .ok (.istore 4, 2) := by decide +kernel
theorem dX5_boundsBy_5 : decode cX5_boundsBy 5 = .ok (.iload 4, 2) := by decide +kernel
theorem dX5_boundsBy_7 : decode cX5_boundsBy 7 = .ok (.bipush 24, 2) := by decide +kernel
theorem dX5_boundsBy_9 : decode cX5_boundsBy 9 = .ok (.if_icmp .ge 78, 3) := by decide +kernel
theorem dX5_boundsBy_12 : decode cX5_boundsBy 12 = .ok (.aload_n 0, 1) := by decide +kernel
theorem dX5_boundsBy_13 : decode cX5_boundsBy 13 = .ok (.getfield 16, 3) := by decide +kernel
theorem dX5_boundsBy_16 : decode cX5_boundsBy 16 = .ok (.iload 4, 2) := by decide +kernel
theorem dX5_boundsBy_18 : decode cX5_boundsBy 18 = .ok (.iaload, 1) := by decide +kernel
theorem dX5_boundsBy_19 : decode cX5_boundsBy 19 = .ok (.iload_n 2, 1) := by decide +kernel
theorem dX5_boundsBy_20 : decode cX5_boundsBy 20 = .ok (.if_icmp .ne 7, 3) := by decide +kernel
theorem dX5_boundsBy_23 : decode cX5_boundsBy 23 = .ok (.iload_n 1, 1) := by decide +kernel
theorem dX5_boundsBy_24 : decode cX5_boundsBy 24 = .ok (.goto 10, 3) := by decide +kernel
theorem dX5_boundsBy_27 : decode cX5_boundsBy 27 = .ok (.aload_n 0, 1) := by decide +kernel
theorem dX5_boundsBy_28 : decode cX5_boundsBy 28 = .ok (.getfield 16, 3) := by decide +kernel
theorem dX5_boundsBy_31 : decode cX5_boundsBy 31 = .ok (.iload 4, 2) := by decide +kernel
theorem dX5_boundsBy_33 : decode cX5_boundsBy 33 = .ok (.iaload, 1) := by decide +kernel
theorem dX5_boundsBy_34 : decode cX5_boundsBy 34 = .ok (.istore 5, 2) := by decide +kernel
theorem dX5_boundsBy_36 : decode cX5_boundsBy 36 = .ok (.aload_n 0, 1) := by decide +kernel
theorem dX5_boundsBy_37 : decode cX5_boundsBy 37 = .ok (.getfield 16, 3) := by decide +kernel
theorem dX5_boundsBy_40 : decode cX5_boundsBy 40 = .ok (.iload 4, 2) := by decide +kernel
theorem dX5_boundsBy_42 : decode cX5_boundsBy 42 = .ok (.invokestatic 151, 3) := by decide +kernel
theorem dX5_boundsBy_45 : decode cX5_boundsBy 45 = .ok (.iaload, 1) := by decide +kernel
theorem dX5_boundsBy_46 : decode cX5_boundsBy 46 = .ok (.iload_n 2, 1) := by decide +kernel
theorem dX5_boundsBy_47 : decode cX5_boundsBy 47 = .ok (.if_icmp .ne 7, 3) := by decide +kernel
theorem dX5_boundsBy_50 : decode cX5_boundsBy 50 = .ok (.iload_n 1, 1) := by decide +kernel
theorem dX5_boundsBy_51 : decode cX5_boundsBy 51 = .ok (.goto 13, 3) := by decide +kernel
theorem dX5_boundsBy_54 : decode cX5_boundsBy 54 = .ok (.aload_n 0, 1) := by decide +kernel
theorem dX5_boundsBy_55 : decode cX5_boundsBy 55 = .ok (.getfield 16, 3) := by decide +kernel
theorem dX5_boundsBy_58 : decode cX5_boundsBy 58 = .ok (.iload 4, 2) := by decide +kernel
theorem dX5_boundsBy_60 : decode cX5_boundsBy 60 = .ok (.invokestatic 151, 3) := by decide +kernel
theorem dX5_boundsBy_63 : decode cX5_boundsBy 63 = .ok (.iaload, 1) := by decide +kernel
theorem dX5_boundsBy_64 : decode cX5_boundsBy 64 = .ok (.istore 6, 2) := by decide +kernel
theorem dX5_boundsBy_66 : decode cX5_boundsBy 66 = .ok (.iload_n 3, 1) := by decide +kernel
theorem dX5_boundsBy_67 : decode cX5_boundsBy 67 = .ok (.iload 5, 2) := by decide +kernel
theorem dX5_boundsBy_69 : decode cX5_boundsBy 69 = .ok (.iload 6, 2) := by decide +kernel
theorem dX5_boundsBy_71 : decode cX5_boundsBy 71 = .ok (.if_icmp .ne 7, 3) := by decide +kernel
theorem dX5_boundsBy_74 : decode cX5_boundsBy 74 = .ok (.iconst 0, 1) := by decide +kernel
theorem dX5_boundsBy_75 : decode cX5_boundsBy 75 = .ok (.goto 4, 3) := by decide +kernel
theorem dX5_boundsBy_78 : decode cX5_boundsBy 78 = .ok (.iconst 1, 1) := by decide +kernel
theorem dX5_boundsBy_79 : decode cX5_boundsBy 79 = .ok (.iadd, 1) := by decide +kernel
theorem dX5_boundsBy_80 : decode cX5_boundsBy 80 = .ok (.istore_n 3, 1) := by decide +kernel
theorem dX5_boundsBy_81 : decode cX5_boundsBy 81 = .ok (.iinc 4 1, 3) := by decide +kernel
theorem dX5_boundsBy_84 : decode cX5_boundsBy 84 = .ok (.goto (-79), 3) := by decide +kernel
theorem dX5_boundsBy_87 : decode cX5_boundsBy 87 = .ok (.iload_n 3, 1) := by decide +kernel
theorem dX5_boundsBy_88 : decode cX5_boundsBy 88 = .ok (.ireturn, 1) := by decide +kernel
theorem dX5_bestWedding_0 : decode cX5_bestWedding 0 = .ok (.bipush (-6), 2) := by decide +kernel
theorem dX5_bestWedding_2 : decode cX5_bestWedding 2 = .ok (.istore_n 1, 1) := by decide +kernel
theorem dX5_bestWedding_3 : decode cX5_bestWedding 3 = .ok (.iconst 0, 1) := by decide +kernel
theorem dX5_bestWedding_4 : decode cX5_bestWedding 4 = .ok (.istore_n 2, 1) := by decide +kernel
theorem dX5_bestWedding_5 : decode cX5_bestWedding 5 = .ok (.iconst 0, 1) := by decide +kernel
theorem dX5_bestWedding_6 : decode cX5_bestWedding 6 = .ok (.istore_n 3, 1) := by decide +kernel
theorem dX5_bestWedding_7 : decode cX5_bestWedding 7 = .ok (.iload_n 3, 1) := by decide +kernel
theorem dX5_bestWedding_8 : decode cX5_bestWedding 8 = .ok (.bipush 6, 2) := by decide +kernel
theorem dX5_bestWedding_10 : decode cX5_bestWedding 10 = .ok (.if_icmp .ge 75, 3) := by decide +kernel
theorem dX5_bestWedding_13 : decode cX5_bestWedding 13 = .ok (.iload_n 3, 1) := by decide +kernel
theorem dX5_bestWedding_14 : decode cX5_bestWedding 14 = .ok (.iconst 1, 1) := by decide +kernel
theorem dX5_bestWedding_15 : decode cX5_bestWedding 15 = .ok (.iadd, 1) := by decide +kernel
theorem dX5_bestWedding_16 : decode cX5_bestWedding 16 = .ok (.istore 4, 2) := by decide +kernel
theorem dX5_bestWedding_18 : decode cX5_bestWedding 18 = .ok (.iload 4, 2) := by decide +kernel
theorem dX5_bestWedding_20 : decode cX5_bestWedding 20 = .ok (.bipush 6, 2) := by decide +kernel
theorem dX5_bestWedding_22 : decode cX5_bestWedding 22 = .ok (.if_icmp .ge 57, 3) := by decide +kernel
theorem dX5_bestWedding_25 : decode cX5_bestWedding 25 = .ok (.aload_n 0, 1) := by decide +kernel
theorem dX5_bestWedding_26 : decode cX5_bestWedding 26 = .ok (.iload_n 3, 1) := by decide +kernel
theorem dX5_bestWedding_27 : decode cX5_bestWedding 27 = .ok (.invokevirtual 77, 3) := by decide +kernel
theorem dX5_bestWedding_30 : decode cX5_bestWedding 30 = .ok (.ifCond .le 43, 3) := by decide +kernel
theorem dX5_bestWedding_33 : decode cX5_bestWedding 33 = .ok (.aload_n 0, 1) := by decide +kernel
theorem dX5_bestWedding_34 : decode cX5_bestWedding 34 = .ok (.iload 4, 2) := by decide +kernel
theorem dX5_bestWedding_36 : decode cX5_bestWedding 36 = .ok (.invokevirtual 77, 3) := by decide +kernel
theorem dX5_bestWedding_39 : decode cX5_bestWedding 39 = .ok (.ifCond .le 34, 3) := by decide +kernel
theorem dX5_bestWedding_42 : decode cX5_bestWedding 42 = .ok (.iload_n 1, 1) := by decide +kernel
theorem dX5_bestWedding_43 : decode cX5_bestWedding 43 = .ok (.ifCond .lt 14, 3) := by decide +kernel
theorem dX5_bestWedding_46 : decode cX5_bestWedding 46 = .ok (.aload_n 0, 1) := by decide +kernel
theorem dX5_bestWedding_47 : decode cX5_bestWedding 47 = .ok (.iload_n 3, 1) := by decide +kernel
theorem dX5_bestWedding_48 : decode cX5_bestWedding 48 = .ok (.iload 4, 2) := by decide +kernel
theorem dX5_bestWedding_50 : decode cX5_bestWedding 50 = .ok (.invokevirtual 183, 3) := by decide +kernel
theorem dX5_bestWedding_53 : decode cX5_bestWedding 53 = .ok (.iload_n 2, 1) := by decide +kernel
theorem dX5_bestWedding_54 : decode cX5_bestWedding 54 = .ok (.if_icmp .ge 19, 3) := by decide +kernel
theorem dX5_bestWedding_57 : decode cX5_bestWedding 57 = .ok (.bipush 10, 2) := by decide +kernel
theorem dX5_bestWedding_59 : decode cX5_bestWedding 59 = .ok (.iload_n 3, 1) := by decide +kernel
theorem dX5_bestWedding_60 : decode cX5_bestWedding 60 = .ok (.imul, 1) := by decide +kernel
theorem dX5_bestWedding_61 : decode cX5_bestWedding 61 = .ok (.iload 4, 2) := by decide +kernel
theorem dX5_bestWedding_63 : decode cX5_bestWedding 63 = .ok (.iadd, 1) := by decide +kernel
theorem dX5_bestWedding_64 : decode cX5_bestWedding 64 = .ok (.istore_n 1, 1) := by decide +kernel
theorem dX5_bestWedding_65 : decode cX5_bestWedding 65 = .ok (.aload_n 0, 1) := by decide +kernel
theorem dX5_bestWedding_66 : decode cX5_bestWedding 66 = .ok (.iload_n 3, 1) := by decide +kernel
theorem dX5_bestWedding_67 : decode cX5_bestWedding 67 = .ok (.iload 4, 2) := by decide +kernel
theorem dX5_bestWedding_69 : decode cX5_bestWedding 69 = .ok (.invokevirtual 183, 3) := by decide +kernel
theorem dX5_bestWedding_72 : decode cX5_bestWedding 72 = .ok (.istore_n 2, 1) := by decide +kernel
theorem dX5_bestWedding_73 : decode cX5_bestWedding 73 = .ok (.iinc 4 1, 3) := by decide +kernel
theorem dX5_bestWedding_76 : decode cX5_bestWedding 76 = .ok (.goto (-58), 3) := by decide +kernel
theorem dX5_bestWedding_79 : decode cX5_bestWedding 79 = .ok (.iinc 3 1, 3) := by decide +kernel
theorem dX5_bestWedding_82 : decode cX5_bestWedding 82 = .ok (.goto (-75), 3) := by decide +kernel
theorem dX5_bestWedding_85 : decode cX5_bestWedding 85 = .ok (.iload_n 1, 1) := by decide +kernel
theorem dX5_bestWedding_86 : decode cX5_bestWedding 86 = .ok (.ireturn, 1) := by decide +kernel
theorem dX5_narrowest_0 : decode cX5_narrowest 0 = .ok (.bipush 24, 2) := by decide +kernel
theorem dX5_narrowest_2 : decode cX5_narrowest 2 = .ok (.istore_n 1, 1) := by decide +kernel
theorem dX5_narrowest_3 : decode cX5_narrowest 3 = .ok (.iconst 0, 1) := by decide +kernel
theorem dX5_narrowest_4 : decode cX5_narrowest 4 = .ok (.istore_n 2, 1) := by decide +kernel
theorem dX5_narrowest_5 : decode cX5_narrowest 5 = .ok (.iload_n 2, 1) := by decide +kernel
theorem dX5_narrowest_6 : decode cX5_narrowest 6 = .ok (.bipush 24, 2) := by decide +kernel
theorem dX5_narrowest_8 : decode cX5_narrowest 8 = .ok (.if_icmp .ge 66, 3) := by decide +kernel
theorem dX5_narrowest_11 : decode cX5_narrowest 11 = .ok (.aload_n 0, 1) := by decide +kernel
theorem dX5_narrowest_12 : decode cX5_narrowest 12 = .ok (.getfield 16, 3) := by decide +kernel
theorem dX5_narrowest_15 : decode cX5_narrowest 15 = .ok (.iload_n 2, 1) := by decide +kernel
theorem dX5_narrowest_16 : decode cX5_narrowest 16 = .ok (.iaload, 1) := by decide +kernel
theorem dX5_narrowest_17 : decode cX5_narrowest 17 = .ok (.aload_n 0, 1) := by decide +kernel
theorem dX5_narrowest_18 : decode cX5_narrowest 18 = .ok (.getfield 16, 3) := by decide +kernel
theorem dX5_narrowest_21 : decode cX5_narrowest 21 = .ok (.iload_n 2, 1) := by decide +kernel
theorem dX5_narrowest_22 : decode cX5_narrowest 22 = .ok (.invokestatic 154, 3) := by decide +kernel
theorem dX5_narrowest_25 : decode cX5_narrowest 25 = .ok (.iaload, 1) := by decide +kernel
theorem dX5_narrowest_26 : decode cX5_narrowest 26 = .ok (.if_icmp .eq 42, 3) := by decide +kernel
theorem dX5_narrowest_29 : decode cX5_narrowest 29 = .ok (.iconst 1, 1) := by decide +kernel
theorem dX5_narrowest_30 : decode cX5_narrowest 30 = .ok (.istore_n 3, 1) := by decide +kernel
theorem dX5_narrowest_31 : decode cX5_narrowest 31 = .ok (.aload_n 0, 1) := by decide +kernel
theorem dX5_narrowest_32 : decode cX5_narrowest 32 = .ok (.getfield 16, 3) := by decide +kernel
theorem dX5_narrowest_35 : decode cX5_narrowest 35 = .ok (.iload_n 2, 1) := by decide +kernel
theorem dX5_narrowest_36 : decode cX5_narrowest 36 = .ok (.iload_n 3, 1) := by decide +kernel
theorem dX5_narrowest_37 : decode cX5_narrowest 37 = .ok (.iadd, 1) := by decide +kernel
theorem dX5_narrowest_38 : decode cX5_narrowest 38 = .ok (.bipush 24, 2) := by decide +kernel
theorem dX5_narrowest_40 : decode cX5_narrowest 40 = .ok (.irem, 1) := by decide +kernel
theorem dX5_narrowest_41 : decode cX5_narrowest 41 = .ok (.iaload, 1) := by decide +kernel
theorem dX5_narrowest_42 : decode cX5_narrowest 42 = .ok (.aload_n 0, 1) := by decide +kernel
theorem dX5_narrowest_43 : decode cX5_narrowest 43 = .ok (.getfield 16, 3) := by decide +kernel
theorem dX5_narrowest_46 : decode cX5_narrowest 46 = .ok (.iload_n 2, 1) := by decide +kernel
theorem dX5_narrowest_47 : decode cX5_narrowest 47 = .ok (.iaload, 1) := by decide +kernel
theorem dX5_narrowest_48 : decode cX5_narrowest 48 = .ok (.if_icmp .ne 9, 3) := by decide +kernel
theorem dX5_narrowest_51 : decode cX5_narrowest 51 = .ok (.iinc 3 1, 3) := by decide +kernel
theorem dX5_narrowest_54 : decode cX5_narrowest 54 = .ok (.goto (-23), 3) := by decide +kernel
theorem dX5_narrowest_57 : decode cX5_narrowest 57 = .ok (.iload_n 3, 1) := by decide +kernel
theorem dX5_narrowest_58 : decode cX5_narrowest 58 = .ok (.iload_n 1, 1) := by decide +kernel
theorem dX5_narrowest_59 : decode cX5_narrowest 59 = .ok (.if_icmp .ge 7, 3) := by decide +kernel
theorem dX5_narrowest_62 : decode cX5_narrowest 62 = .ok (.iload_n 3, 1) := by decide +kernel
theorem dX5_narrowest_63 : decode cX5_narrowest 63 = .ok (.goto 4, 3) := by decide +kernel
theorem dX5_narrowest_66 : decode cX5_narrowest 66 = .ok (.iload_n 1, 1) := by decide +kernel
theorem dX5_narrowest_67 : decode cX5_narrowest 67 = .ok (.istore_n 1, 1) := by decide +kernel
theorem dX5_narrowest_68 : decode cX5_narrowest 68 = .ok (.iinc 2 1, 3) := by decide +kernel
theorem dX5_narrowest_71 : decode cX5_narrowest 71 = .ok (.goto (-66), 3) := by decide +kernel
theorem dX5_narrowest_74 : decode cX5_narrowest 74 = .ok (.iload_n 1, 1) := by decide +kernel
theorem dX5_narrowest_75 : decode cX5_narrowest 75 = .ok (.ireturn, 1) := by decide +kernel
theorem dX5_bounds_0 : decode cX5_bounds 0 = .ok (.iload_n 1, 1) := by decide +kernel
theorem dX5_bounds_1 : decode cX5_bounds 1 = .ok (.ifCond .ne 12, 3) := by decide +kernel
theorem dX5_bounds_4 : decode cX5_bounds 4 = .ok (.aload_n 0, 1) := by decide +kernel
theorem dX5_bounds_5 : decode cX5_bounds 5 = .ok (.iconst 0, 1) := by decide +kernel
theorem dX5_bounds_6 : decode cX5_bounds 6 = .ok (.iconst 0, 1) := by decide +kernel
theorem dX5_bounds_7 : decode cX5_bounds 7 = .ok (.invokevirtual 183, 3) := by decide +kernel
theorem dX5_bounds_10 : decode cX5_bounds 10 = .ok (.goto 29, 3) := by decide +kernel
theorem dX5_bounds_13 : decode cX5_bounds 13 = .ok (.iload_n 1, 1) := by decide +kernel
theorem dX5_bounds_14 : decode cX5_bounds 14 = .ok (.iconst 1, 1) := by decide +kernel
theorem dX5_bounds_15 : decode cX5_bounds 15 = .ok (.if_icmp .ne 10, 3) := by decide +kernel
theorem dX5_bounds_18 : decode cX5_bounds 18 = .ok (.aload_n 0, 1) := by decide +kernel
theorem dX5_bounds_19 : decode cX5_bounds 19 = .ok (.invokevirtual 186, 3) := by decide +kernel
theorem dX5_bounds_22 : decode cX5_bounds 22 = .ok (.goto 17, 3) := by decide +kernel
theorem dX5_bounds_25 : decode cX5_bounds 25 = .ok (.iload_n 1, 1) := by decide +kernel
theorem dX5_bounds_26 : decode cX5_bounds 26 = .ok (.iconst 2, 1) := by decide +kernel
theorem dX5_bounds_27 : decode cX5_bounds 27 = .ok (.if_icmp .ne 10, 3) := by decide +kernel
theorem dX5_bounds_30 : decode cX5_bounds 30 = .ok (.aload_n 0, 1) := by decide +kernel
theorem dX5_bounds_31 : decode cX5_bounds 31 = .ok (.invokevirtual 190, 3) := by decide +kernel
theorem dX5_bounds_34 : decode cX5_bounds 34 = .ok (.goto 5, 3) := by decide +kernel
theorem dX5_bounds_37 : decode cX5_bounds 37 = .ok (.bipush (-2), 2) := by decide +kernel
theorem dX5_bounds_39 : decode cX5_bounds 39 = .ok (.ireturn, 1) := by decide +kernel
theorem dX5_image_0 : decode cX5_image 0 = .ok (.iload_n 1, 1) := by decide +kernel
theorem dX5_image_1 : decode cX5_image 1 = .ok (.iconst 0, 1) := by decide +kernel
theorem dX5_image_2 : decode cX5_image 2 = .ok (.iconst 1, 1) := by decide +kernel
theorem dX5_image_3 : decode cX5_image 3 = .ok (.invokestatic 66, 3) := by decide +kernel
theorem dX5_image_6 : decode cX5_image 6 = .ok (.ifCond .ne 6, 3) := by decide +kernel
theorem dX5_image_9 : decode cX5_image 9 = .ok (.bipush (-2), 2) := by decide +kernel
theorem dX5_image_11 : decode cX5_image 11 = .ok (.ireturn, 1) := by decide +kernel
theorem dX5_image_12 : decode cX5_image 12 = .ok (.sipush 686, 3) := by decide +kernel
theorem dX5_image_15 : decode cX5_image 15 = .ok (.iload_n 1, 1) := by decide +kernel
theorem dX5_image_16 : decode cX5_image 16 = .ok (.imul, 1) := by decide +kernel
theorem dX5_image_17 : decode cX5_image 17 = .ok (.istore_n 2, 1) := by decide +kernel
theorem dX5_image_18 : decode cX5_image 18 = .ok (.iconst 0, 1) := by decide +kernel
theorem dX5_image_19 : decode cX5_image 19 = .ok (.istore_n 3, 1) := by decide +kernel
theorem dX5_image_20 : decode cX5_image 20 = .ok (.iload_n 3, 1) := by decide +kernel
theorem dX5_image_21 : decode cX5_image 21 = .ok (.bipush 120, 2) := by decide +kernel
theorem dX5_image_23 : decode cX5_image 23 = .ok (.if_icmp .ge 23, 3) := by decide +kernel
theorem dX5_image_26 : decode cX5_image 26 = .ok (.aload_n 0, 1) := by decide +kernel
theorem dX5_image_27 : decode cX5_image 27 = .ok (.getfield 59, 3) := by decide +kernel
theorem dX5_image_30 : decode cX5_image 30 = .ok (.iload_n 2, 1) := by decide +kernel
theorem dX5_image_31 : decode cX5_image 31 = .ok (.iload_n 3, 1) := by decide +kernel
theorem dX5_image_32 : decode cX5_image 32 = .ok (.iadd, 1) := by decide +kernel
theorem dX5_image_33 : decode cX5_image 33 = .ok (.aload_n 0, 1) := by decide +kernel
theorem dX5_image_34 : decode cX5_image 34 = .ok (.getfield 13, 3) := by decide +kernel
theorem dX5_image_37 : decode cX5_image 37 = .ok (.iload_n 3, 1) := by decide +kernel
theorem dX5_image_38 : decode cX5_image 38 = .ok (.iaload, 1) := by decide +kernel
theorem dX5_image_39 : decode cX5_image 39 = .ok (.iastore, 1) := by decide +kernel
theorem dX5_image_40 : decode cX5_image 40 = .ok (.iinc 3 1, 3) := by decide +kernel
theorem dX5_image_43 : decode cX5_image 43 = .ok (.goto (-23), 3) := by decide +kernel
theorem dX5_image_46 : decode cX5_image 46 = .ok (.iconst 0, 1) := by decide +kernel
theorem dX5_image_47 : decode cX5_image 47 = .ok (.istore_n 3, 1) := by decide +kernel
theorem dX5_image_48 : decode cX5_image 48 = .ok (.iload_n 3, 1) := by decide +kernel
theorem dX5_image_49 : decode cX5_image 49 = .ok (.bipush 24, 2) := by decide +kernel
theorem dX5_image_51 : decode cX5_image 51 = .ok (.if_icmp .ge 26, 3) := by decide +kernel
theorem dX5_image_54 : decode cX5_image 54 = .ok (.aload_n 0, 1) := by decide +kernel
theorem dX5_image_55 : decode cX5_image 55 = .ok (.getfield 59, 3) := by decide +kernel
theorem dX5_image_58 : decode cX5_image 58 = .ok (.iload_n 2, 1) := by decide +kernel
theorem dX5_image_59 : decode cX5_image 59 = .ok (.bipush 120, 2) := by decide +kernel
theorem dX5_image_61 : decode cX5_image 61 = .ok (.iadd, 1) := by decide +kernel
theorem dX5_image_62 : decode cX5_image 62 = .ok (.iload_n 3, 1) := by decide +kernel
theorem dX5_image_63 : decode cX5_image 63 = .ok (.iadd, 1) := by decide +kernel
theorem dX5_image_64 : decode cX5_image 64 = .ok (.aload_n 0, 1) := by decide +kernel
theorem dX5_image_65 : decode cX5_image 65 = .ok (.getfield 16, 3) := by decide +kernel
theorem dX5_image_68 : decode cX5_image 68 = .ok (.iload_n 3, 1) := by decide +kernel
theorem dX5_image_69 : decode cX5_image 69 = .ok (.iaload, 1) := by decide +kernel
theorem dX5_image_70 : decode cX5_image 70 = .ok (.iastore, 1) := by decide +kernel
theorem dX5_image_71 : decode cX5_image 71 = .ok (.iinc 3 1, 3) := by decide +kernel
theorem dX5_image_74 : decode cX5_image 74 = .ok (.goto (-26), 3) := by decide +kernel
theorem dX5_image_77 : decode cX5_image 77 = .ok (.iconst 0, 1) := by decide +kernel
theorem dX5_image_78 : decode cX5_image 78 = .ok (.istore_n 3, 1) := by decide +kernel
theorem dX5_image_79 : decode cX5_image 79 = .ok (.iload_n 3, 1) := by decide +kernel
theorem dX5_image_80 : decode cX5_image 80 = .ok (.sipush 504, 3) := by decide +kernel
theorem dX5_image_83 : decode cX5_image 83 = .ok (.if_icmp .ge 27, 3) := by decide +kernel
theorem dX5_image_86 : decode cX5_image 86 = .ok (.aload_n 0, 1) := by decide +kernel
theorem dX5_image_87 : decode cX5_image 87 = .ok (.getfield 59, 3) := by decide +kernel
theorem dX5_image_90 : decode cX5_image 90 = .ok (.iload_n 2, 1) := by decide +kernel
theorem dX5_image_91 : decode cX5_image 91 = .ok (.sipush 144, 3) := by decide +kernel
theorem dX5_image_94 : decode cX5_image 94 = .ok (.iadd, 1) := by decide +kernel
theorem dX5_image_95 : decode cX5_image 95 = .ok (.iload_n 3, 1) := by decide +kernel
theorem dX5_image_96 : decode cX5_image 96 = .ok (.iadd, 1) := by decide +kernel
theorem dX5_image_97 : decode cX5_image 97 = .ok (.aload_n 0, 1) := by decide +kernel
theorem dX5_image_98 : decode cX5_image 98 = .ok (.getfield 19, 3) := by decide +kernel
theorem dX5_image_101 : decode cX5_image 101 = .ok (.iload_n 3, 1) := by decide +kernel
theorem dX5_image_102 : decode cX5_image 102 = .ok (.iaload, 1) := by decide +kernel
theorem dX5_image_103 : decode cX5_image 103 = .ok (.iastore, 1) := by decide +kernel
theorem dX5_image_104 : decode cX5_image 104 = .ok (.iinc 3 1, 3) := by decide +kernel
theorem dX5_image_107 : decode cX5_image 107 = .ok (.goto (-28), 3) := by decide +kernel
theorem dX5_image_110 : decode cX5_image 110 = .ok (.iconst 0, 1) := by decide +kernel
theorem dX5_image_111 : decode cX5_image 111 = .ok (.istore_n 3, 1) := by decide +kernel
theorem dX5_image_112 : decode cX5_image 112 = .ok (.iload_n 3, 1) := by decide +kernel
theorem dX5_image_113 : decode cX5_image 113 = .ok (.bipush 30, 2) := by decide +kernel
theorem dX5_image_115 : decode cX5_image 115 = .ok (.if_icmp .ge 27, 3) := by decide +kernel
theorem dX5_image_118 : decode cX5_image 118 = .ok (.aload_n 0, 1) := by decide +kernel
theorem dX5_image_119 : decode cX5_image 119 = .ok (.getfield 59, 3) := by decide +kernel
theorem dX5_image_122 : decode cX5_image 122 = .ok (.iload_n 2, 1) := by decide +kernel
theorem dX5_image_123 : decode cX5_image 123 = .ok (.sipush 648, 3) := by decide +kernel
theorem dX5_image_126 : decode cX5_image 126 = .ok (.iadd, 1) := by decide +kernel
theorem dX5_image_127 : decode cX5_image 127 = .ok (.iload_n 3, 1) := by decide +kernel
theorem dX5_image_128 : decode cX5_image 128 = .ok (.iadd, 1) := by decide +kernel
theorem dX5_image_129 : decode cX5_image 129 = .ok (.aload_n 0, 1) := by decide +kernel
theorem dX5_image_130 : decode cX5_image 130 = .ok (.getfield 22, 3) := by decide +kernel
theorem dX5_image_133 : decode cX5_image 133 = .ok (.iload_n 3, 1) := by decide +kernel
theorem dX5_image_134 : decode cX5_image 134 = .ok (.iaload, 1) := by decide +kernel
theorem dX5_image_135 : decode cX5_image 135 = .ok (.iastore, 1) := by decide +kernel
theorem dX5_image_136 : decode cX5_image 136 = .ok (.iinc 3 1, 3) := by decide +kernel
theorem dX5_image_139 : decode cX5_image 139 = .ok (.goto (-27), 3) := by decide +kernel
theorem dX5_image_142 : decode cX5_image 142 = .ok (.iconst 0, 1) := by decide +kernel
theorem dX5_image_143 : decode cX5_image 143 = .ok (.istore_n 3, 1) := by decide +kernel
theorem dX5_image_144 : decode cX5_image 144 = .ok (.iload_n 3, 1) := by decide +kernel
theorem dX5_image_145 : decode cX5_image 145 = .ok (.bipush 6, 2) := by decide +kernel
theorem dX5_image_147 : decode cX5_image 147 = .ok (.if_icmp .ge 27, 3) := by decide +kernel
theorem dX5_image_150 : decode cX5_image 150 = .ok (.aload_n 0, 1) := by decide +kernel
theorem dX5_image_151 : decode cX5_image 151 = .ok (.getfield 59, 3) := by decide +kernel
theorem dX5_image_154 : decode cX5_image 154 = .ok (.iload_n 2, 1) := by decide +kernel
theorem dX5_image_155 : decode cX5_image 155 = .ok (.sipush 678, 3) := by decide +kernel
theorem dX5_image_158 : decode cX5_image 158 = .ok (.iadd, 1) := by decide +kernel
theorem dX5_image_159 : decode cX5_image 159 = .ok (.iload_n 3, 1) := by decide +kernel
theorem dX5_image_160 : decode cX5_image 160 = .ok (.iadd, 1) := by decide +kernel
theorem dX5_image_161 : decode cX5_image 161 = .ok (.aload_n 0, 1) := by decide +kernel
theorem dX5_image_162 : decode cX5_image 162 = .ok (.getfield 29, 3) := by decide +kernel
theorem dX5_image_165 : decode cX5_image 165 = .ok (.iload_n 3, 1) := by decide +kernel
theorem dX5_image_166 : decode cX5_image 166 = .ok (.iaload, 1) := by decide +kernel
theorem dX5_image_167 : decode cX5_image 167 = .ok (.iastore, 1) := by decide +kernel
theorem dX5_image_168 : decode cX5_image 168 = .ok (.iinc 3 1, 3) := by decide +kernel
theorem dX5_image_171 : decode cX5_image 171 = .ok (.goto (-27), 3) := by decide +kernel
theorem dX5_image_174 : decode cX5_image 174 = .ok (.aload_n 0, 1) := by decide +kernel
theorem dX5_image_175 : decode cX5_image 175 = .ok (.getfield 59, 3) := by decide +kernel
theorem dX5_image_178 : decode cX5_image 178 = .ok (.iload_n 2, 1) := by decide +kernel
theorem dX5_image_179 : decode cX5_image 179 = .ok (.sipush 684, 3) := by decide +kernel
theorem dX5_image_182 : decode cX5_image 182 = .ok (.iadd, 1) := by decide +kernel
theorem dX5_image_183 : decode cX5_image 183 = .ok (.aload_n 0, 1) := by decide +kernel
theorem dX5_image_184 : decode cX5_image 184 = .ok (.getfield 91, 3) := by decide +kernel
theorem dX5_image_187 : decode cX5_image 187 = .ok (.iastore, 1) := by decide +kernel
theorem dX5_image_188 : decode cX5_image 188 = .ok (.aload_n 0, 1) := by decide +kernel
theorem dX5_image_189 : decode cX5_image 189 = .ok (.getfield 59, 3) := by decide +kernel
theorem dX5_image_192 : decode cX5_image 192 = .ok (.iload_n 2, 1) := by decide +kernel
theorem dX5_image_193 : decode cX5_image 193 = .ok (.sipush 685, 3) := by decide +kernel
theorem dX5_image_196 : decode cX5_image 196 = .ok (.iadd, 1) := by decide +kernel
theorem dX5_image_197 : decode cX5_image 197 = .ok (.aload_n 0, 1) := by decide +kernel
theorem dX5_image_198 : decode cX5_image 198 = .ok (.getfield 25, 3) := by decide +kernel
theorem dX5_image_201 : decode cX5_image 201 = .ok (.iastore, 1) := by decide +kernel
theorem dX5_image_202 : decode cX5_image 202 = .ok (.aload_n 0, 1) := by decide +kernel
theorem dX5_image_203 : decode cX5_image 203 = .ok (.getfield 62, 3) := by decide +kernel
theorem dX5_image_206 : decode cX5_image 206 = .ok (.iload_n 1, 1) := by decide +kernel
theorem dX5_image_207 : decode cX5_image 207 = .ok (.iconst 1, 1) := by decide +kernel
theorem dX5_image_208 : decode cX5_image 208 = .ok (.bastore, 1) := by decide +kernel
theorem dX5_image_209 : decode cX5_image 209 = .ok (.iconst 1, 1) := by decide +kernel
theorem dX5_image_210 : decode cX5_image 210 = .ok (.ireturn, 1) := by decide +kernel
theorem dX5_restore_0 : decode cX5_restore 0 = .ok (.iload_n 1, 1) := by decide +kernel
theorem dX5_restore_1 : decode cX5_restore 1 = .ok (.iconst 0, 1) := by decide +kernel
theorem dX5_restore_2 : decode cX5_restore 2 = .ok (.iconst 1, 1) := by decide +kernel
theorem dX5_restore_3 : decode cX5_restore 3 = .ok (.invokestatic 66, 3) := by decide +kernel
theorem dX5_restore_6 : decode cX5_restore 6 = .ok (.ifCond .ne 6, 3) := by decide +kernel
theorem dX5_restore_9 : decode cX5_restore 9 = .ok (.bipush (-2), 2) := by decide +kernel
theorem dX5_restore_11 : decode cX5_restore 11 = .ok (.ireturn, 1) := by decide +kernel
theorem dX5_restore_12 : decode cX5_restore 12 = .ok (.aload_n 0, 1) := by decide +kernel
theorem dX5_restore_13 : decode cX5_restore 13 = .ok (.getfield 62, 3) := by decide +kernel
theorem dX5_restore_16 : decode cX5_restore 16 = .ok (.iload_n 1, 1) := by decide +kernel
theorem dX5_restore_17 : decode cX5_restore 17 = .ok (.baload, 1) := by decide +kernel
theorem dX5_restore_18 : decode cX5_restore 18 = .ok (.ifCond .ne 6, 3) := by decide +kernel
theorem dX5_restore_21 : decode cX5_restore 21 = .ok (.bipush (-3), 2) := by decide +kernel
theorem dX5_restore_23 : decode cX5_restore 23 = .ok (.ireturn, 1) := by decide +kernel
theorem dX5_restore_24 : decode cX5_restore 24 = .ok (.sipush 686, 3) := by decide +kernel
theorem dX5_restore_27 : decode cX5_restore 27 = .ok (.iload_n 1, 1) := by decide +kernel
theorem dX5_restore_28 : decode cX5_restore 28 = .ok (.imul, 1) := by decide +kernel
theorem dX5_restore_29 : decode cX5_restore 29 = .ok (.istore_n 2, 1) := by decide +kernel
theorem dX5_restore_30 : decode cX5_restore 30 = .ok (.iconst 0, 1) := by decide +kernel
theorem dX5_restore_31 : decode cX5_restore 31 = .ok (.istore_n 3, 1) := by decide +kernel
theorem dX5_restore_32 : decode cX5_restore 32 = .ok (.iload_n 3, 1) := by decide +kernel
theorem dX5_restore_33 : decode cX5_restore 33 = .ok (.bipush 120, 2) := by decide +kernel
theorem dX5_restore_35 : decode cX5_restore 35 = .ok (.if_icmp .ge 23, 3) := by decide +kernel
theorem dX5_restore_38 : decode cX5_restore 38 = .ok (.aload_n 0, 1) := by decide +kernel
theorem dX5_restore_39 : decode cX5_restore 39 = .ok (.getfield 13, 3) := by decide +kernel
theorem dX5_restore_42 : decode cX5_restore 42 = .ok (.iload_n 3, 1) := by decide +kernel
theorem dX5_restore_43 : decode cX5_restore 43 = .ok (.aload_n 0, 1) := by decide +kernel
theorem dX5_restore_44 : decode cX5_restore 44 = .ok (.getfield 59, 3) := by decide +kernel
theorem dX5_restore_47 : decode cX5_restore 47 = .ok (.iload_n 2, 1) := by decide +kernel
theorem dX5_restore_48 : decode cX5_restore 48 = .ok (.iload_n 3, 1) := by decide +kernel
theorem dX5_restore_49 : decode cX5_restore 49 = .ok (.iadd, 1) := by decide +kernel
theorem dX5_restore_50 : decode cX5_restore 50 = .ok (.iaload, 1) := by decide +kernel
theorem dX5_restore_51 : decode cX5_restore 51 = .ok (.iastore, 1) := by decide +kernel
theorem dX5_restore_52 : decode cX5_restore 52 = .ok (.iinc 3 1, 3) := by decide +kernel
theorem dX5_restore_55 : decode cX5_restore 55 = .ok (.goto (-23), 3) := by decide +kernel
theorem dX5_restore_58 : decode cX5_restore 58 = .ok (.iconst 0, 1) := by decide +kernel
theorem dX5_restore_59 : decode cX5_restore 59 = .ok (.istore_n 3, 1) := by decide +kernel
theorem dX5_restore_60 : decode cX5_restore 60 = .ok (.iload_n 3, 1) := by decide +kernel
theorem dX5_restore_61 : decode cX5_restore 61 = .ok (.bipush 24, 2) := by decide +kernel
theorem dX5_restore_63 : decode cX5_restore 63 = .ok (.if_icmp .ge 26, 3) := by decide +kernel
theorem dX5_restore_66 : decode cX5_restore 66 = .ok (.aload_n 0, 1) := by decide +kernel
theorem dX5_restore_67 : decode cX5_restore 67 = .ok (.getfield 16, 3) := by decide +kernel
theorem dX5_restore_70 : decode cX5_restore 70 = .ok (.iload_n 3, 1) := by decide +kernel
theorem dX5_restore_71 : decode cX5_restore 71 = .ok (.aload_n 0, 1) := by decide +kernel
theorem dX5_restore_72 : decode cX5_restore 72 = .ok (.getfield 59, 3) := by decide +kernel
theorem dX5_restore_75 : decode cX5_restore 75 = .ok (.iload_n 2, 1) := by decide +kernel
theorem dX5_restore_76 : decode cX5_restore 76 = .ok (.bipush 120, 2) := by decide +kernel
theorem dX5_restore_78 : decode cX5_restore 78 = .ok (.iadd, 1) := by decide +kernel
theorem dX5_restore_79 : decode cX5_restore 79 = .ok (.iload_n 3, 1) := by decide +kernel
theorem dX5_restore_80 : decode cX5_restore 80 = .ok (.iadd, 1) := by decide +kernel
theorem dX5_restore_81 : decode cX5_restore 81 = .ok (.iaload, 1) := by decide +kernel
theorem dX5_restore_82 : decode cX5_restore 82 = .ok (.iastore, 1) := by decide +kernel
theorem dX5_restore_83 : decode cX5_restore 83 = .ok (.iinc 3 1, 3) := by decide +kernel
theorem dX5_restore_86 : decode cX5_restore 86 = .ok (.goto (-26), 3) := by decide +kernel
theorem dX5_restore_89 : decode cX5_restore 89 = .ok (.iconst 0, 1) := by decide +kernel
theorem dX5_restore_90 : decode cX5_restore 90 = .ok (.istore_n 3, 1) := by decide +kernel
theorem dX5_restore_91 : decode cX5_restore 91 = .ok (.iload_n 3, 1) := by decide +kernel
theorem dX5_restore_92 : decode cX5_restore 92 = .ok (.sipush 504, 3) := by decide +kernel
theorem dX5_restore_95 : decode cX5_restore 95 = .ok (.if_icmp .ge 27, 3) := by decide +kernel
theorem dX5_restore_98 : decode cX5_restore 98 = .ok (.aload_n 0, 1) := by decide +kernel
theorem dX5_restore_99 : decode cX5_restore 99 = .ok (.getfield 19, 3) := by decide +kernel
theorem dX5_restore_102 : decode cX5_restore 102 = .ok (.iload_n 3, 1) := by decide +kernel
theorem dX5_restore_103 : decode cX5_restore 103 = .ok (.aload_n 0, 1) := by decide +kernel
theorem dX5_restore_104 : decode cX5_restore 104 = .ok (.getfield 59, 3) := by decide +kernel
theorem dX5_restore_107 : decode cX5_restore 107 = .ok (.iload_n 2, 1) := by decide +kernel
theorem dX5_restore_108 : decode cX5_restore 108 = .ok (.sipush 144, 3) := by decide +kernel
theorem dX5_restore_111 : decode cX5_restore 111 = .ok (.iadd, 1) := by decide +kernel
theorem dX5_restore_112 : decode cX5_restore 112 = .ok (.iload_n 3, 1) := by decide +kernel
theorem dX5_restore_113 : decode cX5_restore 113 = .ok (.iadd, 1) := by decide +kernel
theorem dX5_restore_114 : decode cX5_restore 114 = .ok (.iaload, 1) := by decide +kernel
theorem dX5_restore_115 : decode cX5_restore 115 = .ok (.iastore, 1) := by decide +kernel
theorem dX5_restore_116 : decode cX5_restore 116 = .ok (.iinc 3 1, 3) := by decide +kernel
theorem dX5_restore_119 : decode cX5_restore 119 = .ok (.goto (-28), 3) := by decide +kernel
theorem dX5_restore_122 : decode cX5_restore 122 = .ok (.iconst 0, 1) := by decide +kernel
theorem dX5_restore_123 : decode cX5_restore 123 = .ok (.istore_n 3, 1) := by decide +kernel
theorem dX5_restore_124 : decode cX5_restore 124 = .ok (.iload_n 3, 1) := by decide +kernel
theorem dX5_restore_125 : decode cX5_restore 125 = .ok (.bipush 30, 2) := by decide +kernel
theorem dX5_restore_127 : decode cX5_restore 127 = .ok (.if_icmp .ge 27, 3) := by decide +kernel
theorem dX5_restore_130 : decode cX5_restore 130 = .ok (.aload_n 0, 1) := by decide +kernel
theorem dX5_restore_131 : decode cX5_restore 131 = .ok (.getfield 22, 3) := by decide +kernel
theorem dX5_restore_134 : decode cX5_restore 134 = .ok (.iload_n 3, 1) := by decide +kernel
theorem dX5_restore_135 : decode cX5_restore 135 = .ok (.aload_n 0, 1) := by decide +kernel
theorem dX5_restore_136 : decode cX5_restore 136 = .ok (.getfield 59, 3) := by decide +kernel
theorem dX5_restore_139 : decode cX5_restore 139 = .ok (.iload_n 2, 1) := by decide +kernel
theorem dX5_restore_140 : decode cX5_restore 140 = .ok (.sipush 648, 3) := by decide +kernel
theorem dX5_restore_143 : decode cX5_restore 143 = .ok (.iadd, 1) := by decide +kernel
theorem dX5_restore_144 : decode cX5_restore 144 = .ok (.iload_n 3, 1) := by decide +kernel
theorem dX5_restore_145 : decode cX5_restore 145 = .ok (.iadd, 1) := by decide +kernel
theorem dX5_restore_146 : decode cX5_restore 146 = .ok (.iaload, 1) := by decide +kernel
theorem dX5_restore_147 : decode cX5_restore 147 = .ok (.iastore, 1) := by decide +kernel
theorem dX5_restore_148 : decode cX5_restore 148 = .ok (.iinc 3 1, 3) := by decide +kernel
theorem dX5_restore_151 : decode cX5_restore 151 = .ok (.goto (-27), 3) := by decide +kernel
theorem dX5_restore_154 : decode cX5_restore 154 = .ok (.iconst 0, 1) := by decide +kernel
theorem dX5_restore_155 : decode cX5_restore 155 = .ok (.istore_n 3, 1) := by decide +kernel
theorem dX5_restore_156 : decode cX5_restore 156 = .ok (.iload_n 3, 1) := by decide +kernel
theorem dX5_restore_157 : decode cX5_restore 157 = .ok (.bipush 6, 2) := by decide +kernel
theorem dX5_restore_159 : decode cX5_restore 159 = .ok (.if_icmp .ge 27, 3) := by decide +kernel
theorem dX5_restore_162 : decode cX5_restore 162 = .ok (.aload_n 0, 1) := by decide +kernel
theorem dX5_restore_163 : decode cX5_restore 163 = .ok (.getfield 29, 3) := by decide +kernel
theorem dX5_restore_166 : decode cX5_restore 166 = .ok (.iload_n 3, 1) := by decide +kernel
theorem dX5_restore_167 : decode cX5_restore 167 = .ok (.aload_n 0, 1) := by decide +kernel
theorem dX5_restore_168 : decode cX5_restore 168 = .ok (.getfield 59, 3) := by decide +kernel
theorem dX5_restore_171 : decode cX5_restore 171 = .ok (.iload_n 2, 1) := by decide +kernel
theorem dX5_restore_172 : decode cX5_restore 172 = .ok (.sipush 678, 3) := by decide +kernel
theorem dX5_restore_175 : decode cX5_restore 175 = .ok (.iadd, 1) := by decide +kernel
theorem dX5_restore_176 : decode cX5_restore 176 = .ok (.iload_n 3, 1) := by decide +kernel
theorem dX5_restore_177 : decode cX5_restore 177 = .ok (.iadd, 1) := by decide +kernel
theorem dX5_restore_178 : decode cX5_restore 178 = .ok (.iaload, 1) := by decide +kernel
theorem dX5_restore_179 : decode cX5_restore 179 = .ok (.iastore, 1) := by decide +kernel
theorem dX5_restore_180 : decode cX5_restore 180 = .ok (.iinc 3 1, 3) := by decide +kernel
theorem dX5_restore_183 : decode cX5_restore 183 = .ok (.goto (-27), 3) := by decide +kernel
theorem dX5_restore_186 : decode cX5_restore 186 = .ok (.aload_n 0, 1) := by decide +kernel
theorem dX5_restore_187 : decode cX5_restore 187 = .ok (.aload_n 0, 1) := by decide +kernel
theorem dX5_restore_188 : decode cX5_restore 188 = .ok (.getfield 59, 3) := by decide +kernel
theorem dX5_restore_191 : decode cX5_restore 191 = .ok (.iload_n 2, 1) := by decide +kernel
theorem dX5_restore_192 : decode cX5_restore 192 = .ok (.sipush 684, 3) := by decide +kernel
theorem dX5_restore_195 : decode cX5_restore 195 = .ok (.iadd, 1) := by decide +kernel
theorem dX5_restore_196 : decode cX5_restore 196 = .ok (.iaload, 1) := by decide +kernel
theorem dX5_restore_197 : decode cX5_restore 197 = .ok (.putfield 91, 3) := by decide +kernel
theorem dX5_restore_200 : decode cX5_restore 200 = .ok (.aload_n 0, 1) := by decide +kernel
theorem dX5_restore_201 : decode cX5_restore 201 = .ok (.aload_n 0, 1) := by decide +kernel
theorem dX5_restore_202 : decode cX5_restore 202 = .ok (.getfield 59, 3) := by decide +kernel
theorem dX5_restore_205 : decode cX5_restore 205 = .ok (.iload_n 2, 1) := by decide +kernel
theorem dX5_restore_206 : decode cX5_restore 206 = .ok (.sipush 685, 3) := by decide +kernel
theorem dX5_restore_209 : decode cX5_restore 209 = .ok (.iadd, 1) := by decide +kernel
theorem dX5_restore_210 : decode cX5_restore 210 = .ok (.iaload, 1) := by decide +kernel
theorem dX5_restore_211 : decode cX5_restore 211 = .ok (.putfield 25, 3) := by decide +kernel
theorem dX5_restore_214 : decode cX5_restore 214 = .ok (.iconst 1, 1) := by decide +kernel
theorem dX5_restore_215 : decode cX5_restore 215 = .ok (.ireturn, 1) := by decide +kernel
theorem dX5_told_0 : decode cX5_told 0 = .ok (.iload_n 1, 1) := by decide +kernel
theorem dX5_told_1 : decode cX5_told 1 = .ok (.bipush 10, 2) := by decide +kernel
theorem dX5_told_3 : decode cX5_told 3 = .ok (.bipush 15, 2) := by decide +kernel
theorem dX5_told_5 : decode cX5_told 5 = .ok (.invokestatic 66, 3) := by decide +kernel
theorem dX5_told_8 : decode cX5_told 8 = .ok (.ifCond .eq 12, 3) := by decide +kernel
theorem dX5_told_11 : decode cX5_told 11 = .ok (.aload_n 0, 1) := by decide +kernel
theorem dX5_told_12 : decode cX5_told 12 = .ok (.iload_n 1, 1) := by decide +kernel
theorem dX5_told_13 : decode cX5_told 13 = .ok (.bipush 10, 2) := by decide +kernel
theorem dX5_told_15 : decode cX5_told 15 = .ok (.isub, 1) := by decide +kernel
theorem dX5_told_16 : decode cX5_told 16 = .ok (.invokevirtual 77, 3) := by decide +kernel
theorem dX5_told_19 : decode cX5_told 19 = .ok (.ireturn, 1) := by decide +kernel
theorem dX5_told_20 : decode cX5_told 20 = .ok (.iload_n 1, 1) := by decide +kernel
theorem dX5_told_21 : decode cX5_told 21 = .ok (.bipush 20, 2) := by decide +kernel
theorem dX5_told_23 : decode cX5_told 23 = .ok (.bipush 25, 2) := by decide +kernel
theorem dX5_told_25 : decode cX5_told 25 = .ok (.invokestatic 66, 3) := by decide +kernel
theorem dX5_told_28 : decode cX5_told 28 = .ok (.ifCond .eq 13, 3) := by decide +kernel
theorem dX5_told_31 : decode cX5_told 31 = .ok (.aload_n 0, 1) := by decide +kernel
theorem dX5_told_32 : decode cX5_told 32 = .ok (.getfield 29, 3) := by decide +kernel
theorem dX5_told_35 : decode cX5_told 35 = .ok (.iload_n 1, 1) := by decide +kernel
theorem dX5_told_36 : decode cX5_told 36 = .ok (.bipush 20, 2) := by decide +kernel
theorem dX5_told_38 : decode cX5_told 38 = .ok (.isub, 1) := by decide +kernel
theorem dX5_told_39 : decode cX5_told 39 = .ok (.iaload, 1) := by decide +kernel
theorem dX5_told_40 : decode cX5_told 40 = .ok (.ireturn, 1) := by decide +kernel
theorem dX5_told_41 : decode cX5_told 41 = .ok (.iload_n 1, 1) := by decide +kernel
theorem dX5_told_42 : decode cX5_told 42 = .ok (.bipush 100, 2) := by decide +kernel
theorem dX5_told_44 : decode cX5_told 44 = .ok (.sipush 129, 3) := by decide +kernel
theorem dX5_told_47 : decode cX5_told 47 = .ok (.invokestatic 66, 3) := by decide +kernel
theorem dX5_told_50 : decode cX5_told 50 = .ok (.ifCond .eq 13, 3) := by decide +kernel
theorem dX5_told_53 : decode cX5_told 53 = .ok (.aload_n 0, 1) := by decide +kernel
theorem dX5_told_54 : decode cX5_told 54 = .ok (.getfield 22, 3) := by decide +kernel
theorem dX5_told_57 : decode cX5_told 57 = .ok (.iload_n 1, 1) := by decide +kernel
theorem dX5_told_58 : decode cX5_told 58 = .ok (.bipush 100, 2) := by decide +kernel
theorem dX5_told_60 : decode cX5_told 60 = .ok (.isub, 1) := by decide +kernel
theorem dX5_told_61 : decode cX5_told 61 = .ok (.iaload, 1) := by decide +kernel
theorem dX5_told_62 : decode cX5_told 62 = .ok (.ireturn, 1) := by decide +kernel
theorem dX5_told_63 : decode cX5_told 63 = .ok (.iload_n 1, 1) := by decide +kernel
theorem dX5_told_64 : decode cX5_told 64 = .ok (.ifCond .ne 10, 3) := by decide +kernel
theorem dX5_told_67 : decode cX5_told 67 = .ok (.aload_n 0, 1) := by decide +kernel
theorem dX5_told_68 : decode cX5_told 68 = .ok (.getfield 70, 3) := by decide +kernel
theorem dX5_told_71 : decode cX5_told 71 = .ok (.goto 29, 3) := by decide +kernel
theorem dX5_told_74 : decode cX5_told 74 = .ok (.iload_n 1, 1) := by decide +kernel
theorem dX5_told_75 : decode cX5_told 75 = .ok (.iconst 1, 1) := by decide +kernel
theorem dX5_told_76 : decode cX5_told 76 = .ok (.if_icmp .ne 10, 3) := by decide +kernel
theorem dX5_told_79 : decode cX5_told 79 = .ok (.aload_n 0, 1) := by decide +kernel
theorem dX5_told_80 : decode cX5_told 80 = .ok (.getfield 91, 3) := by decide +kernel
theorem dX5_told_83 : decode cX5_told 83 = .ok (.goto 17, 3) := by decide +kernel
theorem dX5_told_86 : decode cX5_told 86 = .ok (.iload_n 1, 1) := by decide +kernel
theorem dX5_told_87 : decode cX5_told 87 = .ok (.iconst 2, 1) := by decide +kernel
theorem dX5_told_88 : decode cX5_told 88 = .ok (.if_icmp .ne 10, 3) := by decide +kernel
theorem dX5_told_91 : decode cX5_told 91 = .ok (.aload_n 0, 1) := by decide +kernel
theorem dX5_told_92 : decode cX5_told 92 = .ok (.getfield 25, 3) := by decide +kernel
theorem dX5_told_95 : decode cX5_told 95 = .ok (.goto 5, 3) := by decide +kernel
theorem dX5_told_98 : decode cX5_told 98 = .ok (.bipush (-2), 2) := by decide +kernel
theorem dX5_told_100 : decode cX5_told 100 = .ok (.ireturn, 1) := by decide +kernel
