theorem dX0_init_0 : decode cX0_init 0 = .ok (.aload_n 0, 1) := by decide +kernel
theorem dX0_init_1 : decode cX0_init 1 = .ok (.invokespecial 3, 3) := by decide +kernel
theorem dX0_init_4 : decode cX0_init 4 = .ok (.aload_n 0, 1) := by decide +kernel
theorem dX0_init_5 : decode cX0_init 5 = .ok (.sipush 192, 3) := by decide +kernel
theorem dX0_init_8 : decode cX0_init 8 = .ok (.newarray .int, 2) := by decide +kernel
theorem dX0_init_10 : decode cX0_init 10 = .ok (.putfield 11, 3) := by decide +kernel
theorem dX0_init_13 : decode cX0_init 13 = .ok (.aload_n 0, 1) := by decide +kernel
theorem dX0_init_14 : decode cX0_init 14 = .ok (.bipush 16, 2) := by decide +kernel
theorem dX0_init_16 : decode cX0_init 16 = .ok (.newarray .int, 2) := by decide +kernel
theorem dX0_init_18 : decode cX0_init 18 = .ok (.putfield 15, 3) := by decide +kernel
theorem dX0_init_21 : decode cX0_init 21 = .ok (.aload_n 0, 1) := by decide +kernel
theorem dX0_init_22 : decode cX0_init 22 = .ok (.iconst 4, 1) := by decide +kernel
theorem dX0_init_23 : decode cX0_init 23 = .ok (.newarray .int, 2) := by decide +kernel
theorem dX0_init_25 : decode cX0_init 25 = .ok (.putfield 18, 3) := by decide +kernel
theorem dX0_init_28 : decode cX0_init 28 = .ok (.aload_n 0, 1) := by decide +kernel
theorem dX0_init_29 : decode cX0_init 29 = .ok (.iconst 4, 1) := by decide +kernel
theorem dX0_init_30 : decode cX0_init 30 = .ok (.newarray .int, 2) := by decide +kernel
theorem dX0_init_32 : decode cX0_init 32 = .ok (.putfield 21, 3) := by decide +kernel
theorem dX0_init_35 : decode cX0_init 35 = .ok (.aload_n 0, 1) := by decide +kernel
theorem dX0_init_36 : decode cX0_init 36 = .ok (.iconst 4, 1) := by decide +kernel
theorem dX0_init_37 : decode cX0_init 37 = .ok (.newarray .int, 2) := by decide +kernel
theorem dX0_init_39 : decode cX0_init 39 = .ok (.putfield 24, 3) := by decide +kernel
theorem dX0_init_42 : decode cX0_init 42 = .ok (.aload_n 0, 1) := by decide +kernel
theorem dX0_init_43 : decode cX0_init 43 = .ok (.iconst 4, 1) := by decide +kernel
theorem dX0_init_44 : decode cX0_init 44 = .ok (.newarray .int, 2) := by decide +kernel
theorem dX0_init_46 : decode cX0_init 46 = .ok (.putfield 27, 3) := by decide +kernel
theorem dX0_init_49 : decode cX0_init 49 = .ok (.aload_n 0, 1) := by decide +kernel
theorem dX0_init_50 : decode cX0_init 50 = .ok (.iload_n 1, 1) := by decide +kernel
theorem dX0_init_51 : decode cX0_init 51 = .ok (.putfield 30, 3) := by decide +kernel
theorem dX0_init_54 : decode cX0_init 54 = .ok (.return_, 1) := by decide +kernel
theorem dX0_forget_0 : decode cX0_forget 0 = .ok (.aload_n 0, 1) := by decide +kernel
theorem dX0_forget_1 : decode cX0_forget 1 = .ok (.iconst 0, 1) := by decide +kernel
theorem dX0_forget_2 : decode cX0_forget 2 = .ok (.putfield 34, 3) := by decide +kernel
theorem dX0_forget_5 : decode cX0_forget 5 = .ok (.return_, 1) := by decide +kernel
theorem dX0_isFound_0 : decode cX0_isFound 0 = .ok (.aload_n 0, 1) := by decide +kernel
theorem dX0_isFound_1 : decode cX0_isFound 1 = .ok (.getfield 38, 3) := by decide +kernel
theorem dX0_isFound_4 : decode cX0_isFound 4 = .ok (.ifCond .lt 7, 3) := by decide +kernel
theorem dX0_isFound_7 : decode cX0_isFound 7 = .ok (.iconst 1, 1) := by decide +kernel
theorem dX0_isFound_8 : decode cX0_isFound 8 = .ok (.goto 4, 3) := by decide +kernel
theorem dX0_isFound_11 : decode cX0_isFound 11 = .ok (.iconst 0, 1) := by decide +kernel
theorem dX0_isFound_12 : decode cX0_isFound 12 = .ok (.ireturn, 1) := by decide +kernel
theorem dX0_answer_0 : decode cX0_answer 0 = .ok (.aload_n 0, 1) := by decide +kernel
theorem dX0_answer_1 : decode cX0_answer 1 = .ok (.invokevirtual 41, 3) := by decide +kernel
theorem dX0_answer_4 : decode cX0_answer 4 = .ok (.ifCond .ne 6, 3) := by decide +kernel
theorem dX0_answer_7 : decode cX0_answer 7 = .ok (.bipush (-6), 2) := by decide +kernel
theorem dX0_answer_9 : decode cX0_answer 9 = .ok (.ireturn, 1) := by decide +kernel
theorem dX0_answer_10 : decode cX0_answer 10 = .ok (.iload_n 1, 1) := by decide +kernel
theorem dX0_answer_11 : decode cX0_answer 11 = .ok (.iconst (-1), 1) := by decide +kernel
theorem dX0_answer_12 : decode cX0_answer 12 = .ok (.if_icmp .ne 19, 3) := by decide +kernel
theorem dX0_answer_15 : decode cX0_answer 15 = .ok (.aload_n 0, 1) := by decide +kernel
theorem dX0_answer_16 : decode cX0_answer 16 = .ok (.getfield 30, 3) := by decide +kernel
theorem dX0_answer_19 : decode cX0_answer 19 = .ok (.ifCond .eq 7, 3) := by decide +kernel
theorem dX0_answer_22 : decode cX0_answer 22 = .ok (.iconst 1, 1) := by decide +kernel
theorem dX0_answer_23 : decode cX0_answer 23 = .ok (.goto 7, 3) := by decide +kernel
theorem dX0_answer_26 : decode cX0_answer 26 = .ok (.aload_n 0, 1) := by decide +kernel
theorem dX0_answer_27 : decode cX0_answer 27 = .ok (.getfield 38, 3) := by decide +kernel
theorem dX0_answer_30 : decode cX0_answer 30 = .ok (.ireturn, 1) := by decide +kernel
theorem dX0_answer_31 : decode cX0_answer 31 = .ok (.iload_n 1, 1) := by decide +kernel
theorem dX0_answer_32 : decode cX0_answer 32 = .ok (.ifCond .lt 18, 3) := by decide +kernel
theorem dX0_answer_35 : decode cX0_answer 35 = .ok (.iload_n 1, 1) := by decide +kernel
theorem dX0_answer_36 : decode cX0_answer 36 = .ok (.aload_n 0, 1) := by decide +kernel
theorem dX0_answer_37 : decode cX0_answer 37 = .ok (.getfield 34, 3) := by decide +kernel
theorem dX0_answer_40 : decode cX0_answer 40 = .ok (.if_icmp .ge 10, 3) := by decide +kernel
theorem dX0_answer_43 : decode cX0_answer 43 = .ok (.aload_n 0, 1) := by decide +kernel
theorem dX0_answer_44 : decode cX0_answer 44 = .ok (.getfield 24, 3) := by decide +kernel
theorem dX0_answer_47 : decode cX0_answer 47 = .ok (.iload_n 1, 1) := by decide +kernel
theorem dX0_answer_48 : decode cX0_answer 48 = .ok (.iaload, 1) := by decide +kernel
theorem dX0_answer_49 : decode cX0_answer 49 = .ok (.ireturn, 1) := by decide +kernel
theorem dX0_answer_50 : decode cX0_answer 50 = .ok (.iload_n 1, 1) := by decide +kernel
theorem dX0_answer_51 : decode cX0_answer 51 = .ok (.bipush 10, 2) := by decide +kernel
theorem dX0_answer_53 : decode cX0_answer 53 = .ok (.if_icmp .lt 26, 3) := by decide +kernel
theorem dX0_answer_56 : decode cX0_answer 56 = .ok (.iload_n 1, 1) := by decide +kernel
theorem dX0_answer_57 : decode cX0_answer 57 = .ok (.bipush 10, 2) := by decide +kernel
theorem dX0_answer_59 : decode cX0_answer 59 = .ok (.aload_n 0, 1) := by decide +kernel
theorem dX0_answer_60 : decode cX0_answer 60 = .ok (.getfield 34, 3) := by decide +kernel
theorem dX0_answer_63 : decode cX0_answer 63 = .ok (.iadd, 1) := by decide +kernel
theorem dX0_answer_64 : decode cX0_answer 64 = .ok (.if_icmp .ge 15, 3) := by decide +kernel
theorem dX0_answer_67 : decode cX0_answer 67 = .ok (.aload_n 0, 1) := by decide +kernel
theorem dX0_answer_68 : decode cX0_answer 68 = .ok (.getfield 27, 3) := by decide +kernel
theorem dX0_answer_71 : decode cX0_answer 71 = .ok (.iload_n 1, 1) := by decide +kernel
theorem dX0_answer_72 : decode cX0_answer 72 = .ok (.bipush 10, 2) := by decide +kernel
theorem dX0_answer_74 : decode cX0_answer 74 = .ok (.isub, 1) := by decide +kernel
theorem dX0_answer_75 : decode cX0_answer 75 = .ok (.iaload, 1) := by decide +kernel
theorem dX0_answer_76 : decode cX0_answer 76 = .ok (.goto 5, 3) := by decide +kernel
theorem dX0_answer_79 : decode cX0_answer 79 = .ok (.bipush (-6), 2) := by decide +kernel
theorem dX0_answer_81 : decode cX0_answer 81 = .ok (.ireturn, 1) := by decide +kernel
theorem dX0_searchAmong_0 : decode cX0_searchAmong 0 = .ok (.aload_n 0, 1) := by decide +kernel
theorem dX0_searchAmong_1 : decode cX0_searchAmong 1 = .ok (.getfield 34, 3) := by decide +kernel
theorem dX0_searchAmong_4 : decode cX0_searchAmong 4 = .ok (.iload_n 1, 1) := by decide +kernel
theorem dX0_searchAmong_5 : decode cX0_searchAmong 5 = .ok (.if_icmp .ne 4, 3) := by decide +kernel
theorem dX0_searchAmong_8 : decode cX0_searchAmong 8 = .ok (.return_, 1) := by decide +kernel
theorem dX0_searchAmong_9 : decode cX0_searchAmong 9 = .ok (.aload_n 0, 1) := by decide +kernel
theorem dX0_searchAmong_10 : decode cX0_searchAmong 10 = .ok (.iload_n 1, 1) := by decide +kernel
theorem dX0_searchAmong_11 : decode cX0_searchAmong 11 = .ok (.putfield 34, 3) := by decide +kernel
theorem dX0_searchAmong_14 : decode cX0_searchAmong 14 = .ok (.aload_n 0, 1) := by decide +kernel
theorem dX0_searchAmong_15 : decode cX0_searchAmong 15 = .ok (.iconst (-1), 1) := by decide +kernel
theorem dX0_searchAmong_16 : decode cX0_searchAmong 16 = .ok (.putfield 38, 3) := by decide +kernel
theorem dX0_searchAmong_19 : decode cX0_searchAmong 19 = .ok (.iconst 0, 1) := by decide +kernel
theorem dX0_searchAmong_20 : decode cX0_searchAmong 20 = .ok (.istore_n 3, 1) := by decide +kernel
theorem dX0_searchAmong_21 : decode cX0_searchAmong 21 = .ok (.iload_n 3, 1) := by decide +kernel
theorem dX0_searchAmong_22 : decode cX0_searchAmong 22 = .ok (.aload_n 0, 1) := by decide +kernel
theorem dX0_searchAmong_23 : decode cX0_searchAmong 23 = .ok (.getfield 34, 3) := by decide +kernel
theorem dX0_searchAmong_26 : decode cX0_searchAmong 26 = .ok (.if_icmp .ge 22, 3) := by decide +kernel
theorem dX0_searchAmong_29 : decode cX0_searchAmong 29 = .ok (.aload_n 0, 1) := by decide +kernel
theorem dX0_searchAmong_30 : decode cX0_searchAmong 30 = .ok (.getfield 18, 3) := by decide +kernel
theorem dX0_searchAmong_33 : decode cX0_searchAmong 33 = .ok (.iload_n 3, 1) := by decide +kernel
theorem dX0_searchAmong_34 : decode cX0_searchAmong 34 = .ok (.iload_n 3, 1) := by decide +kernel
theorem dX0_searchAmong_35 : decode cX0_searchAmong 35 = .ok (.iastore, 1) := by decide +kernel
theorem dX0_searchAmong_36 : decode cX0_searchAmong 36 = .ok (.aload_n 0, 1) := by decide +kernel
theorem dX0_searchAmong_37 : decode cX0_searchAmong 37 = .ok (.iload_n 3, 1) := by decide +kernel
theorem dX0_searchAmong_38 : decode cX0_searchAmong 38 = .ok (.aload_n 2, 1) := by decide +kernel
theorem dX0_searchAmong_39 : decode cX0_searchAmong 39 = .ok (.invokevirtual 45, 3) := by decide +kernel
theorem dX0_searchAmong_42 : decode cX0_searchAmong 42 = .ok (.iinc 3 1, 3) := by decide +kernel
theorem dX0_searchAmong_45 : decode cX0_searchAmong 45 = .ok (.goto (-24), 3) := by decide +kernel
theorem dX0_searchAmong_48 : decode cX0_searchAmong 48 = .ok (.iconst 1, 1) := by decide +kernel
theorem dX0_searchAmong_49 : decode cX0_searchAmong 49 = .ok (.istore_n 3, 1) := by decide +kernel
theorem dX0_searchAmong_50 : decode cX0_searchAmong 50 = .ok (.iconst 0, 1) := by decide +kernel
theorem dX0_searchAmong_51 : decode cX0_searchAmong 51 = .ok (.istore 4, 2) := by decide +kernel
theorem dX0_searchAmong_53 : decode cX0_searchAmong 53 = .ok (.iload 4, 2) := by decide +kernel
theorem dX0_searchAmong_55 : decode cX0_searchAmong 55 = .ok (.sipush 10626, 3) := by decide +kernel
theorem dX0_searchAmong_58 : decode cX0_searchAmong 58 = .ok (.if_icmp .ge 61, 3) := by decide +kernel
theorem dX0_searchAmong_61 : decode cX0_searchAmong 61 = .ok (.iload_n 3, 1) := by decide +kernel
theorem dX0_searchAmong_62 : decode cX0_searchAmong 62 = .ok (.ifCond .eq 57, 3) := by decide +kernel
theorem dX0_searchAmong_65 : decode cX0_searchAmong 65 = .ok (.aload_n 0, 1) := by decide +kernel
theorem dX0_searchAmong_66 : decode cX0_searchAmong 66 = .ok (.invokevirtual 49, 3) := by decide +kernel
theorem dX0_searchAmong_69 : decode cX0_searchAmong 69 = .ok (.ifCond .ne 50, 3) := by decide +kernel
theorem dX0_searchAmong_72 : decode cX0_searchAmong 72 = .ok (.aload_n 0, 1) := by decide +kernel
theorem dX0_searchAmong_73 : decode cX0_searchAmong 73 = .ok (.invokevirtual 52, 3) := by decide +kernel
theorem dX0_searchAmong_76 : decode cX0_searchAmong 76 = .ok (.istore 5, 2) := by decide +kernel
theorem dX0_searchAmong_78 : decode cX0_searchAmong 78 = .ok (.iload 5, 2) := by decide +kernel
theorem dX0_searchAmong_80 : decode cX0_searchAmong 80 = .ok (.aload_n 0, 1) := by decide +kernel
theorem dX0_searchAmong_81 : decode cX0_searchAmong 81 = .ok (.getfield 34, 3) := by decide +kernel
theorem dX0_searchAmong_84 : decode cX0_searchAmong 84 = .ok (.if_icmp .ne 11, 3) := by decide +kernel
theorem dX0_searchAmong_87 : decode cX0_searchAmong 87 = .ok (.aload_n 0, 1) := by decide +kernel
theorem dX0_searchAmong_88 : decode cX0_searchAmong 88 = .ok (.iconst 0, 1) := by decide +kernel
theorem dX0_searchAmong_89 : decode cX0_searchAmong 89 = .ok (.iconst 0, 1) := by decide +kernel
theorem dX0_searchAmong_90 : decode cX0_searchAmong 90 = .ok (.ldc 56, 2) := by decide +kernel
theorem dX0_searchAmong_92 : decode cX0_searchAmong 92 = .ok (.invokevirtual 57, 3) := by decide +kernel
theorem dX0_searchAmong_95 : decode cX0_searchAmong 95 = .ok (.aload_n 0, 1) := by decide +kernel
theorem dX0_searchAmong_96 : decode cX0_searchAmong 96 = .ok (.iload 5, 2) := by decide +kernel
theorem dX0_searchAmong_98 : decode cX0_searchAmong 98 = .ok (.iconst 1, 1) := by decide +kernel
theorem dX0_searchAmong_99 : decode cX0_searchAmong 99 = .ok (.iadd, 1) := by decide +kernel
theorem dX0_searchAmong_100 : decode cX0_searchAmong 100 = .ok (.aload_n 0, 1) := by decide +kernel
theorem dX0_searchAmong_101 : decode cX0_searchAmong 101 = .ok (.getfield 34, 3) := by decide +kernel
theorem dX0_searchAmong_104 : decode cX0_searchAmong 104 = .ok (.iconst 1, 1) := by decide +kernel
theorem dX0_searchAmong_105 : decode cX0_searchAmong 105 = .ok (.isub, 1) := by decide +kernel
theorem dX0_searchAmong_106 : decode cX0_searchAmong 106 = .ok (.invokestatic 61, 3) := by decide +kernel
theorem dX0_searchAmong_109 : decode cX0_searchAmong 109 = .ok (.invokevirtual 67, 3) := by decide +kernel
theorem dX0_searchAmong_112 : decode cX0_searchAmong 112 = .ok (.istore_n 3, 1) := by decide +kernel
theorem dX0_searchAmong_113 : decode cX0_searchAmong 113 = .ok (.iinc 4 1, 3) := by decide +kernel
theorem dX0_searchAmong_116 : decode cX0_searchAmong 116 = .ok (.goto (-63), 3) := by decide +kernel
theorem dX0_searchAmong_119 : decode cX0_searchAmong 119 = .ok (.return_, 1) := by decide +kernel
theorem dX0_sumUp_0 : decode cX0_sumUp 0 = .ok (.iconst 0, 1) := by decide +kernel
theorem dX0_sumUp_1 : decode cX0_sumUp 1 = .ok (.istore_n 3, 1) := by decide +kernel
theorem dX0_sumUp_2 : decode cX0_sumUp 2 = .ok (.iconst 0, 1) := by decide +kernel
theorem dX0_sumUp_3 : decode cX0_sumUp 3 = .ok (.istore 4, 2) := by decide +kernel
theorem dX0_sumUp_5 : decode cX0_sumUp 5 = .ok (.iload 4, 2) := by decide +kernel
theorem dX0_sumUp_7 : decode cX0_sumUp 7 = .ok (.bipush 48, 2) := by decide +kernel
theorem dX0_sumUp_9 : decode cX0_sumUp 9 = .ok (.if_icmp .ge 35, 3) := by decide +kernel
theorem dX0_sumUp_12 : decode cX0_sumUp 12 = .ok (.aload_n 0, 1) := by decide +kernel
theorem dX0_sumUp_13 : decode cX0_sumUp 13 = .ok (.getfield 11, 3) := by decide +kernel
theorem dX0_sumUp_16 : decode cX0_sumUp 16 = .ok (.iload_n 1, 1) := by decide +kernel
theorem dX0_sumUp_17 : decode cX0_sumUp 17 = .ok (.bipush 48, 2) := by decide +kernel
theorem dX0_sumUp_19 : decode cX0_sumUp 19 = .ok (.imul, 1) := by decide +kernel
theorem dX0_sumUp_20 : decode cX0_sumUp 20 = .ok (.iload 4, 2) := by decide +kernel
theorem dX0_sumUp_22 : decode cX0_sumUp 22 = .ok (.iadd, 1) := by decide +kernel
theorem dX0_sumUp_23 : decode cX0_sumUp 23 = .ok (.iload_n 3, 1) := by decide +kernel
theorem dX0_sumUp_24 : decode cX0_sumUp 24 = .ok (.iastore, 1) := by decide +kernel
theorem dX0_sumUp_25 : decode cX0_sumUp 25 = .ok (.iload_n 3, 1) := by decide +kernel
theorem dX0_sumUp_26 : decode cX0_sumUp 26 = .ok (.aload_n 2, 1) := by decide +kernel
theorem dX0_sumUp_27 : decode cX0_sumUp 27 = .ok (.iload_n 1, 1) := by decide +kernel
theorem dX0_sumUp_28 : decode cX0_sumUp 28 = .ok (.iload 4, 2) := by decide +kernel
theorem dX0_sumUp_30 : decode cX0_sumUp 30 = .ok (.bipush 24, 2) := by decide +kernel
theorem dX0_sumUp_32 : decode cX0_sumUp 32 = .ok (.irem, 1) := by decide +kernel
theorem dX0_sumUp_33 : decode cX0_sumUp 33 = .ok (.invokevirtual 71, 3) := by decide +kernel
theorem dX0_sumUp_36 : decode cX0_sumUp 36 = .ok (.iadd, 1) := by decide +kernel
theorem dX0_sumUp_37 : decode cX0_sumUp 37 = .ok (.istore_n 3, 1) := by decide +kernel
theorem dX0_sumUp_38 : decode cX0_sumUp 38 = .ok (.iinc 4 1, 3) := by decide +kernel
theorem dX0_sumUp_41 : decode cX0_sumUp 41 = .ok (.goto (-36), 3) := by decide +kernel
theorem dX0_sumUp_44 : decode cX0_sumUp 44 = .ok (.return_, 1) := by decide +kernel
theorem dX0_isSettled_0 : decode cX0_isSettled 0 = .ok (.aload_n 0, 1) := by decide +kernel
theorem dX0_isSettled_1 : decode cX0_isSettled 1 = .ok (.getfield 30, 3) := by decide +kernel
theorem dX0_isSettled_4 : decode cX0_isSettled 4 = .ok (.ifCond .eq 14, 3) := by decide +kernel
theorem dX0_isSettled_7 : decode cX0_isSettled 7 = .ok (.aload_n 0, 1) := by decide +kernel
theorem dX0_isSettled_8 : decode cX0_isSettled 8 = .ok (.invokevirtual 41, 3) := by decide +kernel
theorem dX0_isSettled_11 : decode cX0_isSettled 11 = .ok (.ifCond .eq 7, 3) := by decide +kernel
theorem dX0_isSettled_14 : decode cX0_isSettled 14 = .ok (.iconst 1, 1) := by decide +kernel
theorem dX0_isSettled_15 : decode cX0_isSettled 15 = .ok (.goto 4, 3) := by decide +kernel
theorem dX0_isSettled_18 : decode cX0_isSettled 18 = .ok (.iconst 0, 1) := by decide +kernel
theorem dX0_isSettled_19 : decode cX0_isSettled 19 = .ok (.ireturn, 1) := by decide +kernel
theorem dX0_stepBounds_0 : decode cX0_stepBounds 0 = .ok (.iload_n 1, 1) := by decide +kernel
theorem dX0_stepBounds_1 : decode cX0_stepBounds 1 = .ok (.istore_n 2, 1) := by decide +kernel
theorem dX0_stepBounds_2 : decode cX0_stepBounds 2 = .ok (.iload_n 2, 1) := by decide +kernel
theorem dX0_stepBounds_3 : decode cX0_stepBounds 3 = .ok (.ifCond .lt 27, 3) := by decide +kernel
theorem dX0_stepBounds_6 : decode cX0_stepBounds 6 = .ok (.aload_n 0, 1) := by decide +kernel
theorem dX0_stepBounds_7 : decode cX0_stepBounds 7 = .ok (.getfield 18, 3) := by decide +kernel
theorem dX0_stepBounds_10 : decode cX0_stepBounds 10 = .ok (.iload_n 2, 1) := by decide +kernel
theorem dX0_stepBounds_11 : decode cX0_stepBounds 11 = .ok (.iaload, 1) := by decide +kernel
theorem dX0_stepBounds_12 : decode cX0_stepBounds 12 = .ok (.bipush 24, 2) := by decide +kernel
theorem dX0_stepBounds_14 : decode cX0_stepBounds 14 = .ok (.aload_n 0, 1) := by decide +kernel
theorem dX0_stepBounds_15 : decode cX0_stepBounds 15 = .ok (.getfield 34, 3) := by decide +kernel
theorem dX0_stepBounds_18 : decode cX0_stepBounds 18 = .ok (.isub, 1) := by decide +kernel
theorem dX0_stepBounds_19 : decode cX0_stepBounds 19 = .ok (.iload_n 2, 1) := by decide +kernel
theorem dX0_stepBounds_20 : decode cX0_stepBounds 20 = .ok (.iadd, 1) := by decide +kernel
theorem dX0_stepBounds_21 : decode cX0_stepBounds 21 = .ok (.if_icmp .lt 9, 3) := by decide +kernel
theorem dX0_stepBounds_24 : decode cX0_stepBounds 24 = .ok (.iinc 2 (-1), 3) := by decide +kernel
theorem dX0_stepBounds_27 : decode cX0_stepBounds 27 = .ok (.goto (-25), 3) := by decide +kernel
theorem dX0_stepBounds_30 : decode cX0_stepBounds 30 = .ok (.iload_n 2, 1) := by decide +kernel
theorem dX0_stepBounds_31 : decode cX0_stepBounds 31 = .ok (.ifCond .ge 5, 3) := by decide +kernel
theorem dX0_stepBounds_34 : decode cX0_stepBounds 34 = .ok (.iconst 0, 1) := by decide +kernel
theorem dX0_stepBounds_35 : decode cX0_stepBounds 35 = .ok (.ireturn, 1) := by decide +kernel
theorem dX0_stepBounds_36 : decode cX0_stepBounds 36 = .ok (.aload_n 0, 1) := by decide +kernel
theorem dX0_stepBounds_37 : decode cX0_stepBounds 37 = .ok (.getfield 18, 3) := by decide +kernel
theorem dX0_stepBounds_40 : decode cX0_stepBounds 40 = .ok (.iload_n 2, 1) := by decide +kernel
theorem dX0_stepBounds_41 : decode cX0_stepBounds 41 = .ok (.dup2, 1) := by decide +kernel
theorem dX0_stepBounds_42 : decode cX0_stepBounds 42 = .ok (.iaload, 1) := by decide +kernel
theorem dX0_stepBounds_43 : decode cX0_stepBounds 43 = .ok (.iconst 1, 1) := by decide +kernel
theorem dX0_stepBounds_44 : decode cX0_stepBounds 44 = .ok (.iadd, 1) := by decide +kernel
theorem dX0_stepBounds_45 : decode cX0_stepBounds 45 = .ok (.iastore, 1) := by decide +kernel
theorem dX0_stepBounds_46 : decode cX0_stepBounds 46 = .ok (.iload_n 2, 1) := by decide +kernel
theorem dX0_stepBounds_47 : decode cX0_stepBounds 47 = .ok (.iconst 1, 1) := by decide +kernel
theorem dX0_stepBounds_48 : decode cX0_stepBounds 48 = .ok (.iadd, 1) := by decide +kernel
theorem dX0_stepBounds_49 : decode cX0_stepBounds 49 = .ok (.istore_n 3, 1) := by decide +kernel
theorem dX0_stepBounds_50 : decode cX0_stepBounds 50 = .ok (.iload_n 3, 1) := by decide +kernel
theorem dX0_stepBounds_51 : decode cX0_stepBounds 51 = .ok (.aload_n 0, 1) := by decide +kernel
theorem dX0_stepBounds_52 : decode cX0_stepBounds 52 = .ok (.getfield 34, 3) := by decide +kernel
theorem dX0_stepBounds_55 : decode cX0_stepBounds 55 = .ok (.if_icmp .ge 25, 3) := by decide +kernel
theorem dX0_stepBounds_58 : decode cX0_stepBounds 58 = .ok (.aload_n 0, 1) := by decide +kernel
theorem dX0_stepBounds_59 : decode cX0_stepBounds 59 = .ok (.getfield 18, 3) := by decide +kernel
theorem dX0_stepBounds_62 : decode cX0_stepBounds 62 = .ok (.iload_n 3, 1) := by decide +kernel
theorem dX0_stepBounds_63 : decode cX0_stepBounds 63 = .ok (.aload_n 0, 1) := by decide +kernel
theorem dX0_stepBounds_64 : decode cX0_stepBounds 64 = .ok (.getfield 18, 3) := by decide +kernel
theorem dX0_stepBounds_67 : decode cX0_stepBounds 67 = .ok (.iload_n 3, 1) := by decide +kernel
theorem dX0_stepBounds_68 : decode cX0_stepBounds 68 = .ok (.iconst 1, 1) := by decide +kernel
theorem dX0_stepBounds_69 : decode cX0_stepBounds 69 = .ok (.isub, 1) := by decide +kernel
theorem dX0_stepBounds_70 : decode cX0_stepBounds 70 = .ok (.iaload, 1) := by decide +kernel
theorem dX0_stepBounds_71 : decode cX0_stepBounds 71 = .ok (.iconst 1, 1) := by decide +kernel
theorem dX0_stepBounds_72 : decode cX0_stepBounds 72 = .ok (.iadd, 1) := by decide +kernel
theorem dX0_stepBounds_73 : decode cX0_stepBounds 73 = .ok (.iastore, 1) := by decide +kernel
theorem dX0_stepBounds_74 : decode cX0_stepBounds 74 = .ok (.iinc 3 1, 3) := by decide +kernel
theorem dX0_stepBounds_77 : decode cX0_stepBounds 77 = .ok (.goto (-27), 3) := by decide +kernel
theorem dX0_stepBounds_80 : decode cX0_stepBounds 80 = .ok (.iconst 1, 1) := by decide +kernel
theorem dX0_stepBounds_81 : decode cX0_stepBounds 81 = .ok (.ireturn, 1) := by decide +kernel
theorem dX0_firstArcOfNoUse_0 : decode cX0_firstArcOfNoUse 0 = .ok (.iconst 0, 1) := by decide +kernel
theorem dX0_firstArcOfNoUse_1 : decode cX0_firstArcOfNoUse 1 = .ok (.istore_n 1, 1) := by decide +kernel
theorem dX0_firstArcOfNoUse_2 : decode cX0_firstArcOfNoUse 2 = .ok (.iload_n 1, 1) := by decide +kernel
theorem dX0_firstArcOfNoUse_3 : decode cX0_firstArcOfNoUse 3 = .ok (.aload_n 0, 1) := by decide +kernel
theorem dX0_firstArcOfNoUse_4 : decode cX0_firstArcOfNoUse 4 = .ok (.getfield 34, 3) := by decide +kernel
theorem dX0_firstArcOfNoUse_7 : decode cX0_firstArcOfNoUse 7 = .ok (.if_icmp .ge 17, 3) := by decide +kernel
theorem dX0_firstArcOfNoUse_10 : decode cX0_firstArcOfNoUse 10 = .ok (.aload_n 0, 1) := by decide +kernel
theorem dX0_firstArcOfNoUse_11 : decode cX0_firstArcOfNoUse 11 = .ok (.iload_n 1, 1) := by decide +kernel
theorem dX0_firstArcOfNoUse_12 : decode cX0_firstArcOfNoUse 12 = .ok (.invokevirtual 76, 3) := by decide +kernel
theorem dX0_firstArcOfNoUse_15 : decode cX0_firstArcOfNoUse 15 = .ok (.ifCond .eq 9, 3) := by decide +kernel
theorem dX0_firstArcOfNoUse_18 : decode cX0_firstArcOfNoUse 18 = .ok (.iinc 1 1, 3) := by decide +kernel
theorem dX0_firstArcOfNoUse_21 : decode cX0_firstArcOfNoUse 21 = .ok (.goto (-19), 3) := by decide +kernel
theorem dX0_firstArcOfNoUse_24 : decode cX0_firstArcOfNoUse 24 = .ok (.iload_n 1, 1) := by decide +kernel
theorem dX0_firstArcOfNoUse_25 : decode cX0_firstArcOfNoUse 25 = .ok (.ireturn, 1) := by decide +kernel
theorem dX0_noteShares_0 : decode cX0_noteShares 0 = .ok (.iload_n 1, 1) := by decide +kernel
theorem dX0_noteShares_1 : decode cX0_noteShares 1 = .ok (.iconst 1, 1) := by decide +kernel
theorem dX0_noteShares_2 : decode cX0_noteShares 2 = .ok (.iadd, 1) := by decide +kernel
theorem dX0_noteShares_3 : decode cX0_noteShares 3 = .ok (.aload_n 0, 1) := by decide +kernel
theorem dX0_noteShares_4 : decode cX0_noteShares 4 = .ok (.getfield 34, 3) := by decide +kernel
theorem dX0_noteShares_7 : decode cX0_noteShares 7 = .ok (.if_icmp .ge 14, 3) := by decide +kernel
theorem dX0_noteShares_10 : decode cX0_noteShares 10 = .ok (.aload_n 0, 1) := by decide +kernel
theorem dX0_noteShares_11 : decode cX0_noteShares 11 = .ok (.getfield 18, 3) := by decide +kernel
theorem dX0_noteShares_14 : decode cX0_noteShares 14 = .ok (.iload_n 1, 1) := by decide +kernel
theorem dX0_noteShares_15 : decode cX0_noteShares 15 = .ok (.iconst 1, 1) := by decide +kernel
theorem dX0_noteShares_16 : decode cX0_noteShares 16 = .ok (.iadd, 1) := by decide +kernel
theorem dX0_noteShares_17 : decode cX0_noteShares 17 = .ok (.iaload, 1) := by decide +kernel
theorem dX0_noteShares_18 : decode cX0_noteShares 18 = .ok (.goto 12, 3) := by decide +kernel
theorem dX0_noteShares_21 : decode cX0_noteShares 21 = .ok (.aload_n 0, 1) := by decide +kernel
theorem dX0_noteShares_22 : decode cX0_noteShares 22 = .ok (.getfield 18, 3) := by decide +kernel
theorem dX0_noteShares_25 : decode cX0_noteShares 25 = .ok (.iconst 0, 1) := by decide +kernel
theorem dX0_noteShares_26 : decode cX0_noteShares 26 = .ok (.iaload, 1) := by decide +kernel
theorem dX0_noteShares_27 : decode cX0_noteShares 27 = .ok (.bipush 24, 2) := by decide +kernel
theorem dX0_noteShares_29 : decode cX0_noteShares 29 = .ok (.iadd, 1) := by decide +kernel
theorem dX0_noteShares_30 : decode cX0_noteShares 30 = .ok (.istore_n 2, 1) := by decide +kernel
theorem dX0_noteShares_31 : decode cX0_noteShares 31 = .ok (.iconst 0, 1) := by decide +kernel
theorem dX0_noteShares_32 : decode cX0_noteShares 32 = .ok (.istore_n 3, 1) := by decide +kernel
theorem dX0_noteShares_33 : decode cX0_noteShares 33 = .ok (.iconst 0, 1) := by decide +kernel
theorem dX0_noteShares_34 : decode cX0_noteShares 34 = .ok (.istore 4, 2) := by decide +kernel
theorem dX0_noteShares_36 : decode cX0_noteShares 36 = .ok (.iload 4, 2) := by decide +kernel
theorem dX0_noteShares_38 : decode cX0_noteShares 38 = .ok (.aload_n 0, 1) := by decide +kernel
theorem dX0_noteShares_39 : decode cX0_noteShares 39 = .ok (.getfield 34, 3) := by decide +kernel
theorem dX0_noteShares_42 : decode cX0_noteShares 42 = .ok (.if_icmp .ge 65, 3) := by decide +kernel
theorem dX0_noteShares_45 : decode cX0_noteShares 45 = .ok (.aload_n 0, 1) := by decide +kernel
theorem dX0_noteShares_46 : decode cX0_noteShares 46 = .ok (.getfield 11, 3) := by decide +kernel
theorem dX0_noteShares_49 : decode cX0_noteShares 49 = .ok (.iload 4, 2) := by decide +kernel
theorem dX0_noteShares_51 : decode cX0_noteShares 51 = .ok (.bipush 48, 2) := by decide +kernel
theorem dX0_noteShares_53 : decode cX0_noteShares 53 = .ok (.imul, 1) := by decide +kernel
theorem dX0_noteShares_54 : decode cX0_noteShares 54 = .ok (.iload_n 2, 1) := by decide +kernel
theorem dX0_noteShares_55 : decode cX0_noteShares 55 = .ok (.iadd, 1) := by decide +kernel
theorem dX0_noteShares_56 : decode cX0_noteShares 56 = .ok (.iaload, 1) := by decide +kernel
theorem dX0_noteShares_57 : decode cX0_noteShares 57 = .ok (.aload_n 0, 1) := by decide +kernel
theorem dX0_noteShares_58 : decode cX0_noteShares 58 = .ok (.getfield 11, 3) := by decide +kernel
theorem dX0_noteShares_61 : decode cX0_noteShares 61 = .ok (.iload 4, 2) := by decide +kernel
theorem dX0_noteShares_63 : decode cX0_noteShares 63 = .ok (.bipush 48, 2) := by decide +kernel
theorem dX0_noteShares_65 : decode cX0_noteShares 65 = .ok (.imul, 1) := by decide +kernel
theorem dX0_noteShares_66 : decode cX0_noteShares 66 = .ok (.aload_n 0, 1) := by decide +kernel
theorem dX0_noteShares_67 : decode cX0_noteShares 67 = .ok (.getfield 18, 3) := by decide +kernel
theorem dX0_noteShares_70 : decode cX0_noteShares 70 = .ok (.iload_n 1, 1) := by decide +kernel
theorem dX0_noteShares_71 : decode cX0_noteShares 71 = .ok (.iaload, 1) := by decide +kernel
theorem dX0_noteShares_72 : decode cX0_noteShares 72 = .ok (.iadd, 1) := by decide +kernel
theorem dX0_noteShares_73 : decode cX0_noteShares 73 = .ok (.iaload, 1) := by decide +kernel
theorem dX0_noteShares_74 : decode cX0_noteShares 74 = .ok (.isub, 1) := by decide +kernel
theorem dX0_noteShares_75 : decode cX0_noteShares 75 = .ok (.istore 5, 2) := by decide +kernel
theorem dX0_noteShares_77 : decode cX0_noteShares 77 = .ok (.aload_n 0, 1) := by decide +kernel
theorem dX0_noteShares_78 : decode cX0_noteShares 78 = .ok (.getfield 15, 3) := by decide +kernel
theorem dX0_noteShares_81 : decode cX0_noteShares 81 = .ok (.iload_n 1, 1) := by decide +kernel
theorem dX0_noteShares_82 : decode cX0_noteShares 82 = .ok (.iconst 4, 1) := by decide +kernel
theorem dX0_noteShares_83 : decode cX0_noteShares 83 = .ok (.imul, 1) := by decide +kernel
theorem dX0_noteShares_84 : decode cX0_noteShares 84 = .ok (.iload 4, 2) := by decide +kernel
theorem dX0_noteShares_86 : decode cX0_noteShares 86 = .ok (.iadd, 1) := by decide +kernel
theorem dX0_noteShares_87 : decode cX0_noteShares 87 = .ok (.iload 5, 2) := by decide +kernel
theorem dX0_noteShares_89 : decode cX0_noteShares 89 = .ok (.iastore, 1) := by decide +kernel
theorem dX0_noteShares_90 : decode cX0_noteShares 90 = .ok (.iload_n 3, 1) := by decide +kernel
theorem dX0_noteShares_91 : decode cX0_noteShares 91 = .ok (.aload_n 0, 1) := by decide +kernel
theorem dX0_noteShares_92 : decode cX0_noteShares 92 = .ok (.iload 4, 2) := by decide +kernel
theorem dX0_noteShares_94 : decode cX0_noteShares 94 = .ok (.iload 5, 2) := by decide +kernel
theorem dX0_noteShares_96 : decode cX0_noteShares 96 = .ok (.invokevirtual 79, 3) := by decide +kernel
theorem dX0_noteShares_99 : decode cX0_noteShares 99 = .ok (.ior, 1) := by decide +kernel
theorem dX0_noteShares_100 : decode cX0_noteShares 100 = .ok (.istore_n 3, 1) := by decide +kernel
theorem dX0_noteShares_101 : decode cX0_noteShares 101 = .ok (.iinc 4 1, 3) := by decide +kernel
theorem dX0_noteShares_104 : decode cX0_noteShares 104 = .ok (.goto (-68), 3) := by decide +kernel
theorem dX0_noteShares_107 : decode cX0_noteShares 107 = .ok (.iload_n 3, 1) := by decide +kernel
theorem dX0_noteShares_108 : decode cX0_noteShares 108 = .ok (.ireturn, 1) := by decide +kernel
theorem dX0_isEnough_0 : decode cX0_isEnough 0 = .ok (.aload_n 0, 1) := by decide +kernel
theorem dX0_isEnough_1 : decode cX0_isEnough 1 = .ok (.getfield 30, 3) := by decide +kernel
theorem dX0_isEnough_4 : decode cX0_isEnough 4 = .ok (.ifCond .eq 32, 3) := by decide +kernel
theorem dX0_isEnough_7 : decode cX0_isEnough 7 = .ok (.iload_n 2, 1) := by decide +kernel
theorem dX0_isEnough_8 : decode cX0_isEnough 8 = .ok (.aload_n 0, 1) := by decide +kernel
theorem dX0_isEnough_9 : decode cX0_isEnough 9 = .ok (.getfield 34, 3) := by decide +kernel
theorem dX0_isEnough_12 : decode cX0_isEnough 12 = .ok (.imul, 1) := by decide +kernel
theorem dX0_isEnough_13 : decode cX0_isEnough 13 = .ok (.aload_n 0, 1) := by decide +kernel
theorem dX0_isEnough_14 : decode cX0_isEnough 14 = .ok (.getfield 11, 3) := by decide +kernel
theorem dX0_isEnough_17 : decode cX0_isEnough 17 = .ok (.iload_n 1, 1) := by decide +kernel
theorem dX0_isEnough_18 : decode cX0_isEnough 18 = .ok (.bipush 48, 2) := by decide +kernel
theorem dX0_isEnough_20 : decode cX0_isEnough 20 = .ok (.imul, 1) := by decide +kernel
theorem dX0_isEnough_21 : decode cX0_isEnough 21 = .ok (.bipush 24, 2) := by decide +kernel
theorem dX0_isEnough_23 : decode cX0_isEnough 23 = .ok (.iadd, 1) := by decide +kernel
theorem dX0_isEnough_24 : decode cX0_isEnough 24 = .ok (.iaload, 1) := by decide +kernel
theorem dX0_isEnough_25 : decode cX0_isEnough 25 = .ok (.if_icmp .lt 7, 3) := by decide +kernel
theorem dX0_isEnough_28 : decode cX0_isEnough 28 = .ok (.iconst 1, 1) := by decide +kernel
theorem dX0_isEnough_29 : decode cX0_isEnough 29 = .ok (.goto 20, 3) := by decide +kernel
theorem dX0_isEnough_32 : decode cX0_isEnough 32 = .ok (.iconst 0, 1) := by decide +kernel
theorem dX0_isEnough_33 : decode cX0_isEnough 33 = .ok (.goto 16, 3) := by decide +kernel
theorem dX0_isEnough_36 : decode cX0_isEnough 36 = .ok (.iload_n 2, 1) := by decide +kernel
theorem dX0_isEnough_37 : decode cX0_isEnough 37 = .ok (.aload_n 0, 1) := by decide +kernel
theorem dX0_isEnough_38 : decode cX0_isEnough 38 = .ok (.getfield 38, 3) := by decide +kernel
theorem dX0_isEnough_41 : decode cX0_isEnough 41 = .ok (.if_icmp .le 7, 3) := by decide +kernel
theorem dX0_isEnough_44 : decode cX0_isEnough 44 = .ok (.iconst 1, 1) := by decide +kernel
theorem dX0_isEnough_45 : decode cX0_isEnough 45 = .ok (.goto 4, 3) := by decide +kernel
theorem dX0_isEnough_48 : decode cX0_isEnough 48 = .ok (.iconst 0, 1) := by decide +kernel
theorem dX0_isEnough_49 : decode cX0_isEnough 49 = .ok (.ireturn, 1) := by decide +kernel
theorem dX0_chooseHeirs_0 : decode cX0_chooseHeirs 0 = .ok (.iconst 0, 1) := by decide +kernel
theorem dX0_chooseHeirs_1 : decode cX0_chooseHeirs 1 = .ok (.istore 4, 2) := by decide +kernel
theorem dX0_chooseHeirs_3 : decode cX0_chooseHeirs 3 = .ok (.iload 4, 2) := by decide +kernel
theorem dX0_chooseHeirs_5 : decode cX0_chooseHeirs 5 = .ok (.aload_n 0, 1) := by decide +kernel
theorem dX0_chooseHeirs_6 : decode cX0_chooseHeirs 6 = .ok (.getfield 34, 3) := by decide +kernel
theorem dX0_chooseHeirs_9 : decode cX0_chooseHeirs 9 = .ok (.if_icmp .ge 114, 3) := by decide +kernel
theorem dX0_chooseHeirs_12 : decode cX0_chooseHeirs 12 = .ok (.aload_n 0, 1) := by decide +kernel
theorem dX0_chooseHeirs_13 : decode cX0_chooseHeirs 13 = .ok (.invokevirtual 49, 3) := by decide +kernel
theorem dX0_chooseHeirs_16 : decode cX0_chooseHeirs 16 = .ok (.ifCond .ne 107, 3) := by decide +kernel
theorem dX0_chooseHeirs_19 : decode cX0_chooseHeirs 19 = .ok (.aload_n 0, 1) := by decide +kernel
theorem dX0_chooseHeirs_20 : decode cX0_chooseHeirs 20 = .ok (.getfield 15, 3) := by decide +kernel
theorem dX0_chooseHeirs_23 : decode cX0_chooseHeirs 23 = .ok (.iload_n 1, 1) := by decide +kernel
theorem dX0_chooseHeirs_24 : decode cX0_chooseHeirs 24 = .ok (.iconst 4, 1) := by decide +kernel
theorem dX0_chooseHeirs_25 : decode cX0_chooseHeirs 25 = .ok (.imul, 1) := by decide +kernel
theorem dX0_chooseHeirs_26 : decode cX0_chooseHeirs 26 = .ok (.iload 4, 2) := by decide +kernel
theorem dX0_chooseHeirs_28 : decode cX0_chooseHeirs 28 = .ok (.iadd, 1) := by decide +kernel
theorem dX0_chooseHeirs_29 : decode cX0_chooseHeirs 29 = .ok (.iaload, 1) := by decide +kernel
theorem dX0_chooseHeirs_30 : decode cX0_chooseHeirs 30 = .ok (.istore 5, 2) := by decide +kernel
theorem dX0_chooseHeirs_32 : decode cX0_chooseHeirs 32 = .ok (.iload_n 3, 1) := by decide +kernel
theorem dX0_chooseHeirs_33 : decode cX0_chooseHeirs 33 = .ok (.iload 5, 2) := by decide +kernel
theorem dX0_chooseHeirs_35 : decode cX0_chooseHeirs 35 = .ok (.invokestatic 61, 3) := by decide +kernel
theorem dX0_chooseHeirs_38 : decode cX0_chooseHeirs 38 = .ok (.istore 6, 2) := by decide +kernel
theorem dX0_chooseHeirs_40 : decode cX0_chooseHeirs 40 = .ok (.aload_n 0, 1) := by decide +kernel
theorem dX0_chooseHeirs_41 : decode cX0_chooseHeirs 41 = .ok (.getfield 30, 3) := by decide +kernel
theorem dX0_chooseHeirs_44 : decode cX0_chooseHeirs 44 = .ok (.ifCond .eq 22, 3) := by decide +kernel
theorem dX0_chooseHeirs_47 : decode cX0_chooseHeirs 47 = .ok (.aload_n 0, 1) := by decide +kernel
theorem dX0_chooseHeirs_48 : decode cX0_chooseHeirs 48 = .ok (.iload 4, 2) := by decide +kernel
theorem dX0_chooseHeirs_50 : decode cX0_chooseHeirs 50 = .ok (.iload 5, 2) := by decide +kernel
theorem dX0_chooseHeirs_52 : decode cX0_chooseHeirs 52 = .ok (.invokevirtual 83, 3) := by decide +kernel
theorem dX0_chooseHeirs_55 : decode cX0_chooseHeirs 55 = .ok (.ifCond .ne 7, 3) := by decide +kernel
theorem dX0_chooseHeirs_58 : decode cX0_chooseHeirs 58 = .ok (.iconst 1, 1) := by decide +kernel
theorem dX0_chooseHeirs_59 : decode cX0_chooseHeirs 59 = .ok (.goto 21, 3) := by decide +kernel
theorem dX0_chooseHeirs_62 : decode cX0_chooseHeirs 62 = .ok (.iconst 0, 1) := by decide +kernel
theorem dX0_chooseHeirs_63 : decode cX0_chooseHeirs 63 = .ok (.goto 17, 3) := by decide +kernel
theorem dX0_chooseHeirs_66 : decode cX0_chooseHeirs 66 = .ok (.iload 6, 2) := by decide +kernel
theorem dX0_chooseHeirs_68 : decode cX0_chooseHeirs 68 = .ok (.aload_n 0, 1) := by decide +kernel
theorem dX0_chooseHeirs_69 : decode cX0_chooseHeirs 69 = .ok (.getfield 38, 3) := by decide +kernel
theorem dX0_chooseHeirs_72 : decode cX0_chooseHeirs 72 = .ok (.if_icmp .le 7, 3) := by decide +kernel
theorem dX0_chooseHeirs_75 : decode cX0_chooseHeirs 75 = .ok (.iconst 1, 1) := by decide +kernel
theorem dX0_chooseHeirs_76 : decode cX0_chooseHeirs 76 = .ok (.goto 4, 3) := by decide +kernel
theorem dX0_chooseHeirs_79 : decode cX0_chooseHeirs 79 = .ok (.iconst 0, 1) := by decide +kernel
theorem dX0_chooseHeirs_80 : decode cX0_chooseHeirs 80 = .ok (.istore 7, 2) := by decide +kernel
theorem dX0_chooseHeirs_82 : decode cX0_chooseHeirs 82 = .ok (.iload_n 2, 1) := by decide +kernel
theorem dX0_chooseHeirs_83 : decode cX0_chooseHeirs 83 = .ok (.iload 4, 2) := by decide +kernel
theorem dX0_chooseHeirs_85 : decode cX0_chooseHeirs 85 = .ok (.ishr, 1) := by decide +kernel
theorem dX0_chooseHeirs_86 : decode cX0_chooseHeirs 86 = .ok (.iconst 1, 1) := by decide +kernel
theorem dX0_chooseHeirs_87 : decode cX0_chooseHeirs 87 = .ok (.iand, 1) := by decide +kernel
theorem dX0_chooseHeirs_88 : decode cX0_chooseHeirs 88 = .ok (.ifCond .ne 29, 3) := by decide +kernel
theorem dX0_chooseHeirs_91 : decode cX0_chooseHeirs 91 = .ok (.iload 7, 2) := by decide +kernel
theorem dX0_chooseHeirs_93 : decode cX0_chooseHeirs 93 = .ok (.ifCond .eq 24, 3) := by decide +kernel
theorem dX0_chooseHeirs_96 : decode cX0_chooseHeirs 96 = .ok (.aload_n 0, 1) := by decide +kernel
theorem dX0_chooseHeirs_97 : decode cX0_chooseHeirs 97 = .ok (.getfield 21, 3) := by decide +kernel
theorem dX0_chooseHeirs_100 : decode cX0_chooseHeirs 100 = .ok (.iload_n 1, 1) := by decide +kernel
theorem dX0_chooseHeirs_101 : decode cX0_chooseHeirs 101 = .ok (.iload 4, 2) := by decide +kernel
theorem dX0_chooseHeirs_103 : decode cX0_chooseHeirs 103 = .ok (.iastore, 1) := by decide +kernel
theorem dX0_chooseHeirs_104 : decode cX0_chooseHeirs 104 = .ok (.aload_n 0, 1) := by decide +kernel
theorem dX0_chooseHeirs_105 : decode cX0_chooseHeirs 105 = .ok (.iload_n 1, 1) := by decide +kernel
theorem dX0_chooseHeirs_106 : decode cX0_chooseHeirs 106 = .ok (.iload_n 2, 1) := by decide +kernel
theorem dX0_chooseHeirs_107 : decode cX0_chooseHeirs 107 = .ok (.iconst 1, 1) := by decide +kernel
theorem dX0_chooseHeirs_108 : decode cX0_chooseHeirs 108 = .ok (.iload 4, 2) := by decide +kernel
theorem dX0_chooseHeirs_110 : decode cX0_chooseHeirs 110 = .ok (.ishl, 1) := by decide +kernel
theorem dX0_chooseHeirs_111 : decode cX0_chooseHeirs 111 = .ok (.ior, 1) := by decide +kernel
theorem dX0_chooseHeirs_112 : decode cX0_chooseHeirs 112 = .ok (.iload 6, 2) := by decide +kernel
theorem dX0_chooseHeirs_114 : decode cX0_chooseHeirs 114 = .ok (.invokevirtual 86, 3) := by decide +kernel
theorem dX0_chooseHeirs_117 : decode cX0_chooseHeirs 117 = .ok (.iinc 4 1, 3) := by decide +kernel
theorem dX0_chooseHeirs_120 : decode cX0_chooseHeirs 120 = .ok (.goto (-117), 3) := by decide +kernel
theorem dX0_chooseHeirs_123 : decode cX0_chooseHeirs 123 = .ok (.return_, 1) := by decide +kernel
theorem dX0_chooseBehind_0 : decode cX0_chooseBehind 0 = .ok (.iload_n 1, 1) := by decide +kernel
theorem dX0_chooseBehind_1 : decode cX0_chooseBehind 1 = .ok (.iconst 1, 1) := by decide +kernel
theorem dX0_chooseBehind_2 : decode cX0_chooseBehind 2 = .ok (.iadd, 1) := by decide +kernel
theorem dX0_chooseBehind_3 : decode cX0_chooseBehind 3 = .ok (.aload_n 0, 1) := by decide +kernel
theorem dX0_chooseBehind_4 : decode cX0_chooseBehind 4 = .ok (.getfield 34, 3) := by decide +kernel
theorem dX0_chooseBehind_7 : decode cX0_chooseBehind 7 = .ok (.if_icmp .ge 15, 3) := by decide +kernel
theorem dX0_chooseBehind_10 : decode cX0_chooseBehind 10 = .ok (.aload_n 0, 1) := by decide +kernel
theorem dX0_chooseBehind_11 : decode cX0_chooseBehind 11 = .ok (.iload_n 1, 1) := by decide +kernel
theorem dX0_chooseBehind_12 : decode cX0_chooseBehind 12 = .ok (.iconst 1, 1) := by decide +kernel
theorem dX0_chooseBehind_13 : decode cX0_chooseBehind 13 = .ok (.iadd, 1) := by decide +kernel
theorem dX0_chooseBehind_14 : decode cX0_chooseBehind 14 = .ok (.iload_n 2, 1) := by decide +kernel
theorem dX0_chooseBehind_15 : decode cX0_chooseBehind 15 = .ok (.iload_n 3, 1) := by decide +kernel
theorem dX0_chooseBehind_16 : decode cX0_chooseBehind 16 = .ok (.invokevirtual 57, 3) := by decide +kernel
theorem dX0_chooseBehind_19 : decode cX0_chooseBehind 19 = .ok (.goto 8, 3) := by decide +kernel
theorem dX0_chooseBehind_22 : decode cX0_chooseBehind 22 = .ok (.aload_n 0, 1) := by decide +kernel
theorem dX0_chooseBehind_23 : decode cX0_chooseBehind 23 = .ok (.iload_n 3, 1) := by decide +kernel
theorem dX0_chooseBehind_24 : decode cX0_chooseBehind 24 = .ok (.invokevirtual 89, 3) := by decide +kernel
theorem dX0_chooseBehind_27 : decode cX0_chooseBehind 27 = .ok (.return_, 1) := by decide +kernel
theorem dX0_isEnvious_0 : decode cX0_isEnvious 0 = .ok (.iconst 0, 1) := by decide +kernel
theorem dX0_isEnvious_1 : decode cX0_isEnvious 1 = .ok (.istore_n 3, 1) := by decide +kernel
theorem dX0_isEnvious_2 : decode cX0_isEnvious 2 = .ok (.iconst 0, 1) := by decide +kernel
theorem dX0_isEnvious_3 : decode cX0_isEnvious 3 = .ok (.istore 4, 2) := by decide +kernel
theorem dX0_isEnvious_5 : decode cX0_isEnvious 5 = .ok (.iload 4, 2) := by decide +kernel
theorem dX0_isEnvious_7 : decode cX0_isEnvious 7 = .ok (.aload_n 0, 1) := by decide +kernel
theorem dX0_isEnvious_8 : decode cX0_isEnvious 8 = .ok (.getfield 34, 3) := by decide +kernel
theorem dX0_isEnvious_11 : decode cX0_isEnvious 11 = .ok (.if_icmp .ge 32, 3) := by decide +kernel
theorem dX0_isEnvious_14 : decode cX0_isEnvious 14 = .ok (.iload_n 3, 1) := by decide +kernel
theorem dX0_isEnvious_15 : decode cX0_isEnvious 15 = .ok (.aload_n 0, 1) := by decide +kernel
theorem dX0_isEnvious_16 : decode cX0_isEnvious 16 = .ok (.getfield 15, 3) := by decide +kernel
theorem dX0_isEnvious_19 : decode cX0_isEnvious 19 = .ok (.iload 4, 2) := by decide +kernel
theorem dX0_isEnvious_21 : decode cX0_isEnvious 21 = .ok (.iconst 4, 1) := by decide +kernel
theorem dX0_isEnvious_22 : decode cX0_isEnvious 22 = .ok (.imul, 1) := by decide +kernel
theorem dX0_isEnvious_23 : decode cX0_isEnvious 23 = .ok (.iload_n 1, 1) := by decide +kernel
theorem dX0_isEnvious_24 : decode cX0_isEnvious 24 = .ok (.iadd, 1) := by decide +kernel
theorem dX0_isEnvious_25 : decode cX0_isEnvious 25 = .ok (.iaload, 1) := by decide +kernel
theorem dX0_isEnvious_26 : decode cX0_isEnvious 26 = .ok (.iload_n 2, 1) := by decide +kernel
theorem dX0_isEnvious_27 : decode cX0_isEnvious 27 = .ok (.if_icmp .le 7, 3) := by decide +kernel
theorem dX0_isEnvious_30 : decode cX0_isEnvious 30 = .ok (.iconst 1, 1) := by decide +kernel
theorem dX0_isEnvious_31 : decode cX0_isEnvious 31 = .ok (.goto 4, 3) := by decide +kernel
theorem dX0_isEnvious_34 : decode cX0_isEnvious 34 = .ok (.iconst 0, 1) := by decide +kernel
theorem dX0_isEnvious_35 : decode cX0_isEnvious 35 = .ok (.ior, 1) := by decide +kernel
theorem dX0_isEnvious_36 : decode cX0_isEnvious 36 = .ok (.istore_n 3, 1) := by decide +kernel
theorem dX0_isEnvious_37 : decode cX0_isEnvious 37 = .ok (.iinc 4 1, 3) := by decide +kernel
theorem dX0_isEnvious_40 : decode cX0_isEnvious 40 = .ok (.goto (-35), 3) := by decide +kernel
theorem dX0_isEnvious_43 : decode cX0_isEnvious 43 = .ok (.iload_n 3, 1) := by decide +kernel
theorem dX0_isEnvious_44 : decode cX0_isEnvious 44 = .ok (.ireturn, 1) := by decide +kernel
theorem dX0_keep_0 : decode cX0_keep 0 = .ok (.aload_n 0, 1) := by decide +kernel
theorem dX0_keep_1 : decode cX0_keep 1 = .ok (.iload_n 1, 1) := by decide +kernel
theorem dX0_keep_2 : decode cX0_keep 2 = .ok (.putfield 38, 3) := by decide +kernel
theorem dX0_keep_5 : decode cX0_keep 5 = .ok (.aload_n 0, 1) := by decide +kernel
theorem dX0_keep_6 : decode cX0_keep 6 = .ok (.getfield 18, 3) := by decide +kernel
theorem dX0_keep_9 : decode cX0_keep 9 = .ok (.iconst 0, 1) := by decide +kernel
theorem dX0_keep_10 : decode cX0_keep 10 = .ok (.aload_n 0, 1) := by decide +kernel
theorem dX0_keep_11 : decode cX0_keep 11 = .ok (.getfield 24, 3) := by decide +kernel
theorem dX0_keep_14 : decode cX0_keep 14 = .ok (.iconst 0, 1) := by decide +kernel
theorem dX0_keep_15 : decode cX0_keep 15 = .ok (.aload_n 0, 1) := by decide +kernel
theorem dX0_keep_16 : decode cX0_keep 16 = .ok (.getfield 34, 3) := by decide +kernel
theorem dX0_keep_19 : decode cX0_keep 19 = .ok (.invokestatic 93, 3) := by decide +kernel
theorem dX0_keep_22 : decode cX0_keep 22 = .ok (.aload_n 0, 1) := by decide +kernel
theorem dX0_keep_23 : decode cX0_keep 23 = .ok (.getfield 21, 3) := by decide +kernel
theorem dX0_keep_26 : decode cX0_keep 26 = .ok (.iconst 0, 1) := by decide +kernel
theorem dX0_keep_27 : decode cX0_keep 27 = .ok (.aload_n 0, 1) := by decide +kernel
theorem dX0_keep_28 : decode cX0_keep 28 = .ok (.getfield 27, 3) := by decide +kernel
theorem dX0_keep_31 : decode cX0_keep 31 = .ok (.iconst 0, 1) := by decide +kernel
theorem dX0_keep_32 : decode cX0_keep 32 = .ok (.aload_n 0, 1) := by decide +kernel
theorem dX0_keep_33 : decode cX0_keep 33 = .ok (.getfield 34, 3) := by decide +kernel
theorem dX0_keep_36 : decode cX0_keep 36 = .ok (.invokestatic 93, 3) := by decide +kernel
theorem dX0_keep_39 : decode cX0_keep 39 = .ok (.return_, 1) := by decide +kernel
theorem dX1_init_0 : decode cX1_init 0 = .ok (.aload_n 0, 1) := by decide +kernel
theorem dX1_init_1 : decode cX1_init 1 = .ok (.invokespecial 3, 3) := by decide +kernel
theorem dX1_init_4 : decode cX1_init 4 = .ok (.aload_n 0, 1) := by decide +kernel
theorem dX1_init_5 : decode cX1_init 5 = .ok (.sipush 480, 3) := by decide +kernel
theorem dX1_init_8 : decode cX1_init 8 = .ok (.newarray .int, 2) := by decide +kernel
theorem dX1_init_10 : decode cX1_init 10 = .ok (.putfield 11, 3) := by decide +kernel
theorem dX1_init_13 : decode cX1_init 13 = .ok (.aload_n 0, 1) := by decide +kernel
theorem dX1_init_14 : decode cX1_init 14 = .ok (.bipush 120, 2) := by decide +kernel
theorem dX1_init_16 : decode cX1_init 16 = .ok (.newarray .int, 2) := by decide +kernel
theorem dX1_init_18 : decode cX1_init 18 = .ok (.putfield 15, 3) := by decide +kernel
theorem dX1_init_21 : decode cX1_init 21 = .ok (.aload_n 0, 1) := by decide +kernel
theorem dX1_init_22 : decode cX1_init 22 = .ok (.bipush 120, 2) := by decide +kernel
theorem dX1_init_24 : decode cX1_init 24 = .ok (.newarray .int, 2) := by decide +kernel
theorem dX1_init_26 : decode cX1_init 26 = .ok (.putfield 18, 3) := by decide +kernel
theorem dX1_init_29 : decode cX1_init 29 = .ok (.aload_n 0, 1) := by decide +kernel
theorem dX1_init_30 : decode cX1_init 30 = .ok (.bipush 120, 2) := by decide +kernel
theorem dX1_init_32 : decode cX1_init 32 = .ok (.newarray .boolean, 2) := by decide +kernel
theorem dX1_init_34 : decode cX1_init 34 = .ok (.putfield 21, 3) := by decide +kernel
theorem dX1_init_37 : decode cX1_init 37 = .ok (.return_, 1) := by decide +kernel
theorem dX1_lengthFor_0 : decode cX1_lengthFor 0 = .ok (.iconst 0, 1) := by decide +kernel
theorem dX1_lengthFor_1 : decode cX1_lengthFor 1 = .ok (.istore_n 3, 1) := by decide +kernel
theorem dX1_lengthFor_2 : decode cX1_lengthFor 2 = .ok (.iload_n 3, 1) := by decide +kernel
theorem dX1_lengthFor_3 : decode cX1_lengthFor 3 = .ok (.iconst 5, 1) := by decide +kernel
theorem dX1_lengthFor_4 : decode cX1_lengthFor 4 = .ok (.if_icmp .ge 73, 3) := by decide +kernel
theorem dX1_lengthFor_7 : decode cX1_lengthFor 7 = .ok (.iconst 0, 1) := by decide +kernel
theorem dX1_lengthFor_8 : decode cX1_lengthFor 8 = .ok (.istore 4, 2) := by decide +kernel
theorem dX1_lengthFor_10 : decode cX1_lengthFor 10 = .ok (.iload 4, 2) := by decide +kernel
theorem dX1_lengthFor_12 : decode cX1_lengthFor 12 = .ok (.bipush 24, 2) := by decide +kernel
theorem dX1_lengthFor_14 : decode cX1_lengthFor 14 = .ok (.if_icmp .ge 57, 3) := by decide +kernel
theorem dX1_lengthFor_17 : decode cX1_lengthFor 17 = .ok (.iload_n 3, 1) := by decide +kernel
theorem dX1_lengthFor_18 : decode cX1_lengthFor 18 = .ok (.bipush 24, 2) := by decide +kernel
theorem dX1_lengthFor_20 : decode cX1_lengthFor 20 = .ok (.imul, 1) := by decide +kernel
theorem dX1_lengthFor_21 : decode cX1_lengthFor 21 = .ok (.iload 4, 2) := by decide +kernel
theorem dX1_lengthFor_23 : decode cX1_lengthFor 23 = .ok (.iadd, 1) := by decide +kernel
theorem dX1_lengthFor_24 : decode cX1_lengthFor 24 = .ok (.istore 5, 2) := by decide +kernel
theorem dX1_lengthFor_26 : decode cX1_lengthFor 26 = .ok (.aload_n 0, 1) := by decide +kernel
theorem dX1_lengthFor_27 : decode cX1_lengthFor 27 = .ok (.getfield 21, 3) := by decide +kernel
theorem dX1_lengthFor_30 : decode cX1_lengthFor 30 = .ok (.iload 5, 2) := by decide +kernel
theorem dX1_lengthFor_32 : decode cX1_lengthFor 32 = .ok (.aload_n 2, 1) := by decide +kernel
theorem dX1_lengthFor_33 : decode cX1_lengthFor 33 = .ok (.iload_n 3, 1) := by decide +kernel
theorem dX1_lengthFor_34 : decode cX1_lengthFor 34 = .ok (.iload 4, 2) := by decide +kernel
theorem dX1_lengthFor_36 : decode cX1_lengthFor 36 = .ok (.invokevirtual 25, 3) := by decide +kernel
theorem dX1_lengthFor_39 : decode cX1_lengthFor 39 = .ok (.ifCond .ne 17, 3) := by decide +kernel
theorem dX1_lengthFor_42 : decode cX1_lengthFor 42 = .ok (.aload_n 2, 1) := by decide +kernel
theorem dX1_lengthFor_43 : decode cX1_lengthFor 43 = .ok (.iload 4, 2) := by decide +kernel
theorem dX1_lengthFor_45 : decode cX1_lengthFor 45 = .ok (.invokevirtual 31, 3) := by decide +kernel
theorem dX1_lengthFor_48 : decode cX1_lengthFor 48 = .ok (.iload_n 1, 1) := by decide +kernel
theorem dX1_lengthFor_49 : decode cX1_lengthFor 49 = .ok (.if_icmp .eq 7, 3) := by decide +kernel
theorem dX1_lengthFor_52 : decode cX1_lengthFor 52 = .ok (.iconst 1, 1) := by decide +kernel
theorem dX1_lengthFor_53 : decode cX1_lengthFor 53 = .ok (.goto 4, 3) := by decide +kernel
theorem dX1_lengthFor_56 : decode cX1_lengthFor 56 = .ok (.iconst 0, 1) := by decide +kernel
theorem dX1_lengthFor_57 : decode cX1_lengthFor 57 = .ok (.bastore, 1) := by decide +kernel
theorem dX1_lengthFor_58 : decode cX1_lengthFor 58 = .ok (.aload_n 0, 1) := by decide +kernel
theorem dX1_lengthFor_59 : decode cX1_lengthFor 59 = .ok (.iload 5, 2) := by decide +kernel
theorem dX1_lengthFor_61 : decode cX1_lengthFor 61 = .ok (.iload_n 3, 1) := by decide +kernel
theorem dX1_lengthFor_62 : decode cX1_lengthFor 62 = .ok (.invokevirtual 35, 3) := by decide +kernel
theorem dX1_lengthFor_65 : decode cX1_lengthFor 65 = .ok (.iinc 4 1, 3) := by decide +kernel
theorem dX1_lengthFor_68 : decode cX1_lengthFor 68 = .ok (.goto (-58), 3) := by decide +kernel
theorem dX1_lengthFor_71 : decode cX1_lengthFor 71 = .ok (.iinc 3 1, 3) := by decide +kernel
theorem dX1_lengthFor_74 : decode cX1_lengthFor 74 = .ok (.goto (-72), 3) := by decide +kernel
theorem dX1_lengthFor_77 : decode cX1_lengthFor 77 = .ok (.iconst 0, 1) := by decide +kernel
theorem dX1_lengthFor_78 : decode cX1_lengthFor 78 = .ok (.istore_n 3, 1) := by decide +kernel
theorem dX1_lengthFor_79 : decode cX1_lengthFor 79 = .ok (.iconst 0, 1) := by decide +kernel
theorem dX1_lengthFor_80 : decode cX1_lengthFor 80 = .ok (.istore 4, 2) := by decide +kernel
theorem dX1_lengthFor_82 : decode cX1_lengthFor 82 = .ok (.iload 4, 2) := by decide +kernel
theorem dX1_lengthFor_84 : decode cX1_lengthFor 84 = .ok (.sipush 1000, 3) := by decide +kernel
theorem dX1_lengthFor_87 : decode cX1_lengthFor 87 = .ok (.if_icmp .ge 36, 3) := by decide +kernel
theorem dX1_lengthFor_90 : decode cX1_lengthFor 90 = .ok (.aload_n 0, 1) := by decide +kernel
theorem dX1_lengthFor_91 : decode cX1_lengthFor 91 = .ok (.iload_n 1, 1) := by decide +kernel
theorem dX1_lengthFor_92 : decode cX1_lengthFor 92 = .ok (.aload_n 2, 1) := by decide +kernel
theorem dX1_lengthFor_93 : decode cX1_lengthFor 93 = .ok (.invokevirtual 39, 3) := by decide +kernel
theorem dX1_lengthFor_96 : decode cX1_lengthFor 96 = .ok (.istore 5, 2) := by decide +kernel
theorem dX1_lengthFor_98 : decode cX1_lengthFor 98 = .ok (.iload 5, 2) := by decide +kernel
theorem dX1_lengthFor_100 : decode cX1_lengthFor 100 = .ok (.bipush (-6), 2) := by decide +kernel
theorem dX1_lengthFor_102 : decode cX1_lengthFor 102 = .ok (.if_icmp .ne 6, 3) := by decide +kernel
theorem dX1_lengthFor_105 : decode cX1_lengthFor 105 = .ok (.goto 18, 3) := by decide +kernel
theorem dX1_lengthFor_108 : decode cX1_lengthFor 108 = .ok (.iload_n 3, 1) := by decide +kernel
theorem dX1_lengthFor_109 : decode cX1_lengthFor 109 = .ok (.aload_n 0, 1) := by decide +kernel
theorem dX1_lengthFor_110 : decode cX1_lengthFor 110 = .ok (.iload 5, 2) := by decide +kernel
theorem dX1_lengthFor_112 : decode cX1_lengthFor 112 = .ok (.invokevirtual 43, 3) := by decide +kernel
theorem dX1_lengthFor_115 : decode cX1_lengthFor 115 = .ok (.iadd, 1) := by decide +kernel
theorem dX1_lengthFor_116 : decode cX1_lengthFor 116 = .ok (.istore_n 3, 1) := by decide +kernel
theorem dX1_lengthFor_117 : decode cX1_lengthFor 117 = .ok (.iinc 4 1, 3) := by decide +kernel
theorem dX1_lengthFor_120 : decode cX1_lengthFor 120 = .ok (.goto (-38), 3) := by decide +kernel
theorem dX1_lengthFor_123 : decode cX1_lengthFor 123 = .ok (.iload_n 3, 1) := by decide +kernel
theorem dX1_lengthFor_124 : decode cX1_lengthFor 124 = .ok (.ireturn, 1) := by decide +kernel
theorem dX1_openSides_0 : decode cX1_openSides 0 = .ok (.aload_n 0, 1) := by decide +kernel
theorem dX1_openSides_1 : decode cX1_openSides 1 = .ok (.getfield 11, 3) := by decide +kernel
theorem dX1_openSides_4 : decode cX1_openSides 4 = .ok (.iload_n 1, 1) := by decide +kernel
theorem dX1_openSides_5 : decode cX1_openSides 5 = .ok (.iconst 4, 1) := by decide +kernel
theorem dX1_openSides_6 : decode cX1_openSides 6 = .ok (.imul, 1) := by decide +kernel
theorem dX1_openSides_7 : decode cX1_openSides 7 = .ok (.iconst 0, 1) := by decide +kernel
theorem dX1_openSides_8 : decode cX1_openSides 8 = .ok (.iadd, 1) := by decide +kernel
theorem dX1_openSides_9 : decode cX1_openSides 9 = .ok (.iconst 2, 1) := by decide +kernel
theorem dX1_openSides_10 : decode cX1_openSides 10 = .ok (.iastore, 1) := by decide +kernel
theorem dX1_openSides_11 : decode cX1_openSides 11 = .ok (.aload_n 0, 1) := by decide +kernel
theorem dX1_openSides_12 : decode cX1_openSides 12 = .ok (.getfield 11, 3) := by decide +kernel
theorem dX1_openSides_15 : decode cX1_openSides 15 = .ok (.iload_n 1, 1) := by decide +kernel
theorem dX1_openSides_16 : decode cX1_openSides 16 = .ok (.iconst 4, 1) := by decide +kernel
theorem dX1_openSides_17 : decode cX1_openSides 17 = .ok (.imul, 1) := by decide +kernel
theorem dX1_openSides_18 : decode cX1_openSides 18 = .ok (.iconst 1, 1) := by decide +kernel
theorem dX1_openSides_19 : decode cX1_openSides 19 = .ok (.iadd, 1) := by decide +kernel
theorem dX1_openSides_20 : decode cX1_openSides 20 = .ok (.iconst 2, 1) := by decide +kernel
theorem dX1_openSides_21 : decode cX1_openSides 21 = .ok (.iastore, 1) := by decide +kernel
theorem dX1_openSides_22 : decode cX1_openSides 22 = .ok (.aload_n 0, 1) := by decide +kernel
theorem dX1_openSides_23 : decode cX1_openSides 23 = .ok (.getfield 11, 3) := by decide +kernel
theorem dX1_openSides_26 : decode cX1_openSides 26 = .ok (.iload_n 1, 1) := by decide +kernel
theorem dX1_openSides_27 : decode cX1_openSides 27 = .ok (.iconst 4, 1) := by decide +kernel
theorem dX1_openSides_28 : decode cX1_openSides 28 = .ok (.imul, 1) := by decide +kernel
theorem dX1_openSides_29 : decode cX1_openSides 29 = .ok (.iconst 2, 1) := by decide +kernel
theorem dX1_openSides_30 : decode cX1_openSides 30 = .ok (.iadd, 1) := by decide +kernel
theorem dX1_openSides_31 : decode cX1_openSides 31 = .ok (.iload_n 2, 1) := by decide +kernel
theorem dX1_openSides_32 : decode cX1_openSides 32 = .ok (.iconst 1, 1) := by decide +kernel
theorem dX1_openSides_33 : decode cX1_openSides 33 = .ok (.iadd, 1) := by decide +kernel
theorem dX1_openSides_34 : decode cX1_openSides 34 = .ok (.iconst 5, 1) := by decide +kernel
theorem dX1_openSides_35 : decode cX1_openSides 35 = .ok (.if_icmp .ge 9, 3) := by decide +kernel
theorem dX1_openSides_38 : decode cX1_openSides 38 = .ok (.iconst 5, 1) := by decide +kernel
theorem dX1_openSides_39 : decode cX1_openSides 39 = .ok (.iload_n 2, 1) := by decide +kernel
theorem dX1_openSides_40 : decode cX1_openSides 40 = .ok (.isub, 1) := by decide +kernel
theorem dX1_openSides_41 : decode cX1_openSides 41 = .ok (.goto 4, 3) := by decide +kernel
theorem dX1_openSides_44 : decode cX1_openSides 44 = .ok (.iconst 0, 1) := by decide +kernel
theorem dX1_openSides_45 : decode cX1_openSides 45 = .ok (.iastore, 1) := by decide +kernel
theorem dX1_openSides_46 : decode cX1_openSides 46 = .ok (.aload_n 0, 1) := by decide +kernel
theorem dX1_openSides_47 : decode cX1_openSides 47 = .ok (.getfield 11, 3) := by decide +kernel
theorem dX1_openSides_50 : decode cX1_openSides 50 = .ok (.iload_n 1, 1) := by decide +kernel
theorem dX1_openSides_51 : decode cX1_openSides 51 = .ok (.iconst 4, 1) := by decide +kernel
theorem dX1_openSides_52 : decode cX1_openSides 52 = .ok (.imul, 1) := by decide +kernel
theorem dX1_openSides_53 : decode cX1_openSides 53 = .ok (.iconst 3, 1) := by decide +kernel
theorem dX1_openSides_54 : decode cX1_openSides 54 = .ok (.iadd, 1) := by decide +kernel
theorem dX1_openSides_55 : decode cX1_openSides 55 = .ok (.iload_n 2, 1) := by decide +kernel
theorem dX1_openSides_56 : decode cX1_openSides 56 = .ok (.ifCond .le 11, 3) := by decide +kernel
theorem dX1_openSides_59 : decode cX1_openSides 59 = .ok (.iconst 5, 1) := by decide +kernel
theorem dX1_openSides_60 : decode cX1_openSides 60 = .ok (.iload_n 2, 1) := by decide +kernel
theorem dX1_openSides_61 : decode cX1_openSides 61 = .ok (.iconst 1, 1) := by decide +kernel
theorem dX1_openSides_62 : decode cX1_openSides 62 = .ok (.isub, 1) := by decide +kernel
theorem dX1_openSides_63 : decode cX1_openSides 63 = .ok (.isub, 1) := by decide +kernel
theorem dX1_openSides_64 : decode cX1_openSides 64 = .ok (.goto 4, 3) := by decide +kernel
theorem dX1_openSides_67 : decode cX1_openSides 67 = .ok (.iconst 0, 1) := by decide +kernel
theorem dX1_openSides_68 : decode cX1_openSides 68 = .ok (.iastore, 1) := by decide +kernel
theorem dX1_openSides_69 : decode cX1_openSides 69 = .ok (.return_, 1) := by decide +kernel
theorem dX1_seekGoal_0 : decode cX1_seekGoal 0 = .ok (.aload_n 0, 1) := by decide +kernel
theorem dX1_seekGoal_1 : decode cX1_seekGoal 1 = .ok (.iconst 0, 1) := by decide +kernel
theorem dX1_seekGoal_2 : decode cX1_seekGoal 2 = .ok (.putfield 46, 3) := by decide +kernel
theorem dX1_seekGoal_5 : decode cX1_seekGoal 5 = .ok (.iconst 0, 1) := by decide +kernel
theorem dX1_seekGoal_6 : decode cX1_seekGoal 6 = .ok (.istore_n 3, 1) := by decide +kernel
theorem dX1_seekGoal_7 : decode cX1_seekGoal 7 = .ok (.iload_n 3, 1) := by decide +kernel
theorem dX1_seekGoal_8 : decode cX1_seekGoal 8 = .ok (.bipush 120, 2) := by decide +kernel
theorem dX1_seekGoal_10 : decode cX1_seekGoal 10 = .ok (.if_icmp .ge 52, 3) := by decide +kernel
theorem dX1_seekGoal_13 : decode cX1_seekGoal 13 = .ok (.aload_n 0, 1) := by decide +kernel
theorem dX1_seekGoal_14 : decode cX1_seekGoal 14 = .ok (.getfield 15, 3) := by decide +kernel
theorem dX1_seekGoal_17 : decode cX1_seekGoal 17 = .ok (.iload_n 3, 1) := by decide +kernel
theorem dX1_seekGoal_18 : decode cX1_seekGoal 18 = .ok (.iconst (-1), 1) := by decide +kernel
theorem dX1_seekGoal_19 : decode cX1_seekGoal 19 = .ok (.iastore, 1) := by decide +kernel
theorem dX1_seekGoal_20 : decode cX1_seekGoal 20 = .ok (.iload_n 3, 1) := by decide +kernel
theorem dX1_seekGoal_21 : decode cX1_seekGoal 21 = .ok (.bipush 24, 2) := by decide +kernel
theorem dX1_seekGoal_23 : decode cX1_seekGoal 23 = .ok (.irem, 1) := by decide +kernel
theorem dX1_seekGoal_24 : decode cX1_seekGoal 24 = .ok (.istore 4, 2) := by decide +kernel
theorem dX1_seekGoal_26 : decode cX1_seekGoal 26 = .ok (.aload_n 2, 1) := by decide +kernel
theorem dX1_seekGoal_27 : decode cX1_seekGoal 27 = .ok (.iload_n 3, 1) := by decide +kernel
theorem dX1_seekGoal_28 : decode cX1_seekGoal 28 = .ok (.bipush 24, 2) := by decide +kernel
theorem dX1_seekGoal_30 : decode cX1_seekGoal 30 = .ok (.idiv, 1) := by decide +kernel
theorem dX1_seekGoal_31 : decode cX1_seekGoal 31 = .ok (.iload 4, 2) := by decide +kernel
theorem dX1_seekGoal_33 : decode cX1_seekGoal 33 = .ok (.invokevirtual 25, 3) := by decide +kernel
theorem dX1_seekGoal_36 : decode cX1_seekGoal 36 = .ok (.iconst 2, 1) := by decide +kernel
theorem dX1_seekGoal_37 : decode cX1_seekGoal 37 = .ok (.if_icmp .ne 19, 3) := by decide +kernel
theorem dX1_seekGoal_40 : decode cX1_seekGoal 40 = .ok (.aload_n 2, 1) := by decide +kernel
theorem dX1_seekGoal_41 : decode cX1_seekGoal 41 = .ok (.iload 4, 2) := by decide +kernel
theorem dX1_seekGoal_43 : decode cX1_seekGoal 43 = .ok (.invokevirtual 31, 3) := by decide +kernel
theorem dX1_seekGoal_46 : decode cX1_seekGoal 46 = .ok (.iload_n 1, 1) := by decide +kernel
theorem dX1_seekGoal_47 : decode cX1_seekGoal 47 = .ok (.if_icmp .ne 9, 3) := by decide +kernel
theorem dX1_seekGoal_50 : decode cX1_seekGoal 50 = .ok (.aload_n 0, 1) := by decide +kernel
theorem dX1_seekGoal_51 : decode cX1_seekGoal 51 = .ok (.iload_n 3, 1) := by decide +kernel
theorem dX1_seekGoal_52 : decode cX1_seekGoal 52 = .ok (.iconst 4, 1) := by decide +kernel
theorem dX1_seekGoal_53 : decode cX1_seekGoal 53 = .ok (.invokevirtual 50, 3) := by decide +kernel
theorem dX1_seekGoal_56 : decode cX1_seekGoal 56 = .ok (.iinc 3 1, 3) := by decide +kernel
theorem dX1_seekGoal_59 : decode cX1_seekGoal 59 = .ok (.goto (-52), 3) := by decide +kernel
theorem dX1_seekGoal_62 : decode cX1_seekGoal 62 = .ok (.iconst 0, 1) := by decide +kernel
theorem dX1_seekGoal_63 : decode cX1_seekGoal 63 = .ok (.istore_n 3, 1) := by decide +kernel
theorem dX1_seekGoal_64 : decode cX1_seekGoal 64 = .ok (.iload_n 3, 1) := by decide +kernel
theorem dX1_seekGoal_65 : decode cX1_seekGoal 65 = .ok (.aload_n 0, 1) := by decide +kernel
theorem dX1_seekGoal_66 : decode cX1_seekGoal 66 = .ok (.getfield 46, 3) := by decide +kernel
theorem dX1_seekGoal_69 : decode cX1_seekGoal 69 = .ok (.if_icmp .ge 79, 3) := by decide +kernel
theorem dX1_seekGoal_72 : decode cX1_seekGoal 72 = .ok (.iload_n 3, 1) := by decide +kernel
theorem dX1_seekGoal_73 : decode cX1_seekGoal 73 = .ok (.bipush 120, 2) := by decide +kernel
theorem dX1_seekGoal_75 : decode cX1_seekGoal 75 = .ok (.if_icmp .ge 73, 3) := by decide +kernel
theorem dX1_seekGoal_78 : decode cX1_seekGoal 78 = .ok (.aload_n 0, 1) := by decide +kernel
theorem dX1_seekGoal_79 : decode cX1_seekGoal 79 = .ok (.getfield 18, 3) := by decide +kernel
theorem dX1_seekGoal_82 : decode cX1_seekGoal 82 = .ok (.iload_n 3, 1) := by decide +kernel
theorem dX1_seekGoal_83 : decode cX1_seekGoal 83 = .ok (.iaload, 1) := by decide +kernel
theorem dX1_seekGoal_84 : decode cX1_seekGoal 84 = .ok (.istore 4, 2) := by decide +kernel
theorem dX1_seekGoal_86 : decode cX1_seekGoal 86 = .ok (.aload_n 0, 1) := by decide +kernel
theorem dX1_seekGoal_87 : decode cX1_seekGoal 87 = .ok (.getfield 21, 3) := by decide +kernel
theorem dX1_seekGoal_90 : decode cX1_seekGoal 90 = .ok (.iload 4, 2) := by decide +kernel
theorem dX1_seekGoal_92 : decode cX1_seekGoal 92 = .ok (.baload, 1) := by decide +kernel
theorem dX1_seekGoal_93 : decode cX1_seekGoal 93 = .ok (.ifCond .eq 6, 3) := by decide +kernel
theorem dX1_seekGoal_96 : decode cX1_seekGoal 96 = .ok (.iload 4, 2) := by decide +kernel
theorem dX1_seekGoal_98 : decode cX1_seekGoal 98 = .ok (.ireturn, 1) := by decide +kernel
theorem dX1_seekGoal_99 : decode cX1_seekGoal 99 = .ok (.iconst 0, 1) := by decide +kernel
theorem dX1_seekGoal_100 : decode cX1_seekGoal 100 = .ok (.istore 5, 2) := by decide +kernel
theorem dX1_seekGoal_102 : decode cX1_seekGoal 102 = .ok (.iload 5, 2) := by decide +kernel
theorem dX1_seekGoal_104 : decode cX1_seekGoal 104 = .ok (.iconst 4, 1) := by decide +kernel
theorem dX1_seekGoal_105 : decode cX1_seekGoal 105 = .ok (.if_icmp .ge 37, 3) := by decide +kernel
theorem dX1_seekGoal_108 : decode cX1_seekGoal 108 = .ok (.aload_n 0, 1) := by decide +kernel
theorem dX1_seekGoal_109 : decode cX1_seekGoal 109 = .ok (.getfield 11, 3) := by decide +kernel
theorem dX1_seekGoal_112 : decode cX1_seekGoal 112 = .ok (.iload 4, 2) := by decide +kernel
theorem dX1_seekGoal_114 : decode cX1_seekGoal 114 = .ok (.iconst 4, 1) := by decide +kernel
theorem dX1_seekGoal_115 : decode cX1_seekGoal 115 = .ok (.imul, 1) := by decide +kernel
theorem dX1_seekGoal_116 : decode cX1_seekGoal 116 = .ok (.iload 5, 2) := by decide +kernel
theorem dX1_seekGoal_118 : decode cX1_seekGoal 118 = .ok (.iadd, 1) := by decide +kernel
theorem dX1_seekGoal_119 : decode cX1_seekGoal 119 = .ok (.iaload, 1) := by decide +kernel
theorem dX1_seekGoal_120 : decode cX1_seekGoal 120 = .ok (.ifCond .le 16, 3) := by decide +kernel
theorem dX1_seekGoal_123 : decode cX1_seekGoal 123 = .ok (.aload_n 0, 1) := by decide +kernel
theorem dX1_seekGoal_124 : decode cX1_seekGoal 124 = .ok (.iload 4, 2) := by decide +kernel
theorem dX1_seekGoal_126 : decode cX1_seekGoal 126 = .ok (.iload 5, 2) := by decide +kernel
theorem dX1_seekGoal_128 : decode cX1_seekGoal 128 = .ok (.invokestatic 53, 3) := by decide +kernel
theorem dX1_seekGoal_131 : decode cX1_seekGoal 131 = .ok (.iload 5, 2) := by decide +kernel
theorem dX1_seekGoal_133 : decode cX1_seekGoal 133 = .ok (.invokevirtual 50, 3) := by decide +kernel
theorem dX1_seekGoal_136 : decode cX1_seekGoal 136 = .ok (.iinc 5 1, 3) := by decide +kernel
theorem dX1_seekGoal_139 : decode cX1_seekGoal 139 = .ok (.goto (-37), 3) := by decide +kernel
theorem dX1_seekGoal_142 : decode cX1_seekGoal 142 = .ok (.iinc 3 1, 3) := by decide +kernel
theorem dX1_seekGoal_145 : decode cX1_seekGoal 145 = .ok (.goto (-81), 3) := by decide +kernel
theorem dX1_seekGoal_148 : decode cX1_seekGoal 148 = .ok (.bipush (-6), 2) := by decide +kernel
theorem dX1_seekGoal_150 : decode cX1_seekGoal 150 = .ok (.ireturn, 1) := by decide +kernel
theorem dX1_reach_0 : decode cX1_reach 0 = .ok (.aload_n 0, 1) := by decide +kernel
theorem dX1_reach_1 : decode cX1_reach 1 = .ok (.getfield 15, 3) := by decide +kernel
theorem dX1_reach_4 : decode cX1_reach 4 = .ok (.iload_n 1, 1) := by decide +kernel
theorem dX1_reach_5 : decode cX1_reach 5 = .ok (.iaload, 1) := by decide +kernel
theorem dX1_reach_6 : decode cX1_reach 6 = .ok (.iconst (-1), 1) := by decide +kernel
theorem dX1_reach_7 : decode cX1_reach 7 = .ok (.if_icmp .ne 39, 3) := by decide +kernel
theorem dX1_reach_10 : decode cX1_reach 10 = .ok (.aload_n 0, 1) := by decide +kernel
theorem dX1_reach_11 : decode cX1_reach 11 = .ok (.getfield 46, 3) := by decide +kernel
theorem dX1_reach_14 : decode cX1_reach 14 = .ok (.bipush 120, 2) := by decide +kernel
theorem dX1_reach_16 : decode cX1_reach 16 = .ok (.if_icmp .ge 30, 3) := by decide +kernel
theorem dX1_reach_19 : decode cX1_reach 19 = .ok (.aload_n 0, 1) := by decide +kernel
theorem dX1_reach_20 : decode cX1_reach 20 = .ok (.getfield 15, 3) := by decide +kernel
theorem dX1_reach_23 : decode cX1_reach 23 = .ok (.iload_n 1, 1) := by decide +kernel
theorem dX1_reach_24 : decode cX1_reach 24 = .ok (.iload_n 2, 1) := by decide +kernel
theorem dX1_reach_25 : decode cX1_reach 25 = .ok (.iastore, 1) := by decide +kernel
theorem dX1_reach_26 : decode cX1_reach 26 = .ok (.aload_n 0, 1) := by decide +kernel
theorem dX1_reach_27 : decode cX1_reach 27 = .ok (.getfield 18, 3) := by decide +kernel
theorem dX1_reach_30 : decode cX1_reach 30 = .ok (.aload_n 0, 1) := by decide +kernel
theorem dX1_reach_31 : decode cX1_reach 31 = .ok (.getfield 46, 3) := by decide +kernel
theorem dX1_reach_34 : decode cX1_reach 34 = .ok (.iload_n 1, 1) := by decide +kernel
theorem dX1_reach_35 : decode cX1_reach 35 = .ok (.iastore, 1) := by decide +kernel
theorem dX1_reach_36 : decode cX1_reach 36 = .ok (.aload_n 0, 1) := by decide +kernel
theorem dX1_reach_37 : decode cX1_reach 37 = .ok (.dup, 1) := by decide +kernel
theorem dX1_reach_38 : decode cX1_reach 38 = .ok (.getfield 46, 3) := by decide +kernel
theorem dX1_reach_41 : decode cX1_reach 41 = .ok (.iconst 1, 1) := by decide +kernel
theorem dX1_reach_42 : decode cX1_reach 42 = .ok (.iadd, 1) := by decide +kernel
theorem dX1_reach_43 : decode cX1_reach 43 = .ok (.putfield 46, 3) := by decide +kernel
theorem dX1_reach_46 : decode cX1_reach 46 = .ok (.return_, 1) := by decide +kernel
theorem dX1_beside_0 : decode cX1_beside 0 = .ok (.iload_n 0, 1) := by decide +kernel
theorem dX1_beside_1 : decode cX1_beside 1 = .ok (.bipush 24, 2) := by decide +kernel
theorem dX1_beside_3 : decode cX1_beside 3 = .ok (.idiv, 1) := by decide +kernel
theorem dX1_beside_4 : decode cX1_beside 4 = .ok (.istore_n 2, 1) := by decide +kernel
theorem dX1_beside_5 : decode cX1_beside 5 = .ok (.iload_n 0, 1) := by decide +kernel
theorem dX1_beside_6 : decode cX1_beside 6 = .ok (.bipush 24, 2) := by decide +kernel
theorem dX1_beside_8 : decode cX1_beside 8 = .ok (.irem, 1) := by decide +kernel
theorem dX1_beside_9 : decode cX1_beside 9 = .ok (.istore_n 3, 1) := by decide +kernel
theorem dX1_beside_10 : decode cX1_beside 10 = .ok (.iload_n 1, 1) := by decide +kernel
theorem dX1_beside_11 : decode cX1_beside 11 = .ok (.tableswitch 57 0 2 #[25, 37, 52], 25) := by decide +kernel
theorem dX1_beside_36 : decode cX1_beside 36 = .ok (.iload_n 2, 1) := by decide +kernel
theorem dX1_beside_37 : decode cX1_beside 37 = .ok (.bipush 24, 2) := by decide +kernel
theorem dX1_beside_39 : decode cX1_beside 39 = .ok (.imul, 1) := by decide +kernel
theorem dX1_beside_40 : decode cX1_beside 40 = .ok (.iload_n 3, 1) := by decide +kernel
theorem dX1_beside_41 : decode cX1_beside 41 = .ok (.iconst 1, 1) := by decide +kernel
theorem dX1_beside_42 : decode cX1_beside 42 = .ok (.iadd, 1) := by decide +kernel
theorem dX1_beside_43 : decode cX1_beside 43 = .ok (.bipush 24, 2) := by decide +kernel
theorem dX1_beside_45 : decode cX1_beside 45 = .ok (.irem, 1) := by decide +kernel
theorem dX1_beside_46 : decode cX1_beside 46 = .ok (.iadd, 1) := by decide +kernel
theorem dX1_beside_47 : decode cX1_beside 47 = .ok (.ireturn, 1) := by decide +kernel
theorem dX1_beside_48 : decode cX1_beside 48 = .ok (.iload_n 2, 1) := by decide +kernel
theorem dX1_beside_49 : decode cX1_beside 49 = .ok (.bipush 24, 2) := by decide +kernel
theorem dX1_beside_51 : decode cX1_beside 51 = .ok (.imul, 1) := by decide +kernel
theorem dX1_beside_52 : decode cX1_beside 52 = .ok (.iload_n 3, 1) := by decide +kernel
theorem dX1_beside_53 : decode cX1_beside 53 = .ok (.bipush 24, 2) := by decide +kernel
theorem dX1_beside_55 : decode cX1_beside 55 = .ok (.iadd, 1) := by decide +kernel
theorem dX1_beside_56 : decode cX1_beside 56 = .ok (.iconst 1, 1) := by decide +kernel
theorem dX1_beside_57 : decode cX1_beside 57 = .ok (.isub, 1) := by decide +kernel
theorem dX1_beside_58 : decode cX1_beside 58 = .ok (.bipush 24, 2) := by decide +kernel
theorem dX1_beside_60 : decode cX1_beside 60 = .ok (.irem, 1) := by decide +kernel
theorem dX1_beside_61 : decode cX1_beside 61 = .ok (.iadd, 1) := by decide +kernel
theorem dX1_beside_62 : decode cX1_beside 62 = .ok (.ireturn, 1) := by decide +kernel
theorem dX1_beside_63 : decode cX1_beside 63 = .ok (.iload_n 0, 1) := by decide +kernel
theorem dX1_beside_64 : decode cX1_beside 64 = .ok (.bipush 24, 2) := by decide +kernel
theorem dX1_beside_66 : decode cX1_beside 66 = .ok (.iadd, 1) := by decide +kernel
theorem dX1_beside_67 : decode cX1_beside 67 = .ok (.ireturn, 1) := by decide +kernel
theorem dX1_beside_68 : decode cX1_beside 68 = .ok (.iload_n 0, 1) := by decide +kernel
theorem dX1_beside_69 : decode cX1_beside 69 = .ok (.bipush 24, 2) := by decide +kernel
theorem dX1_beside_71 : decode cX1_beside 71 = .ok (.isub, 1) := by decide +kernel
theorem dX1_beside_72 : decode cX1_beside 72 = .ok (.ireturn, 1) := by decide +kernel
theorem dX1_opposite_0 : decode cX1_opposite 0 = .ok (.iload_n 0, 1) := by decide +kernel
theorem dX1_opposite_1 : decode cX1_opposite 1 = .ok (.iconst 1, 1) := by decide +kernel
theorem dX1_opposite_2 : decode cX1_opposite 2 = .ok (.ixor, 1) := by decide +kernel
theorem dX1_opposite_3 : decode cX1_opposite 3 = .ok (.ireturn, 1) := by decide +kernel
theorem dX1_streamTo_0 : decode cX1_streamTo 0 = .ok (.sipush 1000, 3) := by decide +kernel
theorem dX1_streamTo_3 : decode cX1_streamTo 3 = .ok (.istore_n 2, 1) := by decide +kernel
theorem dX1_streamTo_4 : decode cX1_streamTo 4 = .ok (.iload_n 1, 1) := by decide +kernel
theorem dX1_streamTo_5 : decode cX1_streamTo 5 = .ok (.istore_n 3, 1) := by decide +kernel
theorem dX1_streamTo_6 : decode cX1_streamTo 6 = .ok (.iconst 0, 1) := by decide +kernel
theorem dX1_streamTo_7 : decode cX1_streamTo 7 = .ok (.istore 4, 2) := by decide +kernel
theorem dX1_streamTo_9 : decode cX1_streamTo 9 = .ok (.aload_n 0, 1) := by decide +kernel
theorem dX1_streamTo_10 : decode cX1_streamTo 10 = .ok (.getfield 15, 3) := by decide +kernel
theorem dX1_streamTo_13 : decode cX1_streamTo 13 = .ok (.iload_n 3, 1) := by decide +kernel
theorem dX1_streamTo_14 : decode cX1_streamTo 14 = .ok (.iaload, 1) := by decide +kernel
theorem dX1_streamTo_15 : decode cX1_streamTo 15 = .ok (.iconst 4, 1) := by decide +kernel
theorem dX1_streamTo_16 : decode cX1_streamTo 16 = .ok (.if_icmp .eq 50, 3) := by decide +kernel
theorem dX1_streamTo_19 : decode cX1_streamTo 19 = .ok (.iload 4, 2) := by decide +kernel
theorem dX1_streamTo_21 : decode cX1_streamTo 21 = .ok (.bipush 120, 2) := by decide +kernel
theorem dX1_streamTo_23 : decode cX1_streamTo 23 = .ok (.if_icmp .ge 43, 3) := by decide +kernel
theorem dX1_streamTo_26 : decode cX1_streamTo 26 = .ok (.aload_n 0, 1) := by decide +kernel
theorem dX1_streamTo_27 : decode cX1_streamTo 27 = .ok (.getfield 15, 3) := by decide +kernel
theorem dX1_streamTo_30 : decode cX1_streamTo 30 = .ok (.iload_n 3, 1) := by decide +kernel
theorem dX1_streamTo_31 : decode cX1_streamTo 31 = .ok (.iaload, 1) := by decide +kernel
theorem dX1_streamTo_32 : decode cX1_streamTo 32 = .ok (.istore 5, 2) := by decide +kernel
theorem dX1_streamTo_34 : decode cX1_streamTo 34 = .ok (.iload_n 3, 1) := by decide +kernel
theorem dX1_streamTo_35 : decode cX1_streamTo 35 = .ok (.iload 5, 2) := by decide +kernel
theorem dX1_streamTo_37 : decode cX1_streamTo 37 = .ok (.invokestatic 56, 3) := by decide +kernel
theorem dX1_streamTo_40 : decode cX1_streamTo 40 = .ok (.invokestatic 53, 3) := by decide +kernel
theorem dX1_streamTo_43 : decode cX1_streamTo 43 = .ok (.istore_n 3, 1) := by decide +kernel
theorem dX1_streamTo_44 : decode cX1_streamTo 44 = .ok (.iload_n 2, 1) := by decide +kernel
theorem dX1_streamTo_45 : decode cX1_streamTo 45 = .ok (.aload_n 0, 1) := by decide +kernel
theorem dX1_streamTo_46 : decode cX1_streamTo 46 = .ok (.getfield 11, 3) := by decide +kernel
theorem dX1_streamTo_49 : decode cX1_streamTo 49 = .ok (.iload_n 3, 1) := by decide +kernel
theorem dX1_streamTo_50 : decode cX1_streamTo 50 = .ok (.iconst 4, 1) := by decide +kernel
theorem dX1_streamTo_51 : decode cX1_streamTo 51 = .ok (.imul, 1) := by decide +kernel
theorem dX1_streamTo_52 : decode cX1_streamTo 52 = .ok (.iload 5, 2) := by decide +kernel
theorem dX1_streamTo_54 : decode cX1_streamTo 54 = .ok (.iadd, 1) := by decide +kernel
theorem dX1_streamTo_55 : decode cX1_streamTo 55 = .ok (.iaload, 1) := by decide +kernel
theorem dX1_streamTo_56 : decode cX1_streamTo 56 = .ok (.invokestatic 59, 3) := by decide +kernel
theorem dX1_streamTo_59 : decode cX1_streamTo 59 = .ok (.istore_n 2, 1) := by decide +kernel
theorem dX1_streamTo_60 : decode cX1_streamTo 60 = .ok (.iinc 4 1, 3) := by decide +kernel
theorem dX1_streamTo_63 : decode cX1_streamTo 63 = .ok (.goto (-54), 3) := by decide +kernel
theorem dX1_streamTo_66 : decode cX1_streamTo 66 = .ok (.iload_n 1, 1) := by decide +kernel
theorem dX1_streamTo_67 : decode cX1_streamTo 67 = .ok (.istore_n 3, 1) := by decide +kernel
theorem dX1_streamTo_68 : decode cX1_streamTo 68 = .ok (.iconst 0, 1) := by decide +kernel
theorem dX1_streamTo_69 : decode cX1_streamTo 69 = .ok (.istore 4, 2) := by decide +kernel
theorem dX1_streamTo_71 : decode cX1_streamTo 71 = .ok (.aload_n 0, 1) := by decide +kernel
theorem dX1_streamTo_72 : decode cX1_streamTo 72 = .ok (.getfield 15, 3) := by decide +kernel
theorem dX1_streamTo_75 : decode cX1_streamTo 75 = .ok (.iload_n 3, 1) := by decide +kernel
theorem dX1_streamTo_76 : decode cX1_streamTo 76 = .ok (.iaload, 1) := by decide +kernel
theorem dX1_streamTo_77 : decode cX1_streamTo 77 = .ok (.iconst 4, 1) := by decide +kernel
theorem dX1_streamTo_78 : decode cX1_streamTo 78 = .ok (.if_icmp .eq 67, 3) := by decide +kernel
theorem dX1_streamTo_81 : decode cX1_streamTo 81 = .ok (.iload 4, 2) := by decide +kernel
theorem dX1_streamTo_83 : decode cX1_streamTo 83 = .ok (.bipush 120, 2) := by decide +kernel
theorem dX1_streamTo_85 : decode cX1_streamTo 85 = .ok (.if_icmp .ge 60, 3) := by decide +kernel
theorem dX1_streamTo_88 : decode cX1_streamTo 88 = .ok (.aload_n 0, 1) := by decide +kernel
theorem dX1_streamTo_89 : decode cX1_streamTo 89 = .ok (.getfield 15, 3) := by decide +kernel
theorem dX1_streamTo_92 : decode cX1_streamTo 92 = .ok (.iload_n 3, 1) := by decide +kernel
theorem dX1_streamTo_93 : decode cX1_streamTo 93 = .ok (.iaload, 1) := by decide +kernel
theorem dX1_streamTo_94 : decode cX1_streamTo 94 = .ok (.istore 5, 2) := by decide +kernel
theorem dX1_streamTo_96 : decode cX1_streamTo 96 = .ok (.aload_n 0, 1) := by decide +kernel
theorem dX1_streamTo_97 : decode cX1_streamTo 97 = .ok (.getfield 11, 3) := by decide +kernel
theorem dX1_streamTo_100 : decode cX1_streamTo 100 = .ok (.iload_n 3, 1) := by decide +kernel
theorem dX1_streamTo_101 : decode cX1_streamTo 101 = .ok (.iconst 4, 1) := by decide +kernel
theorem dX1_streamTo_102 : decode cX1_streamTo 102 = .ok (.imul, 1) := by decide +kernel
theorem dX1_streamTo_103 : decode cX1_streamTo 103 = .ok (.iload 5, 2) := by decide +kernel
theorem dX1_streamTo_105 : decode cX1_streamTo 105 = .ok (.invokestatic 56, 3) := by decide +kernel
theorem dX1_streamTo_108 : decode cX1_streamTo 108 = .ok (.iadd, 1) := by decide +kernel
theorem dX1_streamTo_109 : decode cX1_streamTo 109 = .ok (.dup2, 1) := by decide +kernel
theorem dX1_streamTo_110 : decode cX1_streamTo 110 = .ok (.iaload, 1) := by decide +kernel
theorem dX1_streamTo_111 : decode cX1_streamTo 111 = .ok (.iload_n 2, 1) := by decide +kernel
theorem dX1_streamTo_112 : decode cX1_streamTo 112 = .ok (.iadd, 1) := by decide +kernel
theorem dX1_streamTo_113 : decode cX1_streamTo 113 = .ok (.iastore, 1) := by decide +kernel
theorem dX1_streamTo_114 : decode cX1_streamTo 114 = .ok (.iload_n 3, 1) := by decide +kernel
theorem dX1_streamTo_115 : decode cX1_streamTo 115 = .ok (.iload 5, 2) := by decide +kernel
theorem dX1_streamTo_117 : decode cX1_streamTo 117 = .ok (.invokestatic 56, 3) := by decide +kernel
theorem dX1_streamTo_120 : decode cX1_streamTo 120 = .ok (.invokestatic 53, 3) := by decide +kernel
theorem dX1_streamTo_123 : decode cX1_streamTo 123 = .ok (.istore_n 3, 1) := by decide +kernel
theorem dX1_streamTo_124 : decode cX1_streamTo 124 = .ok (.aload_n 0, 1) := by decide +kernel
theorem dX1_streamTo_125 : decode cX1_streamTo 125 = .ok (.getfield 11, 3) := by decide +kernel
theorem dX1_streamTo_128 : decode cX1_streamTo 128 = .ok (.iload_n 3, 1) := by decide +kernel
theorem dX1_streamTo_129 : decode cX1_streamTo 129 = .ok (.iconst 4, 1) := by decide +kernel
theorem dX1_streamTo_130 : decode cX1_streamTo 130 = .ok (.imul, 1) := by decide +kernel
theorem dX1_streamTo_131 : decode cX1_streamTo 131 = .ok (.iload 5, 2) := by decide +kernel
theorem dX1_streamTo_133 : decode cX1_streamTo 133 = .ok (.iadd, 1) := by decide +kernel
theorem dX1_streamTo_134 : decode cX1_streamTo 134 = .ok (.dup2, 1) := by decide +kernel
theorem dX1_streamTo_135 : decode cX1_streamTo 135 = .ok (.iaload, 1) := by decide +kernel
theorem dX1_streamTo_136 : decode cX1_streamTo 136 = .ok (.iload_n 2, 1) := by decide +kernel
theorem dX1_streamTo_137 : decode cX1_streamTo 137 = .ok (.isub, 1) := by decide +kernel
theorem dX1_streamTo_138 : decode cX1_streamTo 138 = .ok (.iastore, 1) := by decide +kernel
theorem dX1_streamTo_139 : decode cX1_streamTo 139 = .ok (.iinc 4 1, 3) := by decide +kernel
theorem dX1_streamTo_142 : decode cX1_streamTo 142 = .ok (.goto (-71), 3) := by decide +kernel
theorem dX1_streamTo_145 : decode cX1_streamTo 145 = .ok (.iload_n 2, 1) := by decide +kernel
theorem dX1_streamTo_146 : decode cX1_streamTo 146 = .ok (.ireturn, 1) := by decide +kernel
theorem dX2_init_0 : decode cX2_init 0 = .ok (.aload_n 0, 1) := by decide +kernel
theorem dX2_init_1 : decode cX2_init 1 = .ok (.invokespecial 3, 3) := by decide +kernel
theorem dX2_init_4 : decode cX2_init 4 = .ok (.aload_n 0, 1) := by decide +kernel
theorem dX2_init_5 : decode cX2_init 5 = .ok (.bipush 120, 2) := by decide +kernel
theorem dX2_init_7 : decode cX2_init 7 = .ok (.newarray .int, 2) := by decide +kernel
theorem dX2_init_9 : decode cX2_init 9 = .ok (.putfield 9, 3) := by decide +kernel
theorem dX2_init_12 : decode cX2_init 12 = .ok (.aload_n 0, 1) := by decide +kernel
theorem dX2_init_13 : decode cX2_init 13 = .ok (.sipush 504, 3) := by decide +kernel
theorem dX2_init_16 : decode cX2_init 16 = .ok (.newarray .int, 2) := by decide +kernel
theorem dX2_init_18 : decode cX2_init 18 = .ok (.putfield 15, 3) := by decide +kernel
theorem dX2_init_21 : decode cX2_init 21 = .ok (.aload_n 0, 1) := by decide +kernel
theorem dX2_init_22 : decode cX2_init 22 = .ok (.bipush 30, 2) := by decide +kernel
theorem dX2_init_24 : decode cX2_init 24 = .ok (.newarray .int, 2) := by decide +kernel
theorem dX2_init_26 : decode cX2_init 26 = .ok (.putfield 18, 3) := by decide +kernel
theorem dX2_init_29 : decode cX2_init 29 = .ok (.aload_n 0, 1) := by decide +kernel
theorem dX2_init_30 : decode cX2_init 30 = .ok (.bipush 6, 2) := by decide +kernel
theorem dX2_init_32 : decode cX2_init 32 = .ok (.newarray .int, 2) := by decide +kernel
theorem dX2_init_34 : decode cX2_init 34 = .ok (.putfield 21, 3) := by decide +kernel
theorem dX2_init_37 : decode cX2_init 37 = .ok (.aload_n 0, 1) := by decide +kernel
theorem dX2_init_38 : decode cX2_init 38 = .ok (.iconst 5, 1) := by decide +kernel
theorem dX2_init_39 : decode cX2_init 39 = .ok (.putfield 24, 3) := by decide +kernel
theorem dX2_init_42 : decode cX2_init 42 = .ok (.iconst 0, 1) := by decide +kernel
theorem dX2_init_43 : decode cX2_init 43 = .ok (.istore_n 1, 1) := by decide +kernel
theorem dX2_init_44 : decode cX2_init 44 = .ok (.iload_n 1, 1) := by decide +kernel
theorem dX2_init_45 : decode cX2_init 45 = .ok (.bipush 120, 2) := by decide +kernel
theorem dX2_init_47 : decode cX2_init 47 = .ok (.if_icmp .ge 23, 3) := by decide +kernel
theorem dX2_init_50 : decode cX2_init 50 = .ok (.aload_n 0, 1) := by decide +kernel
theorem dX2_init_51 : decode cX2_init 51 = .ok (.getfield 9, 3) := by decide +kernel
theorem dX2_init_54 : decode cX2_init 54 = .ok (.iload_n 1, 1) := by decide +kernel
theorem dX2_init_55 : decode cX2_init 55 = .ok (.getstatic 28, 3) := by decide +kernel
theorem dX2_init_58 : decode cX2_init 58 = .ok (.iload_n 1, 1) := by decide +kernel
theorem dX2_init_59 : decode cX2_init 59 = .ok (.bipush 24, 2) := by decide +kernel
theorem dX2_init_61 : decode cX2_init 61 = .ok (.idiv, 1) := by decide +kernel
theorem dX2_init_62 : decode cX2_init 62 = .ok (.iaload, 1) := by decide +kernel
theorem dX2_init_63 : decode cX2_init 63 = .ok (.iastore, 1) := by decide +kernel
theorem dX2_init_64 : decode cX2_init 64 = .ok (.iinc 1 1, 3) := by decide +kernel
theorem dX2_init_67 : decode cX2_init 67 = .ok (.goto (-23), 3) := by decide +kernel
theorem dX2_init_70 : decode cX2_init 70 = .ok (.iconst 0, 1) := by decide +kernel
theorem dX2_init_71 : decode cX2_init 71 = .ok (.istore_n 1, 1) := by decide +kernel
theorem dX2_init_72 : decode cX2_init 72 = .ok (.iload_n 1, 1) := by decide +kernel
theorem dX2_init_73 : decode cX2_init 73 = .ok (.bipush 30, 2) := by decide +kernel
theorem dX2_init_75 : decode cX2_init 75 = .ok (.if_icmp .ge 22, 3) := by decide +kernel
theorem dX2_init_78 : decode cX2_init 78 = .ok (.aload_n 0, 1) := by decide +kernel
theorem dX2_init_79 : decode cX2_init 79 = .ok (.getfield 18, 3) := by decide +kernel
theorem dX2_init_82 : decode cX2_init 82 = .ok (.iload_n 1, 1) := by decide +kernel
theorem dX2_init_83 : decode cX2_init 83 = .ok (.getstatic 31, 3) := by decide +kernel
theorem dX2_init_86 : decode cX2_init 86 = .ok (.iload_n 1, 1) := by decide +kernel
theorem dX2_init_87 : decode cX2_init 87 = .ok (.iconst 5, 1) := by decide +kernel
theorem dX2_init_88 : decode cX2_init 88 = .ok (.irem, 1) := by decide +kernel
theorem dX2_init_89 : decode cX2_init 89 = .ok (.iaload, 1) := by decide +kernel
theorem dX2_init_90 : decode cX2_init 90 = .ok (.iastore, 1) := by decide +kernel
theorem dX2_init_91 : decode cX2_init 91 = .ok (.iinc 1 1, 3) := by decide +kernel
theorem dX2_init_94 : decode cX2_init 94 = .ok (.goto (-22), 3) := by decide +kernel
theorem dX2_init_97 : decode cX2_init 97 = .ok (.return_, 1) := by decide +kernel
theorem dX2_copyFrom_0 : decode cX2_copyFrom 0 = .ok (.aload_n 1, 1) := by decide +kernel
theorem dX2_copyFrom_1 : decode cX2_copyFrom 1 = .ok (.getfield 9, 3) := by decide +kernel
theorem dX2_copyFrom_4 : decode cX2_copyFrom 4 = .ok (.iconst 0, 1) := by decide +kernel
theorem dX2_copyFrom_5 : decode cX2_copyFrom 5 = .ok (.aload_n 0, 1) := by decide +kernel
theorem dX2_copyFrom_6 : decode cX2_copyFrom 6 = .ok (.getfield 9, 3) := by decide +kernel
theorem dX2_copyFrom_9 : decode cX2_copyFrom 9 = .ok (.iconst 0, 1) := by decide +kernel
theorem dX2_copyFrom_10 : decode cX2_copyFrom 10 = .ok (.bipush 120, 2) := by decide +kernel
theorem dX2_copyFrom_12 : decode cX2_copyFrom 12 = .ok (.invokestatic 34, 3) := by decide +kernel
theorem dX2_copyFrom_15 : decode cX2_copyFrom 15 = .ok (.aload_n 1, 1) := by decide +kernel
theorem dX2_copyFrom_16 : decode cX2_copyFrom 16 = .ok (.getfield 15, 3) := by decide +kernel
theorem dX2_copyFrom_19 : decode cX2_copyFrom 19 = .ok (.iconst 0, 1) := by decide +kernel
theorem dX2_copyFrom_20 : decode cX2_copyFrom 20 = .ok (.aload_n 0, 1) := by decide +kernel
theorem dX2_copyFrom_21 : decode cX2_copyFrom 21 = .ok (.getfield 15, 3) := by decide +kernel
theorem dX2_copyFrom_24 : decode cX2_copyFrom 24 = .ok (.iconst 0, 1) := by decide +kernel
theorem dX2_copyFrom_25 : decode cX2_copyFrom 25 = .ok (.sipush 504, 3) := by decide +kernel
theorem dX2_copyFrom_28 : decode cX2_copyFrom 28 = .ok (.invokestatic 34, 3) := by decide +kernel
theorem dX2_copyFrom_31 : decode cX2_copyFrom 31 = .ok (.aload_n 1, 1) := by decide +kernel
theorem dX2_copyFrom_32 : decode cX2_copyFrom 32 = .ok (.getfield 18, 3) := by decide +kernel
theorem dX2_copyFrom_35 : decode cX2_copyFrom 35 = .ok (.iconst 0, 1) := by decide +kernel
theorem dX2_copyFrom_36 : decode cX2_copyFrom 36 = .ok (.aload_n 0, 1) := by decide +kernel
theorem dX2_copyFrom_37 : decode cX2_copyFrom 37 = .ok (.getfield 18, 3) := by decide +kernel
theorem dX2_copyFrom_40 : decode cX2_copyFrom 40 = .ok (.iconst 0, 1) := by decide +kernel
theorem dX2_copyFrom_41 : decode cX2_copyFrom 41 = .ok (.bipush 30, 2) := by decide +kernel
theorem dX2_copyFrom_43 : decode cX2_copyFrom 43 = .ok (.invokestatic 34, 3) := by decide +kernel
theorem dX2_copyFrom_46 : decode cX2_copyFrom 46 = .ok (.aload_n 1, 1) := by decide +kernel
theorem dX2_copyFrom_47 : decode cX2_copyFrom 47 = .ok (.getfield 21, 3) := by decide +kernel
theorem dX2_copyFrom_50 : decode cX2_copyFrom 50 = .ok (.iconst 0, 1) := by decide +kernel
theorem dX2_copyFrom_51 : decode cX2_copyFrom 51 = .ok (.aload_n 0, 1) := by decide +kernel
theorem dX2_copyFrom_52 : decode cX2_copyFrom 52 = .ok (.getfield 21, 3) := by decide +kernel
theorem dX2_copyFrom_55 : decode cX2_copyFrom 55 = .ok (.iconst 0, 1) := by decide +kernel
theorem dX2_copyFrom_56 : decode cX2_copyFrom 56 = .ok (.bipush 6, 2) := by decide +kernel
theorem dX2_copyFrom_58 : decode cX2_copyFrom 58 = .ok (.invokestatic 34, 3) := by decide +kernel
theorem dX2_copyFrom_61 : decode cX2_copyFrom 61 = .ok (.aload_n 0, 1) := by decide +kernel
theorem dX2_copyFrom_62 : decode cX2_copyFrom 62 = .ok (.aload_n 1, 1) := by decide +kernel
theorem dX2_copyFrom_63 : decode cX2_copyFrom 63 = .ok (.getfield 40, 3) := by decide +kernel
theorem dX2_copyFrom_66 : decode cX2_copyFrom 66 = .ok (.putfield 40, 3) := by decide +kernel
theorem dX2_copyFrom_69 : decode cX2_copyFrom 69 = .ok (.aload_n 0, 1) := by decide +kernel
theorem dX2_copyFrom_70 : decode cX2_copyFrom 70 = .ok (.aload_n 1, 1) := by decide +kernel
theorem dX2_copyFrom_71 : decode cX2_copyFrom 71 = .ok (.getfield 24, 3) := by decide +kernel
theorem dX2_copyFrom_74 : decode cX2_copyFrom 74 = .ok (.putfield 24, 3) := by decide +kernel
theorem dX2_copyFrom_77 : decode cX2_copyFrom 77 = .ok (.return_, 1) := by decide +kernel
theorem dX2_sortAt_0 : decode cX2_sortAt 0 = .ok (.aload_n 0, 1) := by decide +kernel
theorem dX2_sortAt_1 : decode cX2_sortAt 1 = .ok (.getfield 9, 3) := by decide +kernel
theorem dX2_sortAt_4 : decode cX2_sortAt 4 = .ok (.iload_n 1, 1) := by decide +kernel
theorem dX2_sortAt_5 : decode cX2_sortAt 5 = .ok (.bipush 24, 2) := by decide +kernel
theorem dX2_sortAt_7 : decode cX2_sortAt 7 = .ok (.imul, 1) := by decide +kernel
theorem dX2_sortAt_8 : decode cX2_sortAt 8 = .ok (.iload_n 2, 1) := by decide +kernel
theorem dX2_sortAt_9 : decode cX2_sortAt 9 = .ok (.iadd, 1) := by decide +kernel
theorem dX2_sortAt_10 : decode cX2_sortAt 10 = .ok (.iaload, 1) := by decide +kernel
theorem dX2_sortAt_11 : decode cX2_sortAt 11 = .ok (.ireturn, 1) := by decide +kernel
theorem dX2_setRing_0 : decode cX2_setRing 0 = .ok (.aload_n 2, 1) := by decide +kernel
theorem dX2_setRing_1 : decode cX2_setRing 1 = .ok (.iconst 0, 1) := by decide +kernel
theorem dX2_setRing_2 : decode cX2_setRing 2 = .ok (.aload_n 0, 1) := by decide +kernel
theorem dX2_setRing_3 : decode cX2_setRing 3 = .ok (.getfield 9, 3) := by decide +kernel
theorem dX2_setRing_6 : decode cX2_setRing 6 = .ok (.iload_n 1, 1) := by decide +kernel
theorem dX2_setRing_7 : decode cX2_setRing 7 = .ok (.bipush 24, 2) := by decide +kernel
theorem dX2_setRing_9 : decode cX2_setRing 9 = .ok (.imul, 1) := by decide +kernel
theorem dX2_setRing_10 : decode cX2_setRing 10 = .ok (.bipush 24, 2) := by decide +kernel
theorem dX2_setRing_12 : decode cX2_setRing 12 = .ok (.invokestatic 34, 3) := by decide +kernel
theorem dX2_setRing_15 : decode cX2_setRing 15 = .ok (.return_, 1) := by decide +kernel
theorem dX2_sectorsOfSort_0 : decode cX2_sectorsOfSort 0 = .ok (.iconst 0, 1) := by decide +kernel
theorem dX2_sectorsOfSort_1 : decode cX2_sectorsOfSort 1 = .ok (.istore_n 3, 1) := by decide +kernel
theorem dX2_sectorsOfSort_2 : decode cX2_sectorsOfSort 2 = .ok (.iconst 0, 1) := by decide +kernel
theorem dX2_sectorsOfSort_3 : decode cX2_sectorsOfSort 3 = .ok (.istore 4, 2) := by decide +kernel
theorem dX2_sectorsOfSort_5 : decode cX2_sectorsOfSort 5 = .ok (.iload 4, 2) := by decide +kernel
theorem dX2_sectorsOfSort_7 : decode cX2_sectorsOfSort 7 = .ok (.bipush 24, 2) := by decide +kernel
theorem dX2_sectorsOfSort_9 : decode cX2_sectorsOfSort 9 = .ok (.if_icmp .ge 27, 3) := by decide +kernel
theorem dX2_sectorsOfSort_12 : decode cX2_sectorsOfSort 12 = .ok (.aload_n 0, 1) := by decide +kernel
theorem dX2_sectorsOfSort_13 : decode cX2_sectorsOfSort 13 = .ok (.iload_n 1, 1) := by decide +kernel
theorem dX2_sectorsOfSort_14 : decode cX2_sectorsOfSort 14 = .ok (.iload 4, 2) := by decide +kernel
theorem dX2_sectorsOfSort_16 : decode cX2_sectorsOfSort 16 = .ok (.invokevirtual 43, 3) := by decide +kernel
theorem dX2_sectorsOfSort_19 : decode cX2_sectorsOfSort 19 = .ok (.iload_n 2, 1) := by decide +kernel
theorem dX2_sectorsOfSort_20 : decode cX2_sectorsOfSort 20 = .ok (.if_icmp .ne 10, 3) := by decide +kernel
theorem dX2_sectorsOfSort_23 : decode cX2_sectorsOfSort 23 = .ok (.iload_n 3, 1) := by decide +kernel
theorem dX2_sectorsOfSort_24 : decode cX2_sectorsOfSort 24 = .ok (.iconst 1, 1) := by decide +kernel
theorem dX2_sectorsOfSort_25 : decode cX2_sectorsOfSort 25 = .ok (.iload 4, 2) := by decide +kernel
theorem dX2_sectorsOfSort_27 : decode cX2_sectorsOfSort 27 = .ok (.ishl, 1) := by decide +kernel
theorem dX2_sectorsOfSort_28 : decode cX2_sectorsOfSort 28 = .ok (.ior, 1) := by decide +kernel
theorem dX2_sectorsOfSort_29 : decode cX2_sectorsOfSort 29 = .ok (.istore_n 3, 1) := by decide +kernel
theorem dX2_sectorsOfSort_30 : decode cX2_sectorsOfSort 30 = .ok (.iinc 4 1, 3) := by decide +kernel
theorem dX2_sectorsOfSort_33 : decode cX2_sectorsOfSort 33 = .ok (.goto (-28), 3) := by decide +kernel
theorem dX2_sectorsOfSort_36 : decode cX2_sectorsOfSort 36 = .ok (.iload_n 3, 1) := by decide +kernel
theorem dX2_sectorsOfSort_37 : decode cX2_sectorsOfSort 37 = .ok (.ireturn, 1) := by decide +kernel
theorem dX2_ownerBehind_0 : decode cX2_ownerBehind 0 = .ok (.aload_n 0, 1) := by decide +kernel
theorem dX2_ownerBehind_1 : decode cX2_ownerBehind 1 = .ok (.getfield 15, 3) := by decide +kernel
theorem dX2_ownerBehind_4 : decode cX2_ownerBehind 4 = .ok (.iload_n 1, 1) := by decide +kernel
theorem dX2_ownerBehind_5 : decode cX2_ownerBehind 5 = .ok (.bipush 24, 2) := by decide +kernel
theorem dX2_ownerBehind_7 : decode cX2_ownerBehind 7 = .ok (.imul, 1) := by decide +kernel
theorem dX2_ownerBehind_8 : decode cX2_ownerBehind 8 = .ok (.iload_n 2, 1) := by decide +kernel
theorem dX2_ownerBehind_9 : decode cX2_ownerBehind 9 = .ok (.iadd, 1) := by decide +kernel
theorem dX2_ownerBehind_10 : decode cX2_ownerBehind 10 = .ok (.iaload, 1) := by decide +kernel
theorem dX2_ownerBehind_11 : decode cX2_ownerBehind 11 = .ok (.ireturn, 1) := by decide +kernel
theorem dX2_ownerOf_0 : decode cX2_ownerOf 0 = .ok (.aload_n 0, 1) := by decide +kernel
theorem dX2_ownerOf_1 : decode cX2_ownerOf 1 = .ok (.aload_n 0, 1) := by decide +kernel
theorem dX2_ownerOf_2 : decode cX2_ownerOf 2 = .ok (.getfield 40, 3) := by decide +kernel
theorem dX2_ownerOf_5 : decode cX2_ownerOf 5 = .ok (.iload_n 1, 1) := by decide +kernel
theorem dX2_ownerOf_6 : decode cX2_ownerOf 6 = .ok (.invokevirtual 47, 3) := by decide +kernel
theorem dX2_ownerOf_9 : decode cX2_ownerOf 9 = .ok (.ireturn, 1) := by decide +kernel
theorem dX2_sectorsOf_0 : decode cX2_sectorsOf 0 = .ok (.iconst 0, 1) := by decide +kernel
theorem dX2_sectorsOf_1 : decode cX2_sectorsOf 1 = .ok (.istore_n 2, 1) := by decide +kernel
theorem dX2_sectorsOf_2 : decode cX2_sectorsOf 2 = .ok (.iconst 0, 1) := by decide +kernel
theorem dX2_sectorsOf_3 : decode cX2_sectorsOf 3 = .ok (.istore_n 3, 1) := by decide +kernel
theorem dX2_sectorsOf_4 : decode cX2_sectorsOf 4 = .ok (.iload_n 3, 1) := by decide +kernel
theorem dX2_sectorsOf_5 : decode cX2_sectorsOf 5 = .ok (.bipush 24, 2) := by decide +kernel
theorem dX2_sectorsOf_7 : decode cX2_sectorsOf 7 = .ok (.if_icmp .ge 24, 3) := by decide +kernel
theorem dX2_sectorsOf_10 : decode cX2_sectorsOf 10 = .ok (.aload_n 0, 1) := by decide +kernel
theorem dX2_sectorsOf_11 : decode cX2_sectorsOf 11 = .ok (.iload_n 3, 1) := by decide +kernel
theorem dX2_sectorsOf_12 : decode cX2_sectorsOf 12 = .ok (.invokevirtual 50, 3) := by decide +kernel
theorem dX2_sectorsOf_15 : decode cX2_sectorsOf 15 = .ok (.iload_n 1, 1) := by decide +kernel
theorem dX2_sectorsOf_16 : decode cX2_sectorsOf 16 = .ok (.if_icmp .ne 9, 3) := by decide +kernel
theorem dX2_sectorsOf_19 : decode cX2_sectorsOf 19 = .ok (.iload_n 2, 1) := by decide +kernel
theorem dX2_sectorsOf_20 : decode cX2_sectorsOf 20 = .ok (.iconst 1, 1) := by decide +kernel
theorem dX2_sectorsOf_21 : decode cX2_sectorsOf 21 = .ok (.iload_n 3, 1) := by decide +kernel
theorem dX2_sectorsOf_22 : decode cX2_sectorsOf 22 = .ok (.ishl, 1) := by decide +kernel
theorem dX2_sectorsOf_23 : decode cX2_sectorsOf 23 = .ok (.ior, 1) := by decide +kernel
theorem dX2_sectorsOf_24 : decode cX2_sectorsOf 24 = .ok (.istore_n 2, 1) := by decide +kernel
theorem dX2_sectorsOf_25 : decode cX2_sectorsOf 25 = .ok (.iinc 3 1, 3) := by decide +kernel
theorem dX2_sectorsOf_28 : decode cX2_sectorsOf 28 = .ok (.goto (-24), 3) := by decide +kernel
theorem dX2_sectorsOf_31 : decode cX2_sectorsOf 31 = .ok (.iload_n 2, 1) := by decide +kernel
theorem dX2_sectorsOf_32 : decode cX2_sectorsOf 32 = .ok (.ireturn, 1) := by decide +kernel
theorem dX2_ownersOf_0 : decode cX2_ownersOf 0 = .ok (.iconst 0, 1) := by decide +kernel
theorem dX2_ownersOf_1 : decode cX2_ownersOf 1 = .ok (.istore_n 2, 1) := by decide +kernel
theorem dX2_ownersOf_2 : decode cX2_ownersOf 2 = .ok (.iconst 0, 1) := by decide +kernel
theorem dX2_ownersOf_3 : decode cX2_ownersOf 3 = .ok (.istore_n 3, 1) := by decide +kernel
theorem dX2_ownersOf_4 : decode cX2_ownersOf 4 = .ok (.iload_n 3, 1) := by decide +kernel
theorem dX2_ownersOf_5 : decode cX2_ownersOf 5 = .ok (.bipush 24, 2) := by decide +kernel
theorem dX2_ownersOf_7 : decode cX2_ownersOf 7 = .ok (.if_icmp .ge 27, 3) := by decide +kernel
theorem dX2_ownersOf_10 : decode cX2_ownersOf 10 = .ok (.iload_n 1, 1) := by decide +kernel
theorem dX2_ownersOf_11 : decode cX2_ownersOf 11 = .ok (.iload_n 3, 1) := by decide +kernel
theorem dX2_ownersOf_12 : decode cX2_ownersOf 12 = .ok (.ishr, 1) := by decide +kernel
theorem dX2_ownersOf_13 : decode cX2_ownersOf 13 = .ok (.iconst 1, 1) := by decide +kernel
theorem dX2_ownersOf_14 : decode cX2_ownersOf 14 = .ok (.iand, 1) := by decide +kernel
theorem dX2_ownersOf_15 : decode cX2_ownersOf 15 = .ok (.ifCond .eq 13, 3) := by decide +kernel
theorem dX2_ownersOf_18 : decode cX2_ownersOf 18 = .ok (.iload_n 2, 1) := by decide +kernel
theorem dX2_ownersOf_19 : decode cX2_ownersOf 19 = .ok (.iconst 1, 1) := by decide +kernel
theorem dX2_ownersOf_20 : decode cX2_ownersOf 20 = .ok (.aload_n 0, 1) := by decide +kernel
theorem dX2_ownersOf_21 : decode cX2_ownersOf 21 = .ok (.iload_n 3, 1) := by decide +kernel
theorem dX2_ownersOf_22 : decode cX2_ownersOf 22 = .ok (.invokevirtual 50, 3) := by decide +kernel
theorem dX2_ownersOf_25 : decode cX2_ownersOf 25 = .ok (.ishl, 1) := by decide +kernel
theorem dX2_ownersOf_26 : decode cX2_ownersOf 26 = .ok (.ior, 1) := by decide +kernel
theorem dX2_ownersOf_27 : decode cX2_ownersOf 27 = .ok (.istore_n 2, 1) := by decide +kernel
theorem dX2_ownersOf_28 : decode cX2_ownersOf 28 = .ok (.iinc 3 1, 3) := by decide +kernel
theorem dX2_ownersOf_31 : decode cX2_ownersOf 31 = .ok (.goto (-27), 3) := by decide +kernel
theorem dX2_ownersOf_34 : decode cX2_ownersOf 34 = .ok (.iload_n 2, 1) := by decide +kernel
theorem dX2_ownersOf_35 : decode cX2_ownersOf 35 = .ok (.ireturn, 1) := by decide +kernel
theorem dX2_setSlices_0 : decode cX2_setSlices 0 = .ok (.aload_n 0, 1) := by decide +kernel
theorem dX2_setSlices_1 : decode cX2_setSlices 1 = .ok (.iconst 0, 1) := by decide +kernel
theorem dX2_setSlices_2 : decode cX2_setSlices 2 = .ok (.putfield 40, 3) := by decide +kernel
theorem dX2_setSlices_5 : decode cX2_setSlices 5 = .ok (.aload_n 1, 1) := by decide +kernel
theorem dX2_setSlices_6 : decode cX2_setSlices 6 = .ok (.iconst 0, 1) := by decide +kernel
theorem dX2_setSlices_7 : decode cX2_setSlices 7 = .ok (.aload_n 0, 1) := by decide +kernel
theorem dX2_setSlices_8 : decode cX2_setSlices 8 = .ok (.getfield 15, 3) := by decide +kernel
theorem dX2_setSlices_11 : decode cX2_setSlices 11 = .ok (.iconst 0, 1) := by decide +kernel
theorem dX2_setSlices_12 : decode cX2_setSlices 12 = .ok (.bipush 24, 2) := by decide +kernel
theorem dX2_setSlices_14 : decode cX2_setSlices 14 = .ok (.invokestatic 34, 3) := by decide +kernel
theorem dX2_setSlices_17 : decode cX2_setSlices 17 = .ok (.return_, 1) := by decide +kernel
theorem dX2_beginGeneration_0 : decode cX2_beginGeneration 0 = .ok (.aload_n 0, 1) := by decide +kernel
theorem dX2_beginGeneration_1 : decode cX2_beginGeneration 1 = .ok (.getfield 15, 3) := by decide +kernel
theorem dX2_beginGeneration_4 : decode cX2_beginGeneration 4 = .ok (.aload_n 0, 1) := by decide +kernel
theorem dX2_beginGeneration_5 : decode cX2_beginGeneration 5 = .ok (.getfield 40, 3) := by decide +kernel
theorem dX2_beginGeneration_8 : decode cX2_beginGeneration 8 = .ok (.bipush 24, 2) := by decide +kernel
theorem dX2_beginGeneration_10 : decode cX2_beginGeneration 10 = .ok (.imul, 1) := by decide +kernel
theorem dX2_beginGeneration_11 : decode cX2_beginGeneration 11 = .ok (.aload_n 0, 1) := by decide +kernel
theorem dX2_beginGeneration_12 : decode cX2_beginGeneration 12 = .ok (.getfield 15, 3) := by decide +kernel
theorem dX2_beginGeneration_15 : decode cX2_beginGeneration 15 = .ok (.aload_n 0, 1) := by decide +kernel
theorem dX2_beginGeneration_16 : decode cX2_beginGeneration 16 = .ok (.getfield 40, 3) := by decide +kernel
theorem dX2_beginGeneration_19 : decode cX2_beginGeneration 19 = .ok (.iconst 1, 1) := by decide +kernel
theorem dX2_beginGeneration_20 : decode cX2_beginGeneration 20 = .ok (.iadd, 1) := by decide +kernel
theorem dX2_beginGeneration_21 : decode cX2_beginGeneration 21 = .ok (.bipush 24, 2) := by decide +kernel
theorem dX2_beginGeneration_23 : decode cX2_beginGeneration 23 = .ok (.imul, 1) := by decide +kernel
theorem dX2_beginGeneration_24 : decode cX2_beginGeneration 24 = .ok (.bipush 24, 2) := by decide +kernel
theorem dX2_beginGeneration_26 : decode cX2_beginGeneration 26 = .ok (.invokestatic 34, 3) := by decide +kernel
theorem dX2_beginGeneration_29 : decode cX2_beginGeneration 29 = .ok (.aload_n 0, 1) := by decide +kernel
theorem dX2_beginGeneration_30 : decode cX2_beginGeneration 30 = .ok (.dup, 1) := by decide +kernel
theorem dX2_beginGeneration_31 : decode cX2_beginGeneration 31 = .ok (.getfield 40, 3) := by decide +kernel
theorem dX2_beginGeneration_34 : decode cX2_beginGeneration 34 = .ok (.iconst 1, 1) := by decide +kernel
theorem dX2_beginGeneration_35 : decode cX2_beginGeneration 35 = .ok (.iadd, 1) := by decide +kernel
theorem dX2_beginGeneration_36 : decode cX2_beginGeneration 36 = .ok (.putfield 40, 3) := by decide +kernel
theorem dX2_beginGeneration_39 : decode cX2_beginGeneration 39 = .ok (.return_, 1) := by decide +kernel
theorem dX2_give_0 : decode cX2_give 0 = .ok (.aload_n 0, 1) := by decide +kernel
theorem dX2_give_1 : decode cX2_give 1 = .ok (.getfield 15, 3) := by decide +kernel
theorem dX2_give_4 : decode cX2_give 4 = .ok (.aload_n 0, 1) := by decide +kernel
theorem dX2_give_5 : decode cX2_give 5 = .ok (.getfield 40, 3) := by decide +kernel
theorem dX2_give_8 : decode cX2_give 8 = .ok (.bipush 24, 2) := by decide +kernel
theorem dX2_give_10 : decode cX2_give 10 = .ok (.imul, 1) := by decide +kernel
theorem dX2_give_11 : decode cX2_give 11 = .ok (.iload_n 1, 1) := by decide +kernel
theorem dX2_give_12 : decode cX2_give 12 = .ok (.iadd, 1) := by decide +kernel
theorem dX2_give_13 : decode cX2_give 13 = .ok (.iload_n 2, 1) := by decide +kernel
theorem dX2_give_14 : decode cX2_give 14 = .ok (.iastore, 1) := by decide +kernel
theorem dX2_give_15 : decode cX2_give 15 = .ok (.return_, 1) := by decide +kernel
theorem dX2_giveAway_0 : decode cX2_giveAway 0 = .ok (.iconst 0, 1) := by decide +kernel
theorem dX2_giveAway_1 : decode cX2_giveAway 1 = .ok (.istore_n 3, 1) := by decide +kernel
theorem dX2_giveAway_2 : decode cX2_giveAway 2 = .ok (.iconst 0, 1) := by decide +kernel
theorem dX2_giveAway_3 : decode cX2_giveAway 3 = .ok (.istore 4, 2) := by decide +kernel
theorem dX2_giveAway_5 : decode cX2_giveAway 5 = .ok (.iload 4, 2) := by decide +kernel
theorem dX2_giveAway_7 : decode cX2_giveAway 7 = .ok (.bipush 24, 2) := by decide +kernel
theorem dX2_giveAway_9 : decode cX2_giveAway 9 = .ok (.if_icmp .ge 31, 3) := by decide +kernel
theorem dX2_giveAway_12 : decode cX2_giveAway 12 = .ok (.aload_n 0, 1) := by decide +kernel
theorem dX2_giveAway_13 : decode cX2_giveAway 13 = .ok (.iload 4, 2) := by decide +kernel
theorem dX2_giveAway_15 : decode cX2_giveAway 15 = .ok (.invokevirtual 50, 3) := by decide +kernel
theorem dX2_giveAway_18 : decode cX2_giveAway 18 = .ok (.iload_n 1, 1) := by decide +kernel
theorem dX2_giveAway_19 : decode cX2_giveAway 19 = .ok (.if_icmp .ne 15, 3) := by decide +kernel
theorem dX2_giveAway_22 : decode cX2_giveAway 22 = .ok (.aload_n 0, 1) := by decide +kernel
theorem dX2_giveAway_23 : decode cX2_giveAway 23 = .ok (.iload 4, 2) := by decide +kernel
theorem dX2_giveAway_25 : decode cX2_giveAway 25 = .ok (.aload_n 2, 1) := by decide +kernel
theorem dX2_giveAway_26 : decode cX2_giveAway 26 = .ok (.iload_n 3, 1) := by decide +kernel
theorem dX2_giveAway_27 : decode cX2_giveAway 27 = .ok (.iaload, 1) := by decide +kernel
theorem dX2_giveAway_28 : decode cX2_giveAway 28 = .ok (.invokevirtual 54, 3) := by decide +kernel
theorem dX2_giveAway_31 : decode cX2_giveAway 31 = .ok (.iinc 3 1, 3) := by decide +kernel
theorem dX2_giveAway_34 : decode cX2_giveAway 34 = .ok (.iinc 4 1, 3) := by decide +kernel
theorem dX2_giveAway_37 : decode cX2_giveAway 37 = .ok (.goto (-32), 3) := by decide +kernel
theorem dX2_giveAway_40 : decode cX2_giveAway 40 = .ok (.return_, 1) := by decide +kernel
theorem dX2_join_0 : decode cX2_join 0 = .ok (.iconst 0, 1) := by decide +kernel
theorem dX2_join_1 : decode cX2_join 1 = .ok (.istore_n 3, 1) := by decide +kernel
theorem dX2_join_2 : decode cX2_join 2 = .ok (.iload_n 3, 1) := by decide +kernel
theorem dX2_join_3 : decode cX2_join 3 = .ok (.bipush 24, 2) := by decide +kernel
theorem dX2_join_5 : decode cX2_join 5 = .ok (.if_icmp .ge 24, 3) := by decide +kernel
theorem dX2_join_8 : decode cX2_join 8 = .ok (.aload_n 0, 1) := by decide +kernel
theorem dX2_join_9 : decode cX2_join 9 = .ok (.iload_n 3, 1) := by decide +kernel
theorem dX2_join_10 : decode cX2_join 10 = .ok (.invokevirtual 50, 3) := by decide +kernel
theorem dX2_join_13 : decode cX2_join 13 = .ok (.iload_n 2, 1) := by decide +kernel
theorem dX2_join_14 : decode cX2_join 14 = .ok (.if_icmp .ne 9, 3) := by decide +kernel
theorem dX2_join_17 : decode cX2_join 17 = .ok (.aload_n 0, 1) := by decide +kernel
theorem dX2_join_18 : decode cX2_join 18 = .ok (.iload_n 3, 1) := by decide +kernel
theorem dX2_join_19 : decode cX2_join 19 = .ok (.iload_n 1, 1) := by decide +kernel
theorem dX2_join_20 : decode cX2_join 20 = .ok (.invokevirtual 54, 3) := by decide +kernel
theorem dX2_join_23 : decode cX2_join 23 = .ok (.iinc 3 1, 3) := by decide +kernel
theorem dX2_join_26 : decode cX2_join 26 = .ok (.goto (-24), 3) := by decide +kernel
theorem dX2_join_29 : decode cX2_join 29 = .ok (.return_, 1) := by decide +kernel
theorem dX2_setWorth_0 : decode cX2_setWorth 0 = .ok (.aload_n 0, 1) := by decide +kernel
theorem dX2_setWorth_1 : decode cX2_setWorth 1 = .ok (.getfield 18, 3) := by decide +kernel
theorem dX2_setWorth_4 : decode cX2_setWorth 4 = .ok (.iload_n 1, 1) := by decide +kernel
theorem dX2_setWorth_5 : decode cX2_setWorth 5 = .ok (.iconst 5, 1) := by decide +kernel
theorem dX2_setWorth_6 : decode cX2_setWorth 6 = .ok (.imul, 1) := by decide +kernel
theorem dX2_setWorth_7 : decode cX2_setWorth 7 = .ok (.iload_n 2, 1) := by decide +kernel
theorem dX2_setWorth_8 : decode cX2_setWorth 8 = .ok (.iadd, 1) := by decide +kernel
theorem dX2_setWorth_9 : decode cX2_setWorth 9 = .ok (.iaload, 1) := by decide +kernel
theorem dX2_setWorth_10 : decode cX2_setWorth 10 = .ok (.istore 4, 2) := by decide +kernel
theorem dX2_setWorth_12 : decode cX2_setWorth 12 = .ok (.aload_n 0, 1) := by decide +kernel
theorem dX2_setWorth_13 : decode cX2_setWorth 13 = .ok (.getfield 18, 3) := by decide +kernel
theorem dX2_setWorth_16 : decode cX2_setWorth 16 = .ok (.iload_n 1, 1) := by decide +kernel
theorem dX2_setWorth_17 : decode cX2_setWorth 17 = .ok (.iconst 5, 1) := by decide +kernel
theorem dX2_setWorth_18 : decode cX2_setWorth 18 = .ok (.imul, 1) := by decide +kernel
theorem dX2_setWorth_19 : decode cX2_setWorth 19 = .ok (.iload_n 2, 1) := by decide +kernel
theorem dX2_setWorth_20 : decode cX2_setWorth 20 = .ok (.iadd, 1) := by decide +kernel
theorem dX2_setWorth_21 : decode cX2_setWorth 21 = .ok (.iload_n 3, 1) := by decide +kernel
theorem dX2_setWorth_22 : decode cX2_setWorth 22 = .ok (.iastore, 1) := by decide +kernel
theorem dX2_setWorth_23 : decode cX2_setWorth 23 = .ok (.iload 4, 2) := by decide +kernel
theorem dX2_setWorth_25 : decode cX2_setWorth 25 = .ok (.ireturn, 1) := by decide +kernel
theorem dX2_shareOfSector_0 : decode cX2_shareOfSector 0 = .ok (.iconst 0, 1) := by decide +kernel
theorem dX2_shareOfSector_1 : decode cX2_shareOfSector 1 = .ok (.istore_n 3, 1) := by decide +kernel
theorem dX2_shareOfSector_2 : decode cX2_shareOfSector 2 = .ok (.iconst 0, 1) := by decide +kernel
theorem dX2_shareOfSector_3 : decode cX2_shareOfSector 3 = .ok (.istore 4, 2) := by decide +kernel
theorem dX2_shareOfSector_5 : decode cX2_shareOfSector 5 = .ok (.iload 4, 2) := by decide +kernel
theorem dX2_shareOfSector_7 : decode cX2_shareOfSector 7 = .ok (.iconst 5, 1) := by decide +kernel
theorem dX2_shareOfSector_8 : decode cX2_shareOfSector 8 = .ok (.if_icmp .ge 28, 3) := by decide +kernel
theorem dX2_shareOfSector_11 : decode cX2_shareOfSector 11 = .ok (.iload_n 3, 1) := by decide +kernel
theorem dX2_shareOfSector_12 : decode cX2_shareOfSector 12 = .ok (.aload_n 0, 1) := by decide +kernel
theorem dX2_shareOfSector_13 : decode cX2_shareOfSector 13 = .ok (.getfield 18, 3) := by decide +kernel
theorem dX2_shareOfSector_16 : decode cX2_shareOfSector 16 = .ok (.iload_n 1, 1) := by decide +kernel
theorem dX2_shareOfSector_17 : decode cX2_shareOfSector 17 = .ok (.iconst 5, 1) := by decide +kernel
theorem dX2_shareOfSector_18 : decode cX2_shareOfSector 18 = .ok (.imul, 1) := by decide +kernel
theorem dX2_shareOfSector_19 : decode cX2_shareOfSector 19 = .ok (.aload_n 0, 1) := by decide +kernel
theorem dX2_shareOfSector_20 : decode cX2_shareOfSector 20 = .ok (.iload 4, 2) := by decide +kernel
theorem dX2_shareOfSector_22 : decode cX2_shareOfSector 22 = .ok (.iload_n 2, 1) := by decide +kernel
theorem dX2_shareOfSector_23 : decode cX2_shareOfSector 23 = .ok (.invokevirtual 43, 3) := by decide +kernel
theorem dX2_shareOfSector_26 : decode cX2_shareOfSector 26 = .ok (.iadd, 1) := by decide +kernel
theorem dX2_shareOfSector_27 : decode cX2_shareOfSector 27 = .ok (.iaload, 1) := by decide +kernel
theorem dX2_shareOfSector_28 : decode cX2_shareOfSector 28 = .ok (.iadd, 1) := by decide +kernel
theorem dX2_shareOfSector_29 : decode cX2_shareOfSector 29 = .ok (.istore_n 3, 1) := by decide +kernel
theorem dX2_shareOfSector_30 : decode cX2_shareOfSector 30 = .ok (.iinc 4 1, 3) := by decide +kernel
theorem dX2_shareOfSector_33 : decode cX2_shareOfSector 33 = .ok (.goto (-28), 3) := by decide +kernel
theorem dX2_shareOfSector_36 : decode cX2_shareOfSector 36 = .ok (.iload_n 3, 1) := by decide +kernel
theorem dX2_shareOfSector_37 : decode cX2_shareOfSector 37 = .ok (.ireturn, 1) := by decide +kernel
theorem dX2_shareOf_0 : decode cX2_shareOf 0 = .ok (.iconst 0, 1) := by decide +kernel
theorem dX2_shareOf_1 : decode cX2_shareOf 1 = .ok (.istore_n 3, 1) := by decide +kernel
theorem dX2_shareOf_2 : decode cX2_shareOf 2 = .ok (.iconst 0, 1) := by decide +kernel
theorem dX2_shareOf_3 : decode cX2_shareOf 3 = .ok (.istore 4, 2) := by decide +kernel
theorem dX2_shareOf_5 : decode cX2_shareOf 5 = .ok (.iload 4, 2) := by decide +kernel
theorem dX2_shareOf_7 : decode cX2_shareOf 7 = .ok (.bipush 24, 2) := by decide +kernel
theorem dX2_shareOf_9 : decode cX2_shareOf 9 = .ok (.if_icmp .ge 28, 3) := by decide +kernel
theorem dX2_shareOf_12 : decode cX2_shareOf 12 = .ok (.iload_n 2, 1) := by decide +kernel
theorem dX2_shareOf_13 : decode cX2_shareOf 13 = .ok (.iload 4, 2) := by decide +kernel
theorem dX2_shareOf_15 : decode cX2_shareOf 15 = .ok (.ishr, 1) := by decide +kernel
theorem dX2_shareOf_16 : decode cX2_shareOf 16 = .ok (.iconst 1, 1) := by decide +kernel
theorem dX2_shareOf_17 : decode cX2_shareOf 17 = .ok (.iand, 1) := by decide +kernel
theorem dX2_shareOf_18 : decode cX2_shareOf 18 = .ok (.ifCond .eq 13, 3) := by decide +kernel
theorem dX2_shareOf_21 : decode cX2_shareOf 21 = .ok (.iload_n 3, 1) := by decide +kernel
theorem dX2_shareOf_22 : decode cX2_shareOf 22 = .ok (.aload_n 0, 1) := by decide +kernel
theorem dX2_shareOf_23 : decode cX2_shareOf 23 = .ok (.iload_n 1, 1) := by decide +kernel
theorem dX2_shareOf_24 : decode cX2_shareOf 24 = .ok (.iload 4, 2) := by decide +kernel
theorem dX2_shareOf_26 : decode cX2_shareOf 26 = .ok (.invokevirtual 58, 3) := by decide +kernel
theorem dX2_shareOf_29 : decode cX2_shareOf 29 = .ok (.iadd, 1) := by decide +kernel
theorem dX2_shareOf_30 : decode cX2_shareOf 30 = .ok (.istore_n 3, 1) := by decide +kernel
theorem dX2_shareOf_31 : decode cX2_shareOf 31 = .ok (.iinc 4 1, 3) := by decide +kernel
theorem dX2_shareOf_34 : decode cX2_shareOf 34 = .ok (.goto (-29), 3) := by decide +kernel
theorem dX2_shareOf_37 : decode cX2_shareOf 37 = .ok (.iload_n 3, 1) := by decide +kernel
theorem dX2_shareOf_38 : decode cX2_shareOf 38 = .ok (.ireturn, 1) := by decide +kernel
theorem dX2_hasRight_0 : decode cX2_hasRight 0 = .ok (.aload_n 0, 1) := by decide +kernel
theorem dX2_hasRight_1 : decode cX2_hasRight 1 = .ok (.getfield 21, 3) := by decide +kernel
theorem dX2_hasRight_4 : decode cX2_hasRight 4 = .ok (.iload_n 2, 1) := by decide +kernel
theorem dX2_hasRight_5 : decode cX2_hasRight 5 = .ok (.iaload, 1) := by decide +kernel
theorem dX2_hasRight_6 : decode cX2_hasRight 6 = .ok (.iload_n 1, 1) := by decide +kernel
theorem dX2_hasRight_7 : decode cX2_hasRight 7 = .ok (.ishr, 1) := by decide +kernel
theorem dX2_hasRight_8 : decode cX2_hasRight 8 = .ok (.iconst 1, 1) := by decide +kernel
theorem dX2_hasRight_9 : decode cX2_hasRight 9 = .ok (.iand, 1) := by decide +kernel
theorem dX2_hasRight_10 : decode cX2_hasRight 10 = .ok (.ifCond .eq 7, 3) := by decide +kernel
theorem dX2_hasRight_13 : decode cX2_hasRight 13 = .ok (.iconst 1, 1) := by decide +kernel
theorem dX2_hasRight_14 : decode cX2_hasRight 14 = .ok (.goto 4, 3) := by decide +kernel
theorem dX2_hasRight_17 : decode cX2_hasRight 17 = .ok (.iconst 0, 1) := by decide +kernel
theorem dX2_hasRight_18 : decode cX2_hasRight 18 = .ok (.ireturn, 1) := by decide +kernel
theorem dX2_setRight_0 : decode cX2_setRight 0 = .ok (.aload_n 0, 1) := by decide +kernel
theorem dX2_setRight_1 : decode cX2_setRight 1 = .ok (.iload_n 2, 1) := by decide +kernel
theorem dX2_setRight_2 : decode cX2_setRight 2 = .ok (.iload_n 1, 1) := by decide +kernel
theorem dX2_setRight_3 : decode cX2_setRight 3 = .ok (.invokevirtual 61, 3) := by decide +kernel
theorem dX2_setRight_6 : decode cX2_setRight 6 = .ok (.istore 4, 2) := by decide +kernel
theorem dX2_setRight_8 : decode cX2_setRight 8 = .ok (.iconst 1, 1) := by decide +kernel
theorem dX2_setRight_9 : decode cX2_setRight 9 = .ok (.iload_n 2, 1) := by decide +kernel
theorem dX2_setRight_10 : decode cX2_setRight 10 = .ok (.ishl, 1) := by decide +kernel
theorem dX2_setRight_11 : decode cX2_setRight 11 = .ok (.istore 5, 2) := by decide +kernel
theorem dX2_setRight_13 : decode cX2_setRight 13 = .ok (.aload_n 0, 1) := by decide +kernel
theorem dX2_setRight_14 : decode cX2_setRight 14 = .ok (.getfield 21, 3) := by decide +kernel
theorem dX2_setRight_17 : decode cX2_setRight 17 = .ok (.iload_n 1, 1) := by decide +kernel
theorem dX2_setRight_18 : decode cX2_setRight 18 = .ok (.iload_n 3, 1) := by decide +kernel
theorem dX2_setRight_19 : decode cX2_setRight 19 = .ok (.ifCond .eq 15, 3) := by decide +kernel
theorem dX2_setRight_22 : decode cX2_setRight 22 = .ok (.aload_n 0, 1) := by decide +kernel
theorem dX2_setRight_23 : decode cX2_setRight 23 = .ok (.getfield 21, 3) := by decide +kernel
theorem dX2_setRight_26 : decode cX2_setRight 26 = .ok (.iload_n 1, 1) := by decide +kernel
theorem dX2_setRight_27 : decode cX2_setRight 27 = .ok (.iaload, 1) := by decide +kernel
theorem dX2_setRight_28 : decode cX2_setRight 28 = .ok (.iload 5, 2) := by decide +kernel
theorem dX2_setRight_30 : decode cX2_setRight 30 = .ok (.ior, 1) := by decide +kernel
theorem dX2_setRight_31 : decode cX2_setRight 31 = .ok (.goto 14, 3) := by decide +kernel
theorem dX2_setRight_34 : decode cX2_setRight 34 = .ok (.aload_n 0, 1) := by decide +kernel
theorem dX2_setRight_35 : decode cX2_setRight 35 = .ok (.getfield 21, 3) := by decide +kernel
theorem dX2_setRight_38 : decode cX2_setRight 38 = .ok (.iload_n 1, 1) := by decide +kernel
theorem dX2_setRight_39 : decode cX2_setRight 39 = .ok (.iaload, 1) := by decide +kernel
theorem dX2_setRight_40 : decode cX2_setRight 40 = .ok (.iload 5, 2) := by decide +kernel
theorem dX2_setRight_42 : decode cX2_setRight 42 = .ok (.iconst (-1), 1) := by decide +kernel
theorem dX2_setRight_43 : decode cX2_setRight 43 = .ok (.ixor, 1) := by decide +kernel
theorem dX2_setRight_44 : decode cX2_setRight 44 = .ok (.iand, 1) := by decide +kernel
theorem dX2_setRight_45 : decode cX2_setRight 45 = .ok (.iastore, 1) := by decide +kernel
theorem dX2_setRight_46 : decode cX2_setRight 46 = .ok (.iload 4, 2) := by decide +kernel
theorem dX2_setRight_48 : decode cX2_setRight 48 = .ok (.ireturn, 1) := by decide +kernel
theorem dX2_isFreeFor_0 : decode cX2_isFreeFor 0 = .ok (.aload_n 0, 1) := by decide +kernel
theorem dX2_isFreeFor_1 : decode cX2_isFreeFor 1 = .ok (.iload_n 2, 1) := by decide +kernel
theorem dX2_isFreeFor_2 : decode cX2_isFreeFor 2 = .ok (.invokevirtual 50, 3) := by decide +kernel
theorem dX2_isFreeFor_5 : decode cX2_isFreeFor 5 = .ok (.istore_n 3, 1) := by decide +kernel
theorem dX2_isFreeFor_6 : decode cX2_isFreeFor 6 = .ok (.iload_n 3, 1) := by decide +kernel
theorem dX2_isFreeFor_7 : decode cX2_isFreeFor 7 = .ok (.iload_n 1, 1) := by decide +kernel
theorem dX2_isFreeFor_8 : decode cX2_isFreeFor 8 = .ok (.if_icmp .eq 12, 3) := by decide +kernel
theorem dX2_isFreeFor_11 : decode cX2_isFreeFor 11 = .ok (.aload_n 0, 1) := by decide +kernel
theorem dX2_isFreeFor_12 : decode cX2_isFreeFor 12 = .ok (.iload_n 1, 1) := by decide +kernel
theorem dX2_isFreeFor_13 : decode cX2_isFreeFor 13 = .ok (.iload_n 3, 1) := by decide +kernel
theorem dX2_isFreeFor_14 : decode cX2_isFreeFor 14 = .ok (.invokevirtual 61, 3) := by decide +kernel
theorem dX2_isFreeFor_17 : decode cX2_isFreeFor 17 = .ok (.ifCond .eq 7, 3) := by decide +kernel
theorem dX2_isFreeFor_20 : decode cX2_isFreeFor 20 = .ok (.iconst 1, 1) := by decide +kernel
theorem dX2_isFreeFor_21 : decode cX2_isFreeFor 21 = .ok (.goto 4, 3) := by decide +kernel
theorem dX2_isFreeFor_24 : decode cX2_isFreeFor 24 = .ok (.iconst 0, 1) := by decide +kernel
theorem dX2_isFreeFor_25 : decode cX2_isFreeFor 25 = .ok (.ireturn, 1) := by decide +kernel
theorem dX3_init_0 : decode cX3_init 0 = .ok (.aload_n 0, 1) := by decide +kernel
theorem dX3_init_1 : decode cX3_init 1 = .ok (.invokespecial 3, 3) := by decide +kernel
theorem dX3_init_4 : decode cX3_init 4 = .ok (.aload_n 0, 1) := by decide +kernel
theorem dX3_init_5 : decode cX3_init 5 = .ok (.bipush 60, 2) := by decide +kernel
theorem dX3_init_7 : decode cX3_init 7 = .ok (.newarray .char, 2) := by decide +kernel
theorem dX3_init_9 : decode cX3_init 9 = .ok (.putfield 9, 3) := by decide +kernel
theorem dX3_init_12 : decode cX3_init 12 = .ok (.aload_n 0, 1) := by decide +kernel
theorem dX3_init_13 : decode cX3_init 13 = .ok (.bipush 24, 2) := by decide +kernel
theorem dX3_init_15 : decode cX3_init 15 = .ok (.newarray .int, 2) := by decide +kernel
theorem dX3_init_17 : decode cX3_init 17 = .ok (.putfield 15, 3) := by decide +kernel
theorem dX3_init_20 : decode cX3_init 20 = .ok (.return_, 1) := by decide +kernel
theorem dX3_add_0 : decode cX3_add 0 = .ok (.aload_n 0, 1) := by decide +kernel
theorem dX3_add_1 : decode cX3_add 1 = .ok (.getfield 19, 3) := by decide +kernel
theorem dX3_add_4 : decode cX3_add 4 = .ok (.bipush 60, 2) := by decide +kernel
theorem dX3_add_6 : decode cX3_add 6 = .ok (.if_icmp .lt 6, 3) := by decide +kernel
theorem dX3_add_9 : decode cX3_add 9 = .ok (.bipush (-4), 2) := by decide +kernel
theorem dX3_add_11 : decode cX3_add 11 = .ok (.ireturn, 1) := by decide +kernel
theorem dX3_add_12 : decode cX3_add 12 = .ok (.aload_n 0, 1) := by decide +kernel
theorem dX3_add_13 : decode cX3_add 13 = .ok (.getfield 9, 3) := by decide +kernel
theorem dX3_add_16 : decode cX3_add 16 = .ok (.aload_n 0, 1) := by decide +kernel
theorem dX3_add_17 : decode cX3_add 17 = .ok (.getfield 19, 3) := by decide +kernel
theorem dX3_add_20 : decode cX3_add 20 = .ok (.iload_n 1, 1) := by decide +kernel
theorem dX3_add_21 : decode cX3_add 21 = .ok (.castore, 1) := by decide +kernel
theorem dX3_add_22 : decode cX3_add 22 = .ok (.aload_n 0, 1) := by decide +kernel
theorem dX3_add_23 : decode cX3_add 23 = .ok (.dup, 1) := by decide +kernel
theorem dX3_add_24 : decode cX3_add 24 = .ok (.getfield 19, 3) := by decide +kernel
theorem dX3_add_27 : decode cX3_add 27 = .ok (.iconst 1, 1) := by decide +kernel
theorem dX3_add_28 : decode cX3_add 28 = .ok (.iadd, 1) := by decide +kernel
theorem dX3_add_29 : decode cX3_add 29 = .ok (.putfield 19, 3) := by decide +kernel
theorem dX3_add_32 : decode cX3_add 32 = .ok (.aload_n 0, 1) := by decide +kernel
theorem dX3_add_33 : decode cX3_add 33 = .ok (.getfield 19, 3) := by decide +kernel
theorem dX3_add_36 : decode cX3_add 36 = .ok (.ireturn, 1) := by decide +kernel
theorem dX3_empty_0 : decode cX3_empty 0 = .ok (.aload_n 0, 1) := by decide +kernel
theorem dX3_empty_1 : decode cX3_empty 1 = .ok (.getfield 19, 3) := by decide +kernel
theorem dX3_empty_4 : decode cX3_empty 4 = .ok (.istore_n 1, 1) := by decide +kernel
theorem dX3_empty_5 : decode cX3_empty 5 = .ok (.aload_n 0, 1) := by decide +kernel
theorem dX3_empty_6 : decode cX3_empty 6 = .ok (.iconst 0, 1) := by decide +kernel
theorem dX3_empty_7 : decode cX3_empty 7 = .ok (.putfield 19, 3) := by decide +kernel
theorem dX3_empty_10 : decode cX3_empty 10 = .ok (.iload_n 1, 1) := by decide +kernel
theorem dX3_empty_11 : decode cX3_empty 11 = .ok (.ireturn, 1) := by decide +kernel
theorem dX3_hasAt_0 : decode cX3_hasAt 0 = .ok (.iload_n 1, 1) := by decide +kernel
theorem dX3_hasAt_1 : decode cX3_hasAt 1 = .ok (.aload_n 0, 1) := by decide +kernel
theorem dX3_hasAt_2 : decode cX3_hasAt 2 = .ok (.getfield 19, 3) := by decide +kernel
theorem dX3_hasAt_5 : decode cX3_hasAt 5 = .ok (.if_icmp .ge 17, 3) := by decide +kernel
theorem dX3_hasAt_8 : decode cX3_hasAt 8 = .ok (.aload_n 0, 1) := by decide +kernel
theorem dX3_hasAt_9 : decode cX3_hasAt 9 = .ok (.getfield 9, 3) := by decide +kernel
theorem dX3_hasAt_12 : decode cX3_hasAt 12 = .ok (.iload_n 1, 1) := by decide +kernel
theorem dX3_hasAt_13 : decode cX3_hasAt 13 = .ok (.caload, 1) := by decide +kernel
theorem dX3_hasAt_14 : decode cX3_hasAt 14 = .ok (.iload_n 2, 1) := by decide +kernel
theorem dX3_hasAt_15 : decode cX3_hasAt 15 = .ok (.if_icmp .ne 7, 3) := by decide +kernel
theorem dX3_hasAt_18 : decode cX3_hasAt 18 = .ok (.iconst 1, 1) := by decide +kernel
theorem dX3_hasAt_19 : decode cX3_hasAt 19 = .ok (.goto 4, 3) := by decide +kernel
theorem dX3_hasAt_22 : decode cX3_hasAt 22 = .ok (.iconst 0, 1) := by decide +kernel
theorem dX3_hasAt_23 : decode cX3_hasAt 23 = .ok (.ireturn, 1) := by decide +kernel
theorem dX3_letterAt_0 : decode cX3_letterAt 0 = .ok (.iload_n 1, 1) := by decide +kernel
theorem dX3_letterAt_1 : decode cX3_letterAt 1 = .ok (.aload_n 0, 1) := by decide +kernel
theorem dX3_letterAt_2 : decode cX3_letterAt 2 = .ok (.getfield 19, 3) := by decide +kernel
theorem dX3_letterAt_5 : decode cX3_letterAt 5 = .ok (.if_icmp .ge 16, 3) := by decide +kernel
theorem dX3_letterAt_8 : decode cX3_letterAt 8 = .ok (.aload_n 2, 1) := by decide +kernel
theorem dX3_letterAt_9 : decode cX3_letterAt 9 = .ok (.aload_n 0, 1) := by decide +kernel
theorem dX3_letterAt_10 : decode cX3_letterAt 10 = .ok (.getfield 9, 3) := by decide +kernel
theorem dX3_letterAt_13 : decode cX3_letterAt 13 = .ok (.iload_n 1, 1) := by decide +kernel
theorem dX3_letterAt_14 : decode cX3_letterAt 14 = .ok (.caload, 1) := by decide +kernel
theorem dX3_letterAt_15 : decode cX3_letterAt 15 = .ok (.invokevirtual 23, 3) := by decide +kernel
theorem dX3_letterAt_18 : decode cX3_letterAt 18 = .ok (.goto 4, 3) := by decide +kernel
theorem dX3_letterAt_21 : decode cX3_letterAt 21 = .ok (.iconst (-1), 1) := by decide +kernel
theorem dX3_letterAt_22 : decode cX3_letterAt 22 = .ok (.ireturn, 1) := by decide +kernel
theorem dX3_digitAt_0 : decode cX3_digitAt 0 = .ok (.iload_n 1, 1) := by decide +kernel
theorem dX3_digitAt_1 : decode cX3_digitAt 1 = .ok (.aload_n 0, 1) := by decide +kernel
theorem dX3_digitAt_2 : decode cX3_digitAt 2 = .ok (.getfield 19, 3) := by decide +kernel
theorem dX3_digitAt_5 : decode cX3_digitAt 5 = .ok (.if_icmp .ge 15, 3) := by decide +kernel
theorem dX3_digitAt_8 : decode cX3_digitAt 8 = .ok (.aload_n 0, 1) := by decide +kernel
theorem dX3_digitAt_9 : decode cX3_digitAt 9 = .ok (.getfield 9, 3) := by decide +kernel
theorem dX3_digitAt_12 : decode cX3_digitAt 12 = .ok (.iload_n 1, 1) := by decide +kernel
theorem dX3_digitAt_13 : decode cX3_digitAt 13 = .ok (.caload, 1) := by decide +kernel
theorem dX3_digitAt_14 : decode cX3_digitAt 14 = .ok (.bipush 48, 2) := by decide +kernel
theorem dX3_digitAt_16 : decode cX3_digitAt 16 = .ok (.isub, 1) := by decide +kernel
theorem dX3_digitAt_17 : decode cX3_digitAt 17 = .ok (.goto 4, 3) := by decide +kernel
theorem dX3_digitAt_20 : decode cX3_digitAt 20 = .ok (.iconst 0, 1) := by decide +kernel
theorem dX3_digitAt_21 : decode cX3_digitAt 21 = .ok (.istore_n 2, 1) := by decide +kernel
theorem dX3_digitAt_22 : decode cX3_digitAt 22 = .ok (.iload_n 2, 1) := by decide +kernel
theorem dX3_digitAt_23 : decode cX3_digitAt 23 = .ok (.iconst 1, 1) := by decide +kernel
theorem dX3_digitAt_24 : decode cX3_digitAt 24 = .ok (.if_icmp .lt 13, 3) := by decide +kernel
theorem dX3_digitAt_27 : decode cX3_digitAt 27 = .ok (.iload_n 2, 1) := by decide +kernel
theorem dX3_digitAt_28 : decode cX3_digitAt 28 = .ok (.bipush 9, 2) := by decide +kernel
theorem dX3_digitAt_30 : decode cX3_digitAt 30 = .ok (.if_icmp .gt 7, 3) := by decide +kernel
theorem dX3_digitAt_33 : decode cX3_digitAt 33 = .ok (.iload_n 2, 1) := by decide +kernel
theorem dX3_digitAt_34 : decode cX3_digitAt 34 = .ok (.goto 4, 3) := by decide +kernel
theorem dX3_digitAt_37 : decode cX3_digitAt 37 = .ok (.iconst 0, 1) := by decide +kernel
theorem dX3_digitAt_38 : decode cX3_digitAt 38 = .ok (.ireturn, 1) := by decide +kernel
theorem dX3_faultOfRuns_0 : decode cX3_faultOfRuns 0 = .ok (.iload_n 3, 1) := by decide +kernel
theorem dX3_faultOfRuns_1 : decode cX3_faultOfRuns 1 = .ok (.istore 4, 2) := by decide +kernel
theorem dX3_faultOfRuns_3 : decode cX3_faultOfRuns 3 = .ok (.iload_n 2, 1) := by decide +kernel
theorem dX3_faultOfRuns_4 : decode cX3_faultOfRuns 4 = .ok (.istore 5, 2) := by decide +kernel
theorem dX3_faultOfRuns_6 : decode cX3_faultOfRuns 6 = .ok (.iload 5, 2) := by decide +kernel
theorem dX3_faultOfRuns_8 : decode cX3_faultOfRuns 8 = .ok (.aload_n 0, 1) := by decide +kernel
theorem dX3_faultOfRuns_9 : decode cX3_faultOfRuns 9 = .ok (.getfield 19, 3) := by decide +kernel
theorem dX3_faultOfRuns_12 : decode cX3_faultOfRuns 12 = .ok (.if_icmp .ge 61, 3) := by decide +kernel
theorem dX3_faultOfRuns_15 : decode cX3_faultOfRuns 15 = .ok (.iload 4, 2) := by decide +kernel
theorem dX3_faultOfRuns_17 : decode cX3_faultOfRuns 17 = .ok (.ifCond .eq 13, 3) := by decide +kernel
theorem dX3_faultOfRuns_20 : decode cX3_faultOfRuns 20 = .ok (.aload_n 0, 1) := by decide +kernel
theorem dX3_faultOfRuns_21 : decode cX3_faultOfRuns 21 = .ok (.iload 5, 2) := by decide +kernel
theorem dX3_faultOfRuns_23 : decode cX3_faultOfRuns 23 = .ok (.aload_n 1, 1) := by decide +kernel
theorem dX3_faultOfRuns_24 : decode cX3_faultOfRuns 24 = .ok (.invokevirtual 29, 3) := by decide +kernel
theorem dX3_faultOfRuns_27 : decode cX3_faultOfRuns 27 = .ok (.ifCond .ge 6, 3) := by decide +kernel
theorem dX3_faultOfRuns_30 : decode cX3_faultOfRuns 30 = .ok (.iload 5, 2) := by decide +kernel
theorem dX3_faultOfRuns_32 : decode cX3_faultOfRuns 32 = .ok (.ireturn, 1) := by decide +kernel
theorem dX3_faultOfRuns_33 : decode cX3_faultOfRuns 33 = .ok (.aload_n 0, 1) := by decide +kernel
theorem dX3_faultOfRuns_34 : decode cX3_faultOfRuns 34 = .ok (.iload 5, 2) := by decide +kernel
theorem dX3_faultOfRuns_36 : decode cX3_faultOfRuns 36 = .ok (.iconst 1, 1) := by decide +kernel
theorem dX3_faultOfRuns_37 : decode cX3_faultOfRuns 37 = .ok (.iadd, 1) := by decide +kernel
theorem dX3_faultOfRuns_38 : decode cX3_faultOfRuns 38 = .ok (.invokevirtual 33, 3) := by decide +kernel
theorem dX3_faultOfRuns_41 : decode cX3_faultOfRuns 41 = .ok (.istore 6, 2) := by decide +kernel
theorem dX3_faultOfRuns_43 : decode cX3_faultOfRuns 43 = .ok (.iload 6, 2) := by decide +kernel
theorem dX3_faultOfRuns_45 : decode cX3_faultOfRuns 45 = .ok (.ifCond .eq 10, 3) := by decide +kernel
theorem dX3_faultOfRuns_48 : decode cX3_faultOfRuns 48 = .ok (.iload 6, 2) := by decide +kernel
theorem dX3_faultOfRuns_50 : decode cX3_faultOfRuns 50 = .ok (.iload 4, 2) := by decide +kernel
theorem dX3_faultOfRuns_52 : decode cX3_faultOfRuns 52 = .ok (.if_icmp .le 8, 3) := by decide +kernel
theorem dX3_faultOfRuns_55 : decode cX3_faultOfRuns 55 = .ok (.iload 5, 2) := by decide +kernel
theorem dX3_faultOfRuns_57 : decode cX3_faultOfRuns 57 = .ok (.iconst 1, 1) := by decide +kernel
theorem dX3_faultOfRuns_58 : decode cX3_faultOfRuns 58 = .ok (.iadd, 1) := by decide +kernel
theorem dX3_faultOfRuns_59 : decode cX3_faultOfRuns 59 = .ok (.ireturn, 1) := by decide +kernel
theorem dX3_faultOfRuns_60 : decode cX3_faultOfRuns 60 = .ok (.iload 4, 2) := by decide +kernel
theorem dX3_faultOfRuns_62 : decode cX3_faultOfRuns 62 = .ok (.iload 6, 2) := by decide +kernel
theorem dX3_faultOfRuns_64 : decode cX3_faultOfRuns 64 = .ok (.isub, 1) := by decide +kernel
theorem dX3_faultOfRuns_65 : decode cX3_faultOfRuns 65 = .ok (.istore 4, 2) := by decide +kernel
theorem dX3_faultOfRuns_67 : decode cX3_faultOfRuns 67 = .ok (.iinc 5 2, 3) := by decide +kernel
theorem dX3_faultOfRuns_70 : decode cX3_faultOfRuns 70 = .ok (.goto (-64), 3) := by decide +kernel
theorem dX3_faultOfRuns_73 : decode cX3_faultOfRuns 73 = .ok (.iload 4, 2) := by decide +kernel
theorem dX3_faultOfRuns_75 : decode cX3_faultOfRuns 75 = .ok (.ifCond .ne 8, 3) := by decide +kernel
theorem dX3_faultOfRuns_78 : decode cX3_faultOfRuns 78 = .ok (.bipush (-6), 2) := by decide +kernel
theorem dX3_faultOfRuns_80 : decode cX3_faultOfRuns 80 = .ok (.goto 7, 3) := by decide +kernel
theorem dX3_faultOfRuns_83 : decode cX3_faultOfRuns 83 = .ok (.aload_n 0, 1) := by decide +kernel
theorem dX3_faultOfRuns_84 : decode cX3_faultOfRuns 84 = .ok (.getfield 19, 3) := by decide +kernel
theorem dX3_faultOfRuns_87 : decode cX3_faultOfRuns 87 = .ok (.ireturn, 1) := by decide +kernel
theorem dX3_readRuns_0 : decode cX3_readRuns 0 = .ok (.iconst 0, 1) := by decide +kernel
theorem dX3_readRuns_1 : decode cX3_readRuns 1 = .ok (.istore_n 3, 1) := by decide +kernel
theorem dX3_readRuns_2 : decode cX3_readRuns 2 = .ok (.iload_n 2, 1) := by decide +kernel
theorem dX3_readRuns_3 : decode cX3_readRuns 3 = .ok (.istore 4, 2) := by decide +kernel
theorem dX3_readRuns_5 : decode cX3_readRuns 5 = .ok (.iload 4, 2) := by decide +kernel
theorem dX3_readRuns_7 : decode cX3_readRuns 7 = .ok (.aload_n 0, 1) := by decide +kernel
theorem dX3_readRuns_8 : decode cX3_readRuns 8 = .ok (.getfield 19, 3) := by decide +kernel
theorem dX3_readRuns_11 : decode cX3_readRuns 11 = .ok (.if_icmp .ge 56, 3) := by decide +kernel
theorem dX3_readRuns_14 : decode cX3_readRuns 14 = .ok (.aload_n 0, 1) := by decide +kernel
theorem dX3_readRuns_15 : decode cX3_readRuns 15 = .ok (.iload 4, 2) := by decide +kernel
theorem dX3_readRuns_17 : decode cX3_readRuns 17 = .ok (.aload_n 1, 1) := by decide +kernel
theorem dX3_readRuns_18 : decode cX3_readRuns 18 = .ok (.invokevirtual 29, 3) := by decide +kernel
theorem dX3_readRuns_21 : decode cX3_readRuns 21 = .ok (.istore 5, 2) := by decide +kernel
theorem dX3_readRuns_23 : decode cX3_readRuns 23 = .ok (.aload_n 0, 1) := by decide +kernel
theorem dX3_readRuns_24 : decode cX3_readRuns 24 = .ok (.iload 4, 2) := by decide +kernel
theorem dX3_readRuns_26 : decode cX3_readRuns 26 = .ok (.iconst 1, 1) := by decide +kernel
theorem dX3_readRuns_27 : decode cX3_readRuns 27 = .ok (.iadd, 1) := by decide +kernel
theorem dX3_readRuns_28 : decode cX3_readRuns 28 = .ok (.invokevirtual 33, 3) := by decide +kernel
theorem dX3_readRuns_31 : decode cX3_readRuns 31 = .ok (.istore 6, 2) := by decide +kernel
theorem dX3_readRuns_33 : decode cX3_readRuns 33 = .ok (.iload 6, 2) := by decide +kernel
theorem dX3_readRuns_35 : decode cX3_readRuns 35 = .ok (.ifCond .le 26, 3) := by decide +kernel
theorem dX3_readRuns_38 : decode cX3_readRuns 38 = .ok (.iload_n 3, 1) := by decide +kernel
theorem dX3_readRuns_39 : decode cX3_readRuns 39 = .ok (.bipush 24, 2) := by decide +kernel
theorem dX3_readRuns_41 : decode cX3_readRuns 41 = .ok (.if_icmp .ge 20, 3) := by decide +kernel
theorem dX3_readRuns_44 : decode cX3_readRuns 44 = .ok (.aload_n 0, 1) := by decide +kernel
theorem dX3_readRuns_45 : decode cX3_readRuns 45 = .ok (.getfield 15, 3) := by decide +kernel
theorem dX3_readRuns_48 : decode cX3_readRuns 48 = .ok (.iload_n 3, 1) := by decide +kernel
theorem dX3_readRuns_49 : decode cX3_readRuns 49 = .ok (.iload 5, 2) := by decide +kernel
theorem dX3_readRuns_51 : decode cX3_readRuns 51 = .ok (.iastore, 1) := by decide +kernel
theorem dX3_readRuns_52 : decode cX3_readRuns 52 = .ok (.iinc 3 1, 3) := by decide +kernel
theorem dX3_readRuns_55 : decode cX3_readRuns 55 = .ok (.iinc 6 (-1), 3) := by decide +kernel
theorem dX3_readRuns_58 : decode cX3_readRuns 58 = .ok (.goto (-25), 3) := by decide +kernel
theorem dX3_readRuns_61 : decode cX3_readRuns 61 = .ok (.iinc 4 2, 3) := by decide +kernel
theorem dX3_readRuns_64 : decode cX3_readRuns 64 = .ok (.goto (-59), 3) := by decide +kernel
theorem dX3_readRuns_67 : decode cX3_readRuns 67 = .ok (.aload_n 0, 1) := by decide +kernel
theorem dX3_readRuns_68 : decode cX3_readRuns 68 = .ok (.getfield 15, 3) := by decide +kernel
theorem dX3_readRuns_71 : decode cX3_readRuns 71 = .ok (.areturn, 1) := by decide +kernel
theorem dJ6_bitCount_0f7a4_0 : decode cJ6_bitCount_0f7a4 0 = .ok (.iload_n 0, 1) := by decide +kernel
theorem dJ6_bitCount_0f7a4_1 : decode cJ6_bitCount_0f7a4 1 = .ok (.iload_n 0, 1) := by decide +kernel
theorem dJ6_bitCount_0f7a4_2 : decode cJ6_bitCount_0f7a4 2 = .ok (.iconst 1, 1) := by decide +kernel
theorem dJ6_bitCount_0f7a4_3 : decode cJ6_bitCount_0f7a4 3 = .ok (.iushr, 1) := by decide +kernel
theorem dJ6_bitCount_0f7a4_4 : decode cJ6_bitCount_0f7a4 4 = .ok (.ldc_w 265, 3) := by decide +kernel
theorem dJ6_bitCount_0f7a4_7 : decode cJ6_bitCount_0f7a4 7 = .ok (.iand, 1) := by decide +kernel
theorem dJ6_bitCount_0f7a4_8 : decode cJ6_bitCount_0f7a4 8 = .ok (.isub, 1) := by decide +kernel
theorem dJ6_bitCount_0f7a4_9 : decode cJ6_bitCount_0f7a4 9 = .ok (.istore_n 0, 1) := by decide +kernel
theorem dJ6_bitCount_0f7a4_10 : decode cJ6_bitCount_0f7a4 10 = .ok (.iload_n 0, 1) := by decide +kernel
theorem dJ6_bitCount_0f7a4_11 : decode cJ6_bitCount_0f7a4 11 = .ok (.ldc_w 266, 3) := by decide +kernel
theorem dJ6_bitCount_0f7a4_14 : decode cJ6_bitCount_0f7a4 14 = .ok (.iand, 1) := by decide +kernel
theorem dJ6_bitCount_0f7a4_15 : decode cJ6_bitCount_0f7a4 15 = .ok (.iload_n 0, 1) := by decide +kernel
theorem dJ6_bitCount_0f7a4_16 : decode cJ6_bitCount_0f7a4 16 = .ok (.iconst 2, 1) := by decide +kernel
theorem dJ6_bitCount_0f7a4_17 : decode cJ6_bitCount_0f7a4 17 = .ok (.iushr, 1) := by decide +kernel
theorem dJ6_bitCount_0f7a4_18 : decode cJ6_bitCount_0f7a4 18 = .ok (.ldc_w 266, 3) := by decide +kernel
theorem dJ6_bitCount_0f7a4_21 : decode cJ6_bitCount_0f7a4 21 = .ok (.iand, 1) := by decide +kernel
theorem dJ6_bitCount_0f7a4_22 : decode cJ6_bitCount_0f7a4 22 = .ok (.iadd, 1) := by decide +kernel
theorem dJ6_bitCount_0f7a4_23 : decode cJ6_bitCount_0f7a4 23 = .ok (.istore_n 0, 1) := by decide +kernel
theorem dJ6_bitCount_0f7a4_24 : decode cJ6_bitCount_0f7a4 24 = .ok (.iload_n 0, 1) := by decide +kernel
theorem dJ6_bitCount_0f7a4_25 : decode cJ6_bitCount_0f7a4 25 = .ok (.iload_n 0, 1) := by decide +kernel
theorem dJ6_bitCount_0f7a4_26 : decode cJ6_bitCount_0f7a4 26 = .ok (.iconst 4, 1) := by decide +kernel
theorem dJ6_bitCount_0f7a4_27 : decode cJ6_bitCount_0f7a4 27 = .ok (.iushr, 1) := by decide +kernel
theorem dJ6_bitCount_0f7a4_28 : decode cJ6_bitCount_0f7a4 28 = .ok (.iadd, 1) := by decide +kernel
theorem dJ6_bitCount_0f7a4_29 : decode cJ6_bitCount_0f7a4 29 = .ok (.ldc_w 267, 3) := by decide +kernel
theorem dJ6_bitCount_0f7a4_32 : decode cJ6_bitCount_0f7a4 32 = .ok (.iand, 1) := by decide +kernel
theorem dJ6_bitCount_0f7a4_33 : decode cJ6_bitCount_0f7a4 33 = .ok (.istore_n 0, 1) := by decide +kernel
theorem dJ6_bitCount_0f7a4_34 : decode cJ6_bitCount_0f7a4 34 = .ok (.iload_n 0, 1) := by decide +kernel
theorem dJ6_bitCount_0f7a4_35 : decode cJ6_bitCount_0f7a4 35 = .ok (.iload_n 0, 1) := by decide +kernel
theorem dJ6_bitCount_0f7a4_36 : decode cJ6_bitCount_0f7a4 36 = .ok (.bipush 8, 2) := by decide +kernel
theorem dJ6_bitCount_0f7a4_38 : decode cJ6_bitCount_0f7a4 38 = .ok (.iushr, 1) := by decide +kernel
theorem dJ6_bitCount_0f7a4_39 : decode cJ6_bitCount_0f7a4 39 = .ok (.iadd, 1) := by decide +kernel
theorem dJ6_bitCount_0f7a4_40 : decode cJ6_bitCount_0f7a4 40 = .ok (.istore_n 0, 1) := by decide +kernel
theorem dJ6_bitCount_0f7a4_41 : decode cJ6_bitCount_0f7a4 41 = .ok (.iload_n 0, 1) := by decide +kernel
theorem dJ6_bitCount_0f7a4_42 : decode cJ6_bitCount_0f7a4 42 = .ok (.iload_n 0, 1) := by decide +kernel
theorem dJ6_bitCount_0f7a4_43 : decode cJ6_bitCount_0f7a4 43 = .ok (.bipush 16, 2) := by decide +kernel
theorem dJ6_bitCount_0f7a4_45 : decode cJ6_bitCount_0f7a4 45 = .ok (.iushr, 1) := by decide +kernel
theorem dJ6_bitCount_0f7a4_46 : decode cJ6_bitCount_0f7a4 46 = .ok (.iadd, 1) := by decide +kernel
theorem dJ6_bitCount_0f7a4_47 : decode cJ6_bitCount_0f7a4 47 = .ok (.istore_n 0, 1) := by decide +kernel
theorem dJ6_bitCount_0f7a4_48 : decode cJ6_bitCount_0f7a4 48 = .ok (.iload_n 0, 1) := by decide +kernel
theorem dJ6_bitCount_0f7a4_49 : decode cJ6_bitCount_0f7a4 49 = .ok (.bipush 63, 2) := by decide +kernel
theorem dJ6_bitCount_0f7a4_51 : decode cJ6_bitCount_0f7a4 51 = .ok (.iand, 1) := by decide +kernel
theorem dJ6_bitCount_0f7a4_52 : decode cJ6_bitCount_0f7a4 52 = .ok (.ireturn, 1) := by decide +kernel
theorem dJ0_length_8abf5_0 : decode cJ0_length_8abf5 0 = .ok (.aload_n 0, 1) := by decide +kernel
theorem dJ0_length_8abf5_1 : decode cJ0_length_8abf5 1 = .ok (.getfield 9, 3) := by decide +kernel
theorem dJ0_length_8abf5_4 : decode cJ0_length_8abf5 4 = .ok (.arraylength, 1) := by decide +kernel
theorem dJ0_length_8abf5_5 : decode cJ0_length_8abf5 5 = .ok (.aload_n 0, 1) := by decide +kernel
theorem dJ0_length_8abf5_6 : decode cJ0_length_8abf5 6 = .ok (.invokevirtual 335, 3) := by decide +kernel
theorem dJ0_length_8abf5_9 : decode cJ0_length_8abf5 9 = .ok (.ishr, 1) := by decide +kernel
theorem dJ0_length_8abf5_10 : decode cJ0_length_8abf5 10 = .ok (.ireturn, 1) := by decide +kernel
theorem dJ0_charAt_5068e_0 : decode cJ0_charAt_5068e 0 = .ok (.aload_n 0, 1) := by decide +kernel
theorem dJ0_charAt_5068e_1 : decode cJ0_charAt_5068e 1 = .ok (.invokevirtual 492, 3) := by decide +kernel
theorem dJ0_charAt_5068e_4 : decode cJ0_charAt_5068e 4 = .ok (.ifCond .eq 12, 3) := by decide +kernel
theorem dJ0_charAt_5068e_7 : decode cJ0_charAt_5068e 7 = .ok (.aload_n 0, 1) := by decide +kernel
theorem dJ0_charAt_5068e_8 : decode cJ0_charAt_5068e 8 = .ok (.getfield 9, 3) := by decide +kernel
theorem dJ0_charAt_5068e_11 : decode cJ0_charAt_5068e 11 = .ok (.iload_n 1, 1) := by decide +kernel
theorem dJ0_charAt_5068e_12 : decode cJ0_charAt_5068e 12 = .ok (.invokestatic 495, 3) := by decide +kernel
theorem dJ0_charAt_5068e_15 : decode cJ0_charAt_5068e 15 = .ok (.ireturn, 1) := by decide +kernel
theorem dJ0_charAt_5068e_16 : decode cJ0_charAt_5068e 16 = .ok (.aload_n 0, 1) := by decide +kernel
theorem dJ0_charAt_5068e_17 : decode cJ0_charAt_5068e 17 = .ok (.getfield 9, 3) := by decide +kernel
theorem dJ0_charAt_5068e_20 : decode cJ0_charAt_5068e 20 = .ok (.iload_n 1, 1) := by decide +kernel
theorem dJ0_charAt_5068e_21 : decode cJ0_charAt_5068e 21 = .ok (.invokestatic 498, 3) := by decide +kernel
theorem dJ0_charAt_5068e_24 : decode cJ0_charAt_5068e 24 = .ok (.ireturn, 1) := by decide +kernel
theorem dJ0_indexOf_0f7a4_0 : decode cJ0_indexOf_0f7a4 0 = .ok (.aload_n 0, 1) := by decide +kernel
theorem dJ0_indexOf_0f7a4_1 : decode cJ0_indexOf_0f7a4 1 = .ok (.iload_n 1, 1) := by decide +kernel
theorem dJ0_indexOf_0f7a4_2 : decode cJ0_indexOf_0f7a4 2 = .ok (.iconst 0, 1) := by decide +kernel
theorem dJ0_indexOf_0f7a4_3 : decode cJ0_indexOf_0f7a4 3 = .ok (.invokevirtual 633, 3) := by decide +kernel
theorem dJ0_indexOf_0f7a4_6 : decode cJ0_indexOf_0f7a4 6 = .ok (.ireturn, 1) := by decide +kernel
theorem dJ0_indexOf_7cf53_0 : decode cJ0_indexOf_7cf53 0 = .ok (.aload_n 0, 1) := by decide +kernel
theorem dJ0_indexOf_7cf53_1 : decode cJ0_indexOf_7cf53 1 = .ok (.invokevirtual 492, 3) := by decide +kernel
theorem dJ0_indexOf_7cf53_4 : decode cJ0_indexOf_7cf53 4 = .ok (.ifCond .eq 19, 3) := by decide +kernel
theorem dJ0_indexOf_7cf53_7 : decode cJ0_indexOf_7cf53 7 = .ok (.aload_n 0, 1) := by decide +kernel
theorem dJ0_indexOf_7cf53_8 : decode cJ0_indexOf_7cf53 8 = .ok (.getfield 9, 3) := by decide +kernel
theorem dJ0_indexOf_7cf53_11 : decode cJ0_indexOf_7cf53 11 = .ok (.iload_n 1, 1) := by decide +kernel
theorem dJ0_indexOf_7cf53_12 : decode cJ0_indexOf_7cf53 12 = .ok (.iload_n 2, 1) := by decide +kernel
theorem dJ0_indexOf_7cf53_13 : decode cJ0_indexOf_7cf53 13 = .ok (.aload_n 0, 1) := by decide +kernel
theorem dJ0_indexOf_7cf53_14 : decode cJ0_indexOf_7cf53 14 = .ok (.invokevirtual 505, 3) := by decide +kernel
theorem dJ0_indexOf_7cf53_17 : decode cJ0_indexOf_7cf53 17 = .ok (.invokestatic 637, 3) := by decide +kernel
theorem dJ0_indexOf_7cf53_20 : decode cJ0_indexOf_7cf53 20 = .ok (.goto 16, 3) := by decide +kernel
theorem dJ0_indexOf_7cf53_23 : decode cJ0_indexOf_7cf53 23 = .ok (.aload_n 0, 1) := by decide +kernel
theorem dJ0_indexOf_7cf53_24 : decode cJ0_indexOf_7cf53 24 = .ok (.getfield 9, 3) := by decide +kernel
theorem dJ0_indexOf_7cf53_27 : decode cJ0_indexOf_7cf53 27 = .ok (.iload_n 1, 1) := by decide +kernel
theorem dJ0_indexOf_7cf53_28 : decode cJ0_indexOf_7cf53 28 = .ok (.iload_n 2, 1) := by decide +kernel
theorem dJ0_indexOf_7cf53_29 : decode cJ0_indexOf_7cf53 29 = .ok (.aload_n 0, 1) := by decide +kernel
theorem dJ0_indexOf_7cf53_30 : decode cJ0_indexOf_7cf53 30 = .ok (.invokevirtual 505, 3) := by decide +kernel
theorem dJ0_indexOf_7cf53_33 : decode cJ0_indexOf_7cf53 33 = .ok (.invokestatic 640, 3) := by decide +kernel
theorem dJ0_indexOf_7cf53_36 : decode cJ0_indexOf_7cf53 36 = .ok (.ireturn, 1) := by decide +kernel
theorem dJ0_coder_7d493_0 : decode cJ0_coder_7d493 0 = .ok (.getstatic 38, 3) := by decide +kernel
theorem dJ0_coder_7d493_3 : decode cJ0_coder_7d493 3 = .ok (.ifCond .eq 10, 3) := by decide +kernel
theorem dJ0_coder_7d493_6 : decode cJ0_coder_7d493 6 = .ok (.aload_n 0, 1) := by decide +kernel
theorem dJ0_coder_7d493_7 : decode cJ0_coder_7d493 7 = .ok (.getfield 15, 3) := by decide +kernel
theorem dJ0_coder_7d493_10 : decode cJ0_coder_7d493 10 = .ok (.goto 4, 3) := by decide +kernel
theorem dJ0_coder_7d493_13 : decode cJ0_coder_7d493 13 = .ok (.iconst 1, 1) := by decide +kernel
theorem dJ0_coder_7d493_14 : decode cJ0_coder_7d493 14 = .ok (.ireturn, 1) := by decide +kernel
theorem dJ0_isLatin1_aae02_0 : decode cJ0_isLatin1_aae02 0 = .ok (.getstatic 38, 3) := by decide +kernel
theorem dJ0_isLatin1_aae02_3 : decode cJ0_isLatin1_aae02 3 = .ok (.ifCond .eq 14, 3) := by decide +kernel
theorem dJ0_isLatin1_aae02_6 : decode cJ0_isLatin1_aae02 6 = .ok (.aload_n 0, 1) := by decide +kernel
theorem dJ0_isLatin1_aae02_7 : decode cJ0_isLatin1_aae02 7 = .ok (.getfield 15, 3) := by decide +kernel
theorem dJ0_isLatin1_aae02_10 : decode cJ0_isLatin1_aae02 10 = .ok (.ifCond .ne 7, 3) := by decide +kernel
theorem dJ0_isLatin1_aae02_13 : decode cJ0_isLatin1_aae02 13 = .ok (.iconst 1, 1) := by decide +kernel
theorem dJ0_isLatin1_aae02_14 : decode cJ0_isLatin1_aae02 14 = .ok (.goto 4, 3) := by decide +kernel
theorem dJ0_isLatin1_aae02_17 : decode cJ0_isLatin1_aae02 17 = .ok (.iconst 0, 1) := by decide +kernel
theorem dJ0_isLatin1_aae02_18 : decode cJ0_isLatin1_aae02 18 = .ok (.ireturn, 1) := by decide +kernel
theorem dJ0_checkIndex_df160_0 : decode cJ0_checkIndex_df160 0 = .ok (.iload_n 0, 1) := by decide +kernel
theorem dJ0_checkIndex_df160_1 : decode cJ0_checkIndex_df160 1 = .ok (.iload_n 1, 1) := by decide +kernel
theorem dJ0_checkIndex_df160_2 : decode cJ0_checkIndex_df160 2 = .ok (.getstatic 1053, 3) := by decide +kernel
theorem dJ0_checkIndex_df160_5 : decode cJ0_checkIndex_df160 5 = .ok (.invokestatic 1059, 3) := by decide +kernel
theorem dJ0_checkIndex_df160_8 : decode cJ0_checkIndex_df160 8 = .ok (.pop, 1) := by decide +kernel
theorem dJ0_checkIndex_df160_9 : decode cJ0_checkIndex_df160 9 = .ok (.return_, 1) := by decide +kernel
theorem dJ0_checkBoundsBeginEnd_23922_0 : decode cJ0_checkBoundsBeginEnd_23922 0 = .ok (.iload_n 0, 1) := by decide +kernel
theorem dJ0_checkBoundsBeginEnd_23922_1 : decode cJ0_checkBoundsBeginEnd_23922 1 = .ok (.iload_n 1, 1) := by decide +kernel
theorem dJ0_checkBoundsBeginEnd_23922_2 : decode cJ0_checkBoundsBeginEnd_23922 2 = .ok (.iload_n 2, 1) := by decide +kernel
theorem dJ0_checkBoundsBeginEnd_23922_3 : decode cJ0_checkBoundsBeginEnd_23922 3 = .ok (.getstatic 1053, 3) := by decide +kernel
theorem dJ0_checkBoundsBeginEnd_23922_6 : decode cJ0_checkBoundsBeginEnd_23922 6 = .ok (.invokestatic 1062, 3) := by decide +kernel
theorem dJ0_checkBoundsBeginEnd_23922_9 : decode cJ0_checkBoundsBeginEnd_23922 9 = .ok (.pop, 1) := by decide +kernel
theorem dJ0_checkBoundsBeginEnd_23922_10 : decode cJ0_checkBoundsBeginEnd_23922 10 = .ok (.return_, 1) := by decide +kernel
theorem dJ1_charAt_3b067_0 : decode cJ1_charAt_3b067 0 = .ok (.iload_n 1, 1) := by decide +kernel
theorem dJ1_charAt_3b067_1 : decode cJ1_charAt_3b067 1 = .ok (.aload_n 0, 1) := by decide +kernel
theorem dJ1_charAt_3b067_2 : decode cJ1_charAt_3b067 2 = .ok (.arraylength, 1) := by decide +kernel
theorem dJ1_charAt_3b067_3 : decode cJ1_charAt_3b067 3 = .ok (.invokestatic 9, 3) := by decide +kernel
theorem dJ1_charAt_3b067_6 : decode cJ1_charAt_3b067 6 = .ok (.aload_n 0, 1) := by decide +kernel
theorem dJ1_charAt_3b067_7 : decode cJ1_charAt_3b067 7 = .ok (.iload_n 1, 1) := by decide +kernel
theorem dJ1_charAt_3b067_8 : decode cJ1_charAt_3b067 8 = .ok (.baload, 1) := by decide +kernel
theorem dJ1_charAt_3b067_9 : decode cJ1_charAt_3b067 9 = .ok (.sipush 255, 3) := by decide +kernel
theorem dJ1_charAt_3b067_12 : decode cJ1_charAt_3b067 12 = .ok (.iand, 1) := by decide +kernel
theorem dJ1_charAt_3b067_13 : decode cJ1_charAt_3b067 13 = .ok (.i2c, 1) := by decide +kernel
theorem dJ1_charAt_3b067_14 : decode cJ1_charAt_3b067 14 = .ok (.ireturn, 1) := by decide +kernel
theorem dJ1_canEncode_9a6ad_0 : decode cJ1_canEncode_9a6ad 0 = .ok (.iload_n 0, 1) := by decide +kernel
theorem dJ1_canEncode_9a6ad_1 : decode cJ1_canEncode_9a6ad 1 = .ok (.ifCond .lt 14, 3) := by decide +kernel
theorem dJ1_canEncode_9a6ad_4 : decode cJ1_canEncode_9a6ad 4 = .ok (.iload_n 0, 1) := by decide +kernel
theorem dJ1_canEncode_9a6ad_5 : decode cJ1_canEncode_9a6ad 5 = .ok (.sipush 255, 3) := by decide +kernel
theorem dJ1_canEncode_9a6ad_8 : decode cJ1_canEncode_9a6ad 8 = .ok (.if_icmp .gt 7, 3) := by decide +kernel
theorem dJ1_canEncode_9a6ad_11 : decode cJ1_canEncode_9a6ad 11 = .ok (.iconst 1, 1) := by decide +kernel
theorem dJ1_canEncode_9a6ad_12 : decode cJ1_canEncode_9a6ad 12 = .ok (.goto 4, 3) := by decide +kernel
theorem dJ1_canEncode_9a6ad_15 : decode cJ1_canEncode_9a6ad 15 = .ok (.iconst 0, 1) := by decide +kernel
theorem dJ1_canEncode_9a6ad_16 : decode cJ1_canEncode_9a6ad 16 = .ok (.ireturn, 1) := by decide +kernel
theorem dJ1_indexOf_4cfef_0 : decode cJ1_indexOf_4cfef 0 = .ok (.iload_n 1, 1) := by decide +kernel
theorem dJ1_indexOf_4cfef_1 : decode cJ1_indexOf_4cfef 1 = .ok (.invokestatic 88, 3) := by decide +kernel
theorem dJ1_indexOf_4cfef_4 : decode cJ1_indexOf_4cfef 4 = .ok (.ifCond .ne 5, 3) := by decide +kernel
theorem dJ1_indexOf_4cfef_7 : decode cJ1_indexOf_4cfef 7 = .ok (.iconst (-1), 1) := by decide +kernel
theorem dJ1_indexOf_4cfef_8 : decode cJ1_indexOf_4cfef 8 = .ok (.ireturn, 1) := by decide +kernel
theorem dJ1_indexOf_4cfef_9 : decode cJ1_indexOf_4cfef 9 = .ok (.iload_n 2, 1) := by decide +kernel
theorem dJ1_indexOf_4cfef_10 : decode cJ1_indexOf_4cfef 10 = .ok (.iconst 0, 1) := by decide +kernel
theorem dJ1_indexOf_4cfef_11 : decode cJ1_indexOf_4cfef 11 = .ok (.invokestatic 92, 3) := by decide +kernel
theorem dJ1_indexOf_4cfef_14 : decode cJ1_indexOf_4cfef 14 = .ok (.istore_n 2, 1) := by decide +kernel
theorem dJ1_indexOf_4cfef_15 : decode cJ1_indexOf_4cfef 15 = .ok (.iload_n 3, 1) := by decide +kernel
theorem dJ1_indexOf_4cfef_16 : decode cJ1_indexOf_4cfef 16 = .ok (.aload_n 0, 1) := by decide +kernel
theorem dJ1_indexOf_4cfef_17 : decode cJ1_indexOf_4cfef 17 = .ok (.arraylength, 1) := by decide +kernel
theorem dJ1_indexOf_4cfef_18 : decode cJ1_indexOf_4cfef 18 = .ok (.invokestatic 38, 3) := by decide +kernel
theorem dJ1_indexOf_4cfef_21 : decode cJ1_indexOf_4cfef 21 = .ok (.istore_n 3, 1) := by decide +kernel
theorem dJ1_indexOf_4cfef_22 : decode cJ1_indexOf_4cfef 22 = .ok (.iload_n 2, 1) := by decide +kernel
theorem dJ1_indexOf_4cfef_23 : decode cJ1_indexOf_4cfef 23 = .ok (.iload_n 3, 1) := by decide +kernel
theorem dJ1_indexOf_4cfef_24 : decode cJ1_indexOf_4cfef 24 = .ok (.if_icmp .lt 5, 3) := by decide +kernel
theorem dJ1_indexOf_4cfef_27 : decode cJ1_indexOf_4cfef 27 = .ok (.iconst (-1), 1) := by decide +kernel
theorem dJ1_indexOf_4cfef_28 : decode cJ1_indexOf_4cfef 28 = .ok (.ireturn, 1) := by decide +kernel
theorem dJ1_indexOf_4cfef_29 : decode cJ1_indexOf_4cfef 29 = .ok (.aload_n 0, 1) := by decide +kernel
theorem dJ1_indexOf_4cfef_30 : decode cJ1_indexOf_4cfef 30 = .ok (.iload_n 1, 1) := by decide +kernel
theorem dJ1_indexOf_4cfef_31 : decode cJ1_indexOf_4cfef 31 = .ok (.iload_n 2, 1) := by decide +kernel
theorem dJ1_indexOf_4cfef_32 : decode cJ1_indexOf_4cfef 32 = .ok (.iload_n 3, 1) := by decide +kernel
theorem dJ1_indexOf_4cfef_33 : decode cJ1_indexOf_4cfef 33 = .ok (.invokestatic 95, 3) := by decide +kernel
theorem dJ1_indexOf_4cfef_36 : decode cJ1_indexOf_4cfef 36 = .ok (.ireturn, 1) := by decide +kernel
theorem dJ1_indexOfChar_4cfef_0 : decode cJ1_indexOfChar_4cfef 0 = .ok (.iload_n 1, 1) := by decide +kernel
theorem dJ1_indexOfChar_4cfef_1 : decode cJ1_indexOfChar_4cfef 1 = .ok (.i2b, 1) := by decide +kernel
theorem dJ1_indexOfChar_4cfef_2 : decode cJ1_indexOfChar_4cfef 2 = .ok (.istore 4, 2) := by decide +kernel
theorem dJ1_indexOfChar_4cfef_4 : decode cJ1_indexOfChar_4cfef 4 = .ok (.iload_n 2, 1) := by decide +kernel
theorem dJ1_indexOfChar_4cfef_5 : decode cJ1_indexOfChar_4cfef 5 = .ok (.istore 5, 2) := by decide +kernel
theorem dJ1_indexOfChar_4cfef_7 : decode cJ1_indexOfChar_4cfef 7 = .ok (.iload 5, 2) := by decide +kernel
theorem dJ1_indexOfChar_4cfef_9 : decode cJ1_indexOfChar_4cfef 9 = .ok (.iload_n 3, 1) := by decide +kernel
theorem dJ1_indexOfChar_4cfef_10 : decode cJ1_indexOfChar_4cfef 10 = .ok (.if_icmp .ge 21, 3) := by decide +kernel
theorem dJ1_indexOfChar_4cfef_13 : decode cJ1_indexOfChar_4cfef 13 = .ok (.aload_n 0, 1) := by decide +kernel
theorem dJ1_indexOfChar_4cfef_14 : decode cJ1_indexOfChar_4cfef 14 = .ok (.iload 5, 2) := by decide +kernel
theorem dJ1_indexOfChar_4cfef_16 : decode cJ1_indexOfChar_4cfef 16 = .ok (.baload, 1) := by decide +kernel
theorem dJ1_indexOfChar_4cfef_17 : decode cJ1_indexOfChar_4cfef 17 = .ok (.iload 4, 2) := by decide +kernel
theorem dJ1_indexOfChar_4cfef_19 : decode cJ1_indexOfChar_4cfef 19 = .ok (.if_icmp .ne 6, 3) := by decide +kernel
theorem dJ1_indexOfChar_4cfef_22 : decode cJ1_indexOfChar_4cfef 22 = .ok (.iload 5, 2) := by decide +kernel
theorem dJ1_indexOfChar_4cfef_24 : decode cJ1_indexOfChar_4cfef 24 = .ok (.ireturn, 1) := by decide +kernel
theorem dJ1_indexOfChar_4cfef_25 : decode cJ1_indexOfChar_4cfef 25 = .ok (.iinc 5 1, 3) := by decide +kernel
theorem dJ1_indexOfChar_4cfef_28 : decode cJ1_indexOfChar_4cfef 28 = .ok (.goto (-21), 3) := by decide +kernel
theorem dJ1_indexOfChar_4cfef_31 : decode cJ1_indexOfChar_4cfef 31 = .ok (.iconst (-1), 1) := by decide +kernel
theorem dJ1_indexOfChar_4cfef_32 : decode cJ1_indexOfChar_4cfef 32 = .ok (.ireturn, 1) := by decide +kernel
theorem dJ3_checkIndex_8e157_0 : decode cJ3_checkIndex_8e157 0 = .ok (.iload_n 0, 1) := by decide +kernel
theorem dJ3_checkIndex_8e157_1 : decode cJ3_checkIndex_8e157 1 = .ok (.ifCond .lt 8, 3) := by decide +kernel
theorem dJ3_checkIndex_8e157_4 : decode cJ3_checkIndex_8e157 4 = .ok (.iload_n 0, 1) := by decide +kernel
theorem dJ3_checkIndex_8e157_5 : decode cJ3_checkIndex_8e157 5 = .ok (.iload_n 1, 1) := by decide +kernel
theorem dJ3_checkIndex_8e157_6 : decode cJ3_checkIndex_8e157 6 = .ok (.if_icmp .lt 10, 3) := by decide +kernel
theorem dJ3_checkIndex_8e157_9 : decode cJ3_checkIndex_8e157 9 = .ok (.aload_n 2, 1) := by decide +kernel
theorem dJ3_checkIndex_8e157_10 : decode cJ3_checkIndex_8e157 10 = .ok (.iload_n 0, 1) := by decide +kernel
theorem dJ3_checkIndex_8e157_11 : decode cJ3_checkIndex_8e157 11 = .ok (.iload_n 1, 1) := by decide +kernel
theorem dJ3_checkIndex_8e157_12 : decode cJ3_checkIndex_8e157 12 = .ok (.invokestatic 95, 3) := by decide +kernel
theorem dJ3_checkIndex_8e157_15 : decode cJ3_checkIndex_8e157 15 = .ok (.athrow, 1) := by decide +kernel
theorem dJ3_checkIndex_8e157_16 : decode cJ3_checkIndex_8e157 16 = .ok (.iload_n 0, 1) := by decide +kernel
theorem dJ3_checkIndex_8e157_17 : decode cJ3_checkIndex_8e157 17 = .ok (.ireturn, 1) := by decide +kernel
theorem dJ3_checkFromToIndex_8c36e_0 : decode cJ3_checkFromToIndex_8c36e 0 = .ok (.iload_n 0, 1) := by decide +kernel
theorem dJ3_checkFromToIndex_8c36e_1 : decode cJ3_checkFromToIndex_8c36e 1 = .ok (.ifCond .lt 13, 3) := by decide +kernel
theorem dJ3_checkFromToIndex_8c36e_4 : decode cJ3_checkFromToIndex_8c36e 4 = .ok (.iload_n 0, 1) := by decide +kernel
theorem dJ3_checkFromToIndex_8c36e_5 : decode cJ3_checkFromToIndex_8c36e 5 = .ok (.iload_n 1, 1) := by decide +kernel
theorem dJ3_checkFromToIndex_8c36e_6 : decode cJ3_checkFromToIndex_8c36e 6 = .ok (.if_icmp .gt 8, 3) := by decide +kernel
theorem dJ3_checkFromToIndex_8c36e_9 : decode cJ3_checkFromToIndex_8c36e 9 = .ok (.iload_n 1, 1) := by decide +kernel
theorem dJ3_checkFromToIndex_8c36e_10 : decode cJ3_checkFromToIndex_8c36e 10 = .ok (.iload_n 2, 1) := by decide +kernel
theorem dJ3_checkFromToIndex_8c36e_11 : decode cJ3_checkFromToIndex_8c36e 11 = .ok (.if_icmp .le 11, 3) := by decide +kernel
theorem dJ3_checkFromToIndex_8c36e_14 : decode cJ3_checkFromToIndex_8c36e 14 = .ok (.aload_n 3, 1) := by decide +kernel
theorem dJ3_checkFromToIndex_8c36e_15 : decode cJ3_checkFromToIndex_8c36e 15 = .ok (.iload_n 0, 1) := by decide +kernel
theorem dJ3_checkFromToIndex_8c36e_16 : decode cJ3_checkFromToIndex_8c36e 16 = .ok (.iload_n 1, 1) := by decide +kernel
theorem dJ3_checkFromToIndex_8c36e_17 : decode cJ3_checkFromToIndex_8c36e 17 = .ok (.iload_n 2, 1) := by decide +kernel
theorem dJ3_checkFromToIndex_8c36e_18 : decode cJ3_checkFromToIndex_8c36e 18 = .ok (.invokestatic 99, 3) := by decide +kernel
theorem dJ3_checkFromToIndex_8c36e_21 : decode cJ3_checkFromToIndex_8c36e 21 = .ok (.athrow, 1) := by decide +kernel
theorem dJ3_checkFromToIndex_8c36e_22 : decode cJ3_checkFromToIndex_8c36e 22 = .ok (.iload_n 0, 1) := by decide +kernel
theorem dJ3_checkFromToIndex_8c36e_23 : decode cJ3_checkFromToIndex_8c36e 23 = .ok (.ireturn, 1) := by decide +kernel
set_option maxRecDepth 20000 in
theorem ggX0_answer_X0_isFound : GoodIn wsX0_answer wsX0_isFound := goodIn_r _ [10, 2, 11, 12, 13, 14, 15, 16, 17, 18, 19] rfl (by decide +kernel)
set_option maxRecDepth 20000 in
theorem gX0_answer_X0_isFound : GoodIn wsX0_answer (wsV RX0 41 RX0 yX0_isFound wsX0_isFound) := goodIn_app (goodIn_of _ (by decide +kernel)) ggX0_answer_X0_isFound
set_option maxRecDepth 20000 in
theorem ggX0_searchAmong_X0_sumUp : GoodIn wsX0_searchAmong wsX0_sumUp := goodIn_r _ [13, 14, 15, 16, 17, 18, 19, 20, 21, 22, 23, 24, 25, 75, 76, 77, 78, 79, 80, 81, 82, 83, 84, 85, 86, 87, 88, 89] rfl (by decide +kernel)
set_option maxRecDepth 20000 in
theorem gX0_searchAmong_X0_sumUp : GoodIn wsX0_searchAmong (wsV RX0 45 RX0 yX0_sumUp wsX0_sumUp) := goodIn_app (goodIn_of _ (by decide +kernel)) ggX0_searchAmong_X0_sumUp
set_option maxRecDepth 20000 in
theorem ggX0_searchAmong_X0_isSettled : GoodIn wsX0_searchAmong wsX0_isSettled := goodIn_r _ [29, 30, 31, 32, 33, 12, 34, 2, 75, 76, 77, 78, 79, 80, 81, 82, 83] rfl (by decide +kernel)
set_option maxRecDepth 20000 in
theorem gX0_searchAmong_X0_isSettled : GoodIn wsX0_searchAmong (wsV RX0 49 RX0 yX0_isSettled wsX0_isSettled) := goodIn_app (goodIn_of _ (by decide +kernel)) ggX0_searchAmong_X0_isSettled
set_option maxRecDepth 20000 in
theorem ggX0_searchAmong_X0_firstArcOfNoUse : GoodIn wsX0_searchAmong wsX0_firstArcOfNoUse := goodIn_r _ [38, 1, 39, 40, 41, 12, 42, 3, 14, 43, 44, 45, 46, 47, 30, 2, 75, 76, 77, 78, 79, 80, 81, 82, 83] rfl (by decide +kernel)
set_option maxRecDepth 20000 in
theorem gX0_searchAmong_X0_firstArcOfNoUse : GoodIn wsX0_searchAmong (wsV RX0 52 RX0 yX0_firstArcOfNoUse wsX0_firstArcOfNoUse) := goodIn_app (goodIn_of _ (by decide +kernel)) ggX0_searchAmong_X0_firstArcOfNoUse
set_option maxRecDepth 20000 in
theorem ggX0_searchAmong_X0_chooseHeirs : GoodIn wsX0_searchAmong wsX0_chooseHeirs := goodIn_r _ [51, 1, 43, 5, 6, 7, 8, 30, 2, 52, 26, 27, 28, 12, 29, 31, 32, 33, 34, 53, 54, 55, 56, 57, 58, 59, 60, 48, 49, 50, 61, 62, 63, 64, 3, 65, 66, 67, 68, 69, 70, 75, 76, 77, 78, 79, 80, 81, 82, 83] rfl (by decide +kernel)
set_option maxRecDepth 20000 in
theorem gX0_searchAmong_X0_chooseHeirs : GoodIn wsX0_searchAmong (wsV RX0 57 RX0 yX0_chooseHeirs wsX0_chooseHeirs) := goodIn_app (goodIn_of _ (by decide +kernel)) ggX0_searchAmong_X0_chooseHeirs
set_option maxRecDepth 20000 in
theorem ggX0_searchAmong_X0_stepBounds : GoodIn wsX0_searchAmong wsX0_stepBounds := goodIn_r _ [74, 3, 1, 75, 76, 77, 78, 79, 80, 81, 82, 83] rfl (by decide +kernel)
set_option maxRecDepth 20000 in
theorem gX0_searchAmong_X0_stepBounds : GoodIn wsX0_searchAmong (wsV RX0 67 RX0 yX0_stepBounds wsX0_stepBounds) := goodIn_app (goodIn_of _ (by decide +kernel)) ggX0_searchAmong_X0_stepBounds
set_option maxRecDepth 20000 in
theorem ggX0_sumUp_X2_shareOfSector : GoodIn wsX0_sumUp wsX2_shareOfSector := goodIn_r _ [6, 7, 8, 9, 10, 5, 11, 12, 22, 23, 24, 25, 26, 27] rfl (by decide +kernel)
set_option maxRecDepth 20000 in
theorem gX0_sumUp_X2_shareOfSector : GoodIn wsX0_sumUp (wsV RX0 71 RX2 yX2_shareOfSector wsX2_shareOfSector) := goodIn_app (goodIn_of _ (by decide +kernel)) ggX0_sumUp_X2_shareOfSector
set_option maxRecDepth 20000 in
theorem ggX0_isSettled_X0_isFound : GoodIn wsX0_isSettled wsX0_isFound := goodIn_r _ [6, 7, 8, 9, 10, 11, 12, 13, 14, 15, 16] rfl (by decide +kernel)
set_option maxRecDepth 20000 in
theorem gX0_isSettled_X0_isFound : GoodIn wsX0_isSettled (wsV RX0 41 RX0 yX0_isFound wsX0_isFound) := goodIn_app (goodIn_of _ (by decide +kernel)) ggX0_isSettled_X0_isFound
set_option maxRecDepth 20000 in
theorem ggX0_firstArcOfNoUse_X0_noteShares : GoodIn wsX0_firstArcOfNoUse wsX0_noteShares := goodIn_r _ [6, 1, 7, 8, 9, 10, 11, 12, 5, 13, 14, 15, 16, 17, 18, 19, 20, 21, 22, 23, 24] rfl (by decide +kernel)
set_option maxRecDepth 20000 in
theorem gX0_firstArcOfNoUse_X0_noteShares : GoodIn wsX0_firstArcOfNoUse (wsV RX0 76 RX0 yX0_noteShares wsX0_noteShares) := goodIn_app (goodIn_of _ (by decide +kernel)) ggX0_firstArcOfNoUse_X0_noteShares
set_option maxRecDepth 20000 in
theorem ggX0_noteShares_X0_isEnough : GoodIn wsX0_noteShares wsX0_isEnough := goodIn_r _ [9, 10, 1, 3, 11, 12, 13, 14, 15, 16, 17, 18, 19, 20] rfl (by decide +kernel)
set_option maxRecDepth 20000 in
theorem gX0_noteShares_X0_isEnough : GoodIn wsX0_noteShares (wsV RX0 79 RX0 yX0_isEnough wsX0_isEnough) := goodIn_app (goodIn_of _ (by decide +kernel)) ggX0_noteShares_X0_isEnough
set_option maxRecDepth 20000 in
theorem ggX0_chooseHeirs_X0_isSettled : GoodIn wsX0_chooseHeirs wsX0_isSettled := goodIn_r _ [14, 7, 15, 16, 17, 13, 18, 8, 41, 42, 43, 44, 45, 46, 47, 48, 49] rfl (by decide +kernel)
set_option maxRecDepth 20000 in
theorem gX0_chooseHeirs_X0_isSettled : GoodIn wsX0_chooseHeirs (wsV RX0 49 RX0 yX0_isSettled wsX0_isSettled) := goodIn_app (goodIn_of _ (by decide +kernel)) ggX0_chooseHeirs_X0_isSettled
set_option maxRecDepth 20000 in
theorem ggX0_chooseHeirs_X0_isEnvious : GoodIn wsX0_chooseHeirs wsX0_isEnvious := goodIn_r _ [22, 1, 2, 41, 42, 43, 44, 45, 46, 47, 48, 49] rfl (by decide +kernel)
set_option maxRecDepth 20000 in
theorem gX0_chooseHeirs_X0_isEnvious : GoodIn wsX0_chooseHeirs (wsV RX0 83 RX0 yX0_isEnvious wsX0_isEnvious) := goodIn_app (goodIn_of _ (by decide +kernel)) ggX0_chooseHeirs_X0_isEnvious
set_option maxRecDepth 20000 in
theorem ggX0_chooseHeirs_X0_chooseBehind : GoodIn wsX0_chooseHeirs wsX0_chooseBehind := goodIn_r _ [26, 1, 27, 28, 29, 13, 30, 31, 32, 33, 8, 34, 35, 36, 37, 38, 39, 9, 40, 0, 2, 3, 4, 5, 6, 7, 10, 11, 12, 14, 15, 16, 17, 18, 19, 20, 21, 22, 23, 24, 25, 41, 42, 43, 44, 45, 46, 47, 48, 49] rfl (by decide +kernel)
set_option maxRecDepth 20000 in
theorem gX0_chooseHeirs_X0_chooseBehind : GoodIn wsX0_chooseHeirs (wsV RX0 86 RX0 yX0_chooseBehind wsX0_chooseBehind) := goodIn_app (goodIn_of _ (by decide +kernel)) ggX0_chooseHeirs_X0_chooseBehind
set_option maxRecDepth 20000 in
theorem ggX0_chooseBehind_X0_chooseHeirs : GoodIn wsX0_chooseBehind wsX0_chooseHeirs := goodIn_r _ [19, 1, 20, 21, 22, 23, 24, 25, 10, 17, 26, 27, 28, 5, 29, 30, 31, 32, 33, 34, 35, 36, 37, 38, 39, 40, 0, 2, 3, 4, 6, 7, 8, 9, 11, 12, 13, 14, 15, 16, 18, 41, 42, 43, 44, 45, 46, 47, 48, 49] rfl (by decide +kernel)
set_option maxRecDepth 20000 in
theorem gX0_chooseBehind_X0_chooseHeirs : GoodIn wsX0_chooseBehind (wsV RX0 57 RX0 yX0_chooseHeirs wsX0_chooseHeirs) := goodIn_app (goodIn_of _ (by decide +kernel)) ggX0_chooseBehind_X0_chooseHeirs
set_option maxRecDepth 20000 in
theorem ggX0_chooseBehind_X0_keep : GoodIn wsX0_chooseBehind wsX0_keep := goodIn_r _ [9, 10, 11, 12, 1, 13, 14, 15, 16, 17, 18, 41, 42, 43, 44, 45, 46, 47, 48, 49] rfl (by decide +kernel)
set_option maxRecDepth 20000 in
theorem gX0_chooseBehind_X0_keep : GoodIn wsX0_chooseBehind (wsV RX0 89 RX0 yX0_keep wsX0_keep) := goodIn_app (goodIn_of _ (by decide +kernel)) ggX0_chooseBehind_X0_keep
set_option maxRecDepth 20000 in
theorem ggX1_lengthFor_X2_sortAt : GoodIn wsX1_lengthFor wsX2_sortAt := goodIn_r _ [6, 7, 54, 55, 56, 57, 58, 59] rfl (by decide +kernel)
set_option maxRecDepth 20000 in
theorem gX1_lengthFor_X2_sortAt : GoodIn wsX1_lengthFor (wsV RX1 25 RX2 yX2_sortAt wsX2_sortAt) := goodIn_app (goodIn_of _ (by decide +kernel)) ggX1_lengthFor_X2_sortAt
set_option maxRecDepth 20000 in
theorem ggX1_lengthFor_X2_ownerOf : GoodIn wsX1_lengthFor wsX2_ownerOf := goodIn_r _ [11, 12, 13, 14, 15, 5, 16, 17, 54, 55, 56, 57, 58, 59] rfl (by decide +kernel)
set_option maxRecDepth 20000 in
theorem gX1_lengthFor_X2_ownerOf : GoodIn wsX1_lengthFor (wsV RX1 31 RX2 yX2_ownerOf wsX2_ownerOf) := goodIn_app (goodIn_of _ (by decide +kernel)) ggX1_lengthFor_X2_ownerOf
set_option maxRecDepth 20000 in
theorem ggX1_lengthFor_X1_openSides : GoodIn wsX1_lengthFor wsX1_openSides := goodIn_r _ [22, 23, 49, 50, 51, 52, 53] rfl (by decide +kernel)
set_option maxRecDepth 20000 in
theorem gX1_lengthFor_X1_openSides : GoodIn wsX1_lengthFor (wsV RX1 35 RX1 yX1_openSides wsX1_openSides) := goodIn_app (goodIn_of _ (by decide +kernel)) ggX1_lengthFor_X1_openSides
set_option maxRecDepth 20000 in
theorem ggX1_lengthFor_X1_seekGoal : GoodIn wsX1_lengthFor wsX1_seekGoal := goodIn_r _ [27, 28, 29, 30, 1, 23, 2, 3, 4, 5, 6, 7, 8, 9, 10, 11, 12, 13, 14, 15, 16, 17, 31, 32, 33, 21, 34, 35, 36, 37, 49, 50, 51, 52, 53, 54, 55, 56, 57, 58, 59] rfl (by decide +kernel)
set_option maxRecDepth 20000 in
theorem gX1_lengthFor_X1_seekGoal : GoodIn wsX1_lengthFor (wsV RX1 39 RX1 yX1_seekGoal wsX1_seekGoal) := goodIn_app (goodIn_of _ (by decide +kernel)) ggX1_lengthFor_X1_seekGoal
set_option maxRecDepth 20000 in
theorem ggX1_lengthFor_X1_streamTo : GoodIn wsX1_lengthFor wsX1_streamTo := goodIn_r _ [41, 29, 23, 42, 43, 44, 45, 46, 47, 21, 48, 35, 36, 37, 49, 50, 51, 52, 53] rfl (by decide +kernel)
set_option maxRecDepth 20000 in
theorem gX1_lengthFor_X1_streamTo : GoodIn wsX1_lengthFor (wsV RX1 43 RX1 yX1_streamTo wsX1_streamTo) := goodIn_app (goodIn_of _ (by decide +kernel)) ggX1_lengthFor_X1_streamTo
set_option maxRecDepth 20000 in
theorem ggX1_seekGoal_X2_sortAt : GoodIn wsX1_seekGoal wsX2_sortAt := goodIn_r _ [10, 11, 35, 36, 37, 38, 39, 40] rfl (by decide +kernel)
set_option maxRecDepth 20000 in
theorem gX1_seekGoal_X2_sortAt : GoodIn wsX1_seekGoal (wsV RX1 25 RX2 yX2_sortAt wsX2_sortAt) := goodIn_app (goodIn_of _ (by decide +kernel)) ggX1_seekGoal_X2_sortAt
set_option maxRecDepth 20000 in
theorem ggX1_seekGoal_X2_ownerOf : GoodIn wsX1_seekGoal wsX2_ownerOf := goodIn_r _ [15, 16, 17, 18, 19, 9, 20, 21, 35, 36, 37, 38, 39, 40] rfl (by decide +kernel)
set_option maxRecDepth 20000 in
theorem gX1_seekGoal_X2_ownerOf : GoodIn wsX1_seekGoal (wsV RX1 31 RX2 yX2_ownerOf wsX2_ownerOf) := goodIn_app (goodIn_of _ (by decide +kernel)) ggX1_seekGoal_X2_ownerOf
set_option maxRecDepth 20000 in
theorem ggX1_seekGoal_X1_reach : GoodIn wsX1_seekGoal wsX1_reach := goodIn_r _ [26, 2, 1, 3, 30, 31, 32, 33, 34] rfl (by decide +kernel)
set_option maxRecDepth 20000 in
theorem gX1_seekGoal_X1_reach : GoodIn wsX1_seekGoal (wsV RX1 50 RX1 yX1_reach wsX1_reach) := goodIn_app (goodIn_of _ (by decide +kernel)) ggX1_seekGoal_X1_reach
set_option maxRecDepth 20000 in
theorem ggX1_seekGoal_X1_beside : GoodIn wsX1_seekGoal wsX1_beside := goodIn_r _ [29] rfl (by decide +kernel)
set_option maxRecDepth 20000 in
theorem gX1_seekGoal_X1_beside : GoodIn wsX1_seekGoal (va_wsS RX1 53 yX1_beside wsX1_beside) := goodIn_app (goodIn_of _ (by decide +kernel)) ggX1_seekGoal_X1_beside
set_option maxRecDepth 20000 in
theorem ggX1_streamTo_X1_opposite : GoodIn wsX1_streamTo wsX1_opposite := goodIn_r _ [10] rfl (by decide +kernel)
set_option maxRecDepth 20000 in
theorem gX1_streamTo_X1_opposite : GoodIn wsX1_streamTo (va_wsS RX1 56 yX1_opposite wsX1_opposite) := goodIn_app (goodIn_of _ (by decide +kernel)) ggX1_streamTo_X1_opposite
set_option maxRecDepth 20000 in
theorem ggX1_streamTo_X1_beside : GoodIn wsX1_streamTo wsX1_beside := goodIn_r _ [13] rfl (by decide +kernel)
set_option maxRecDepth 20000 in
theorem gX1_streamTo_X1_beside : GoodIn wsX1_streamTo (va_wsS RX1 53 yX1_beside wsX1_beside) := goodIn_app (goodIn_of _ (by decide +kernel)) ggX1_streamTo_X1_beside
set_option maxRecDepth 20000 in
theorem ggX2_sectorsOfSort_X2_sortAt : GoodIn wsX2_sectorsOfSort wsX2_sortAt := goodIn_r _ [5, 6, 7, 8, 9, 10, 11, 12] rfl (by decide +kernel)
set_option maxRecDepth 20000 in
theorem gX2_sectorsOfSort_X2_sortAt : GoodIn wsX2_sectorsOfSort (wsV RX2 43 RX2 yX2_sortAt wsX2_sortAt) := goodIn_app (goodIn_of _ (by decide +kernel)) ggX2_sectorsOfSort_X2_sortAt
set_option maxRecDepth 20000 in
theorem ggX2_ownerOf_X2_ownerBehind : GoodIn wsX2_ownerOf wsX2_ownerBehind := goodIn_r _ [6, 7, 8, 9, 10, 11, 12, 13] rfl (by decide +kernel)
set_option maxRecDepth 20000 in
theorem gX2_ownerOf_X2_ownerBehind : GoodIn wsX2_ownerOf (wsV RX2 47 RX2 yX2_ownerBehind wsX2_ownerBehind) := goodIn_app (goodIn_of _ (by decide +kernel)) ggX2_ownerOf_X2_ownerBehind
set_option maxRecDepth 20000 in
theorem ggX2_sectorsOf_X2_ownerOf : GoodIn wsX2_sectorsOf wsX2_ownerOf := goodIn_r _ [5, 6, 7, 8, 9, 4, 10, 11, 12, 13, 14, 15, 16, 17] rfl (by decide +kernel)
set_option maxRecDepth 20000 in
theorem gX2_sectorsOf_X2_ownerOf : GoodIn wsX2_sectorsOf (wsV RX2 50 RX2 yX2_ownerOf wsX2_ownerOf) := goodIn_app (goodIn_of _ (by decide +kernel)) ggX2_sectorsOf_X2_ownerOf
set_option maxRecDepth 20000 in
theorem ggX2_ownersOf_X2_ownerOf : GoodIn wsX2_ownersOf wsX2_ownerOf := goodIn_r _ [5, 6, 7, 8, 9, 4, 10, 11, 12, 13, 14, 15, 16, 17] rfl (by decide +kernel)
set_option maxRecDepth 20000 in
theorem gX2_ownersOf_X2_ownerOf : GoodIn wsX2_ownersOf (wsV RX2 50 RX2 yX2_ownerOf wsX2_ownerOf) := goodIn_app (goodIn_of _ (by decide +kernel)) ggX2_ownersOf_X2_ownerOf
set_option maxRecDepth 20000 in
theorem ggX2_giveAway_X2_ownerOf : GoodIn wsX2_giveAway wsX2_ownerOf := goodIn_r _ [5, 6, 7, 8, 9, 4, 10, 11, 16, 17, 18, 19, 20, 21] rfl (by decide +kernel)
set_option maxRecDepth 20000 in
theorem gX2_giveAway_X2_ownerOf : GoodIn wsX2_giveAway (wsV RX2 50 RX2 yX2_ownerOf wsX2_ownerOf) := goodIn_app (goodIn_of _ (by decide +kernel)) ggX2_giveAway_X2_ownerOf
set_option maxRecDepth 20000 in
theorem ggX2_giveAway_X2_give : GoodIn wsX2_giveAway wsX2_give := goodIn_r _ [15, 11, 6, 16, 17, 18, 19, 20, 21] rfl (by decide +kernel)
set_option maxRecDepth 20000 in
theorem gX2_giveAway_X2_give : GoodIn wsX2_giveAway (wsV RX2 54 RX2 yX2_give wsX2_give) := goodIn_app (goodIn_of _ (by decide +kernel)) ggX2_giveAway_X2_give
set_option maxRecDepth 20000 in
theorem ggX2_join_X2_ownerOf : GoodIn wsX2_join wsX2_ownerOf := goodIn_r _ [5, 6, 7, 8, 9, 4, 10, 11, 16, 17, 18, 19, 20, 21] rfl (by decide +kernel)
set_option maxRecDepth 20000 in
theorem gX2_join_X2_ownerOf : GoodIn wsX2_join (wsV RX2 50 RX2 yX2_ownerOf wsX2_ownerOf) := goodIn_app (goodIn_of _ (by decide +kernel)) ggX2_join_X2_ownerOf
set_option maxRecDepth 20000 in
theorem ggX2_join_X2_give : GoodIn wsX2_join wsX2_give := goodIn_r _ [15, 11, 6, 16, 17, 18, 19, 20, 21] rfl (by decide +kernel)
set_option maxRecDepth 20000 in
theorem gX2_join_X2_give : GoodIn wsX2_join (wsV RX2 54 RX2 yX2_give wsX2_give) := goodIn_app (goodIn_of _ (by decide +kernel)) ggX2_join_X2_give
set_option maxRecDepth 20000 in
theorem ggX2_shareOfSector_X2_sortAt : GoodIn wsX2_shareOfSector wsX2_sortAt := goodIn_r _ [6, 7, 8, 9, 10, 11, 12, 13] rfl (by decide +kernel)
set_option maxRecDepth 20000 in
theorem gX2_shareOfSector_X2_sortAt : GoodIn wsX2_shareOfSector (wsV RX2 43 RX2 yX2_sortAt wsX2_sortAt) := goodIn_app (goodIn_of _ (by decide +kernel)) ggX2_shareOfSector_X2_sortAt
set_option maxRecDepth 20000 in
theorem ggX2_shareOf_X2_shareOfSector : GoodIn wsX2_shareOf wsX2_shareOfSector := goodIn_r _ [5, 6, 7, 8, 9, 4, 10, 11, 12, 13, 14, 15, 16, 17] rfl (by decide +kernel)
set_option maxRecDepth 20000 in
theorem gX2_shareOf_X2_shareOfSector : GoodIn wsX2_shareOf (wsV RX2 58 RX2 yX2_shareOfSector wsX2_shareOfSector) := goodIn_app (goodIn_of _ (by decide +kernel)) ggX2_shareOf_X2_shareOfSector
set_option maxRecDepth 20000 in
theorem ggX2_setRight_X2_hasRight : GoodIn wsX2_setRight wsX2_hasRight := goodIn_r _ [6, 1, 7, 8, 9, 10, 11, 12] rfl (by decide +kernel)
set_option maxRecDepth 20000 in
theorem gX2_setRight_X2_hasRight : GoodIn wsX2_setRight (wsV RX2 61 RX2 yX2_hasRight wsX2_hasRight) := goodIn_app (goodIn_of _ (by decide +kernel)) ggX2_setRight_X2_hasRight
set_option maxRecDepth 20000 in
theorem ggX2_isFreeFor_X2_ownerOf : GoodIn wsX2_isFreeFor wsX2_ownerOf := goodIn_r _ [5, 6, 7, 8, 9, 4, 10, 11, 17, 18, 19, 20, 21, 22] rfl (by decide +kernel)
set_option maxRecDepth 20000 in
theorem gX2_isFreeFor_X2_ownerOf : GoodIn wsX2_isFreeFor (wsV RX2 50 RX2 yX2_ownerOf wsX2_ownerOf) := goodIn_app (goodIn_of _ (by decide +kernel)) ggX2_isFreeFor_X2_ownerOf
set_option maxRecDepth 20000 in
theorem ggX2_isFreeFor_X2_hasRight : GoodIn wsX2_isFreeFor wsX2_hasRight := goodIn_r _ [15, 16, 17, 18, 19, 20, 21, 22] rfl (by decide +kernel)
set_option maxRecDepth 20000 in
theorem gX2_isFreeFor_X2_hasRight : GoodIn wsX2_isFreeFor (wsV RX2 61 RX2 yX2_hasRight wsX2_hasRight) := goodIn_app (goodIn_of _ (by decide +kernel)) ggX2_isFreeFor_X2_hasRight
set_option maxRecDepth 20000 in
theorem ggX3_letterAt_J0_indexOf_0f7a4 : GoodIn wsX3_letterAt wsJ0_indexOf_0f7a4 := goodIn_r _ [7, 8, 9, 10, 6, 11, 12, 13, 14, 15, 16, 17, 18, 19, 20, 21, 22, 23, 24, 25, 26, 27, 28, 29, 30, 31, 32, 33, 34, 35, 36, 37, 38, 39, 40, 41, 42, 43, 44, 45, 46, 47, 48, 49, 50, 51, 52, 53, 54, 55, 56, 57, 58, 59, 60, 61, 62, 63, 64, 65, 66, 67, 68, 69, 70, 71, 72, 73, 74, 75, 76, 77, 78, 79, 80, 81, 82, 83, 84, 85, 86, 87, 88, 89, 90, 91] rfl (by decide +kernel)
set_option maxRecDepth 20000 in
theorem gX3_letterAt_J0_indexOf_0f7a4 : GoodIn wsX3_letterAt (wsV RX3 23 RJ0 yJ0_indexOf_0f7a4 wsJ0_indexOf_0f7a4) := goodIn_app (goodIn_of _ (by decide +kernel)) ggX3_letterAt_J0_indexOf_0f7a4
set_option maxRecDepth 20000 in
theorem ggX3_faultOfRuns_X3_letterAt : GoodIn wsX3_faultOfRuns wsX3_letterAt := goodIn_r _ [6, 1, 7, 8, 9, 10, 11, 12, 13, 14, 15, 16, 17, 18, 19, 20, 21, 22, 23, 24, 25, 26, 27, 28, 29, 30, 31, 32, 33, 34, 35, 36, 37, 38, 39, 40, 41, 42, 43, 44, 45, 46, 47, 48, 49, 50, 51, 52, 53, 54, 55, 56, 57, 58, 59, 60, 61, 62, 63, 64, 65, 66, 67, 68, 69, 70, 71, 72, 73, 74, 75, 76, 77, 78, 79, 80, 81, 82, 83, 84, 85, 86, 87, 88, 89, 90, 91, 92, 93, 94, 95, 96, 101, 102, 103] rfl (by decide +kernel)
set_option maxRecDepth 20000 in
theorem gX3_faultOfRuns_X3_letterAt : GoodIn wsX3_faultOfRuns (wsV RX3 29 RX3 yX3_letterAt wsX3_letterAt) := goodIn_app (goodIn_of _ (by decide +kernel)) ggX3_faultOfRuns_X3_letterAt
set_option maxRecDepth 20000 in
theorem ggX3_faultOfRuns_X3_digitAt : GoodIn wsX3_faultOfRuns wsX3_digitAt := goodIn_r _ [100, 1, 7, 101, 102, 103] rfl (by decide +kernel)
set_option maxRecDepth 20000 in
theorem gX3_faultOfRuns_X3_digitAt : GoodIn wsX3_faultOfRuns (wsV RX3 33 RX3 yX3_digitAt wsX3_digitAt) := goodIn_app (goodIn_of _ (by decide +kernel)) ggX3_faultOfRuns_X3_digitAt
set_option maxRecDepth 20000 in
theorem ggX3_readRuns_X3_letterAt : GoodIn wsX3_readRuns wsX3_letterAt := goodIn_r _ [7, 1, 8, 9, 10, 11, 12, 13, 14, 15, 16, 17, 18, 19, 20, 21, 22, 23, 24, 25, 26, 27, 28, 29, 30, 31, 32, 33, 34, 35, 36, 37, 38, 39, 40, 41, 42, 43, 44, 45, 46, 47, 48, 49, 50, 51, 52, 53, 54, 55, 56, 57, 58, 59, 60, 61, 62, 63, 64, 65, 66, 67, 68, 69, 70, 71, 72, 73, 74, 75, 76, 77, 78, 79, 80, 81, 82, 83, 84, 85, 86, 87, 88, 89, 90, 91, 92, 93, 94, 95, 96, 97, 102, 103, 104] rfl (by decide +kernel)
set_option maxRecDepth 20000 in
theorem gX3_readRuns_X3_letterAt : GoodIn wsX3_readRuns (wsV RX3 29 RX3 yX3_letterAt wsX3_letterAt) := goodIn_app (goodIn_of _ (by decide +kernel)) ggX3_readRuns_X3_letterAt
set_option maxRecDepth 20000 in
theorem ggX3_readRuns_X3_digitAt : GoodIn wsX3_readRuns wsX3_digitAt := goodIn_r _ [101, 1, 8, 102, 103, 104] rfl (by decide +kernel)
set_option maxRecDepth 20000 in
theorem gX3_readRuns_X3_digitAt : GoodIn wsX3_readRuns (wsV RX3 33 RX3 yX3_digitAt wsX3_digitAt) := goodIn_app (goodIn_of _ (by decide +kernel)) ggX3_readRuns_X3_digitAt
set_option maxRecDepth 20000 in
theorem ggJ0_length_8abf5_J0_coder_7d493 : GoodIn wsJ0_length_8abf5 wsJ0_coder_7d493 := goodIn_r _ [6, 7, 8] rfl (by decide +kernel)
set_option maxRecDepth 20000 in
theorem gJ0_length_8abf5_J0_coder_7d493 : GoodIn wsJ0_length_8abf5 (wsV RJ0 335 RJ0 yJ0_coder_7d493 wsJ0_coder_7d493) := goodIn_app (goodIn_of _ (by decide +kernel)) ggJ0_length_8abf5_J0_coder_7d493
set_option maxRecDepth 20000 in
theorem ggJ0_charAt_5068e_J0_isLatin1_aae02 : GoodIn wsJ0_charAt_5068e wsJ0_isLatin1_aae02 := goodIn_r _ [6, 7, 8] rfl (by decide +kernel)
set_option maxRecDepth 20000 in
theorem gJ0_charAt_5068e_J0_isLatin1_aae02 : GoodIn wsJ0_charAt_5068e (wsV RJ0 492 RJ0 yJ0_isLatin1_aae02 wsJ0_isLatin1_aae02) := goodIn_app (goodIn_of _ (by decide +kernel)) ggJ0_charAt_5068e_J0_isLatin1_aae02
set_option maxRecDepth 20000 in
theorem ggJ0_charAt_5068e_J1_charAt_3b067 : GoodIn wsJ0_charAt_5068e wsJ1_charAt_3b067 := goodIn_r _ [12, 13, 14, 5, 15, 16, 17, 18, 19, 20] rfl (by decide +kernel)
set_option maxRecDepth 20000 in
theorem gJ0_charAt_5068e_J1_charAt_3b067 : GoodIn wsJ0_charAt_5068e (va_wsS RJ0 495 yJ1_charAt_3b067 wsJ1_charAt_3b067) := goodIn_app (goodIn_of _ (by decide +kernel)) ggJ0_charAt_5068e_J1_charAt_3b067
set_option maxRecDepth 20000 in
theorem ggJ0_charAt_5068e_J2_charAt_3b067 : GoodIn wsJ0_charAt_5068e wsJ2_charAt_3b067 := goodIn_r _ [24, 25, 26, 23, 27, 28, 29, 30, 31, 14, 5, 15, 16, 17, 18, 19, 20, 32, 33, 34, 35, 36, 37] rfl (by decide +kernel)
set_option maxRecDepth 20000 in
theorem gJ0_charAt_5068e_J2_charAt_3b067 : GoodIn wsJ0_charAt_5068e (va_wsS RJ0 498 yJ2_charAt_3b067 wsJ2_charAt_3b067) := goodIn_app (goodIn_of _ (by decide +kernel)) ggJ0_charAt_5068e_J2_charAt_3b067
set_option maxRecDepth 20000 in
theorem ggJ0_indexOf_0f7a4_J0_indexOf_7cf53 : GoodIn wsJ0_indexOf_0f7a4 wsJ0_indexOf_7cf53 := goodIn_r _ [5, 6, 7, 8, 9, 4, 10, 11, 12, 13, 14, 15, 16, 17, 18, 19, 20, 21, 22, 23, 24, 25, 26, 27, 28, 29, 30, 31, 32, 33, 34, 35, 36, 37, 38, 39, 40, 41, 42, 43, 44, 45, 46, 47, 48, 49, 50, 51, 52, 53, 54, 55, 56, 57, 58, 59, 60, 61, 62, 63, 64, 65, 66, 67, 68, 69, 70, 71, 72, 73, 74, 75, 76, 77, 78, 79, 80, 81, 82, 83, 84, 85] rfl (by decide +kernel)
set_option maxRecDepth 20000 in
theorem gJ0_indexOf_0f7a4_J0_indexOf_7cf53 : GoodIn wsJ0_indexOf_0f7a4 (wsV RJ0 633 RJ0 yJ0_indexOf_7cf53 wsJ0_indexOf_7cf53) := goodIn_app (goodIn_of _ (by decide +kernel)) ggJ0_indexOf_0f7a4_J0_indexOf_7cf53
set_option maxRecDepth 20000 in
theorem ggJ0_indexOf_7cf53_J0_isLatin1_aae02 : GoodIn wsJ0_indexOf_7cf53 wsJ0_isLatin1_aae02 := goodIn_r _ [6, 7, 8] rfl (by decide +kernel)
set_option maxRecDepth 20000 in
theorem gJ0_indexOf_7cf53_J0_isLatin1_aae02 : GoodIn wsJ0_indexOf_7cf53 (wsV RJ0 492 RJ0 yJ0_isLatin1_aae02 wsJ0_isLatin1_aae02) := goodIn_app (goodIn_of _ (by decide +kernel)) ggJ0_indexOf_7cf53_J0_isLatin1_aae02
set_option maxRecDepth 20000 in
theorem ggJ0_indexOf_7cf53_J0_length_8abf5 : GoodIn wsJ0_indexOf_7cf53 wsJ0_length_8abf5 := goodIn_r _ [12, 1, 13, 14, 15, 5, 16, 7, 8] rfl (by decide +kernel)
set_option maxRecDepth 20000 in
theorem gJ0_indexOf_7cf53_J0_length_8abf5 : GoodIn wsJ0_indexOf_7cf53 (wsV RJ0 505 RJ0 yJ0_length_8abf5 wsJ0_length_8abf5) := goodIn_app (goodIn_of _ (by decide +kernel)) ggJ0_indexOf_7cf53_J0_length_8abf5
set_option maxRecDepth 20000 in
theorem ggJ0_indexOf_7cf53_J1_indexOf_4cfef : GoodIn wsJ0_indexOf_7cf53 wsJ1_indexOf_4cfef := goodIn_r _ [20, 21, 22, 23, 24, 25, 26, 27, 28, 29, 19, 30, 31, 32, 33] rfl (by decide +kernel)
set_option maxRecDepth 20000 in
theorem gJ0_indexOf_7cf53_J1_indexOf_4cfef : GoodIn wsJ0_indexOf_7cf53 (va_wsS RJ0 637 yJ1_indexOf_4cfef wsJ1_indexOf_4cfef) := goodIn_app (goodIn_of _ (by decide +kernel)) ggJ0_indexOf_7cf53_J1_indexOf_4cfef
set_option maxRecDepth 20000 in
theorem ggJ0_indexOf_7cf53_J2_indexOf_4cfef : GoodIn wsJ0_indexOf_7cf53 wsJ2_indexOf_4cfef := goodIn_r _ [37, 38, 22, 23, 24, 39, 26, 27, 40, 41, 42, 36, 43, 44, 45, 46, 47, 48, 49, 50, 51, 5, 52, 53, 54, 55, 56, 57, 58, 59, 60, 61, 62, 63, 64, 65, 66, 67, 68, 69, 70, 71, 72, 73, 74, 75, 76, 77, 78, 79, 80, 81] rfl (by decide +kernel)
set_option maxRecDepth 20000 in
theorem gJ0_indexOf_7cf53_J2_indexOf_4cfef : GoodIn wsJ0_indexOf_7cf53 (va_wsS RJ0 640 yJ2_indexOf_4cfef wsJ2_indexOf_4cfef) := goodIn_app (goodIn_of _ (by decide +kernel)) ggJ0_indexOf_7cf53_J2_indexOf_4cfef
set_option maxRecDepth 20000 in
theorem ggJ0_checkIndex_df160_J3_checkIndex_8e157 : GoodIn wsJ0_checkIndex_df160 wsJ3_checkIndex_8e157 := goodIn_r _ [5] rfl (by decide +kernel)
set_option maxRecDepth 20000 in
theorem gJ0_checkIndex_df160_J3_checkIndex_8e157 : GoodIn wsJ0_checkIndex_df160 (va_wsS RJ0 1059 yJ3_checkIndex_8e157 wsJ3_checkIndex_8e157) := goodIn_app (goodIn_of _ (by decide +kernel)) ggJ0_checkIndex_df160_J3_checkIndex_8e157
set_option maxRecDepth 20000 in
theorem ggJ0_checkBoundsBeginEnd_23922_J3_checkFromToIndex_8c36e : GoodIn wsJ0_checkBoundsBeginEnd_23922 wsJ3_checkFromToIndex_8c36e := goodIn_r _ [5] rfl (by decide +kernel)
set_option maxRecDepth 20000 in
theorem gJ0_checkBoundsBeginEnd_23922_J3_checkFromToIndex_8c36e : GoodIn wsJ0_checkBoundsBeginEnd_23922 (va_wsS RJ0 1062 yJ3_checkFromToIndex_8c36e wsJ3_checkFromToIndex_8c36e) := goodIn_app (goodIn_of _ (by decide +kernel)) ggJ0_checkBoundsBeginEnd_23922_J3_checkFromToIndex_8c36e
set_option maxRecDepth 20000 in
theorem ggJ1_charAt_3b067_J0_checkIndex_df160 : GoodIn wsJ1_charAt_3b067 wsJ0_checkIndex_df160 := goodIn_r _ [4, 5, 6, 7, 8, 9] rfl (by decide +kernel)
set_option maxRecDepth 20000 in
theorem gJ1_charAt_3b067_J0_checkIndex_df160 : GoodIn wsJ1_charAt_3b067 (va_wsS RJ1 9 yJ0_checkIndex_df160 wsJ0_checkIndex_df160) := goodIn_app (goodIn_of _ (by decide +kernel)) ggJ1_charAt_3b067_J0_checkIndex_df160
set_option maxRecDepth 20000 in
theorem ggJ1_indexOf_4cfef_J1_canEncode_9a6ad : GoodIn wsJ1_indexOf_4cfef wsJ1_canEncode_9a6ad := goodIn_r _ [11] rfl (by decide +kernel)
set_option maxRecDepth 20000 in
theorem gJ1_indexOf_4cfef_J1_canEncode_9a6ad : GoodIn wsJ1_indexOf_4cfef (va_wsS RJ1 88 yJ1_canEncode_9a6ad wsJ1_canEncode_9a6ad) := goodIn_app (goodIn_of _ (by decide +kernel)) ggJ1_indexOf_4cfef_J1_canEncode_9a6ad
set_option maxRecDepth 20000 in
theorem ggJ1_indexOf_4cfef_J1_indexOfChar_4cfef : GoodIn wsJ1_indexOf_4cfef wsJ1_indexOfChar_4cfef := goodIn_r _ [14] rfl (by decide +kernel)
set_option maxRecDepth 20000 in
theorem gJ1_indexOf_4cfef_J1_indexOfChar_4cfef : GoodIn wsJ1_indexOf_4cfef (va_wsS RJ1 95 yJ1_indexOfChar_4cfef wsJ1_indexOfChar_4cfef) := goodIn_app (goodIn_of _ (by decide +kernel)) ggJ1_indexOf_4cfef_J1_indexOfChar_4cfef
