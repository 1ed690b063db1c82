theorem dX4_init_0 : decode cX4_init 0 = .ok (.aload_n 0, 1) := by decide +kernel
theorem dX4_init_1 : decode cX4_init 1 = .ok (.invokespecial 3, 3) := by decide +kernel
theorem dX4_init_4 : decode cX4_init 4 = .ok (.aload_n 0, 1) := by decide +kernel
theorem dX4_init_5 : decode cX4_init 5 = .ok (.new 9, 3) := by decide +kernel
theorem dX4_init_8 : decode cX4_init 8 = .ok (.dup, 1) := by decide +kernel
theorem dX4_init_9 : decode cX4_init 9 = .ok (.invokespecial 11, 3) := by decide +kernel
theorem dX4_init_12 : decode cX4_init 12 = .ok (.putfield 12, 3) := by decide +kernel
theorem dX4_init_15 : decode cX4_init 15 = .ok (.aload_n 0, 1) := by decide +kernel
theorem dX4_init_16 : decode cX4_init 16 = .ok (.new 16, 3) := by decide +kernel
theorem dX4_init_19 : decode cX4_init 19 = .ok (.dup, 1) := by decide +kernel
theorem dX4_init_20 : decode cX4_init 20 = .ok (.invokespecial 18, 3) := by decide +kernel
theorem dX4_init_23 : decode cX4_init 23 = .ok (.putfield 19, 3) := by decide +kernel
theorem dX4_init_26 : decode cX4_init 26 = .ok (.aload_n 0, 1) := by decide +kernel
theorem dX4_init_27 : decode cX4_init 27 = .ok (.iconst 2, 1) := by decide +kernel
theorem dX4_init_28 : decode cX4_init 28 = .ok (.anewarray 16, 3) := by decide +kernel
theorem dX4_init_31 : decode cX4_init 31 = .ok (.putfield 23, 3) := by decide +kernel
theorem dX4_init_34 : decode cX4_init 34 = .ok (.aload_n 0, 1) := by decide +kernel
theorem dX4_init_35 : decode cX4_init 35 = .ok (.new 27, 3) := by decide +kernel
theorem dX4_init_38 : decode cX4_init 38 = .ok (.dup, 1) := by decide +kernel
theorem dX4_init_39 : decode cX4_init 39 = .ok (.iconst 1, 1) := by decide +kernel
theorem dX4_init_40 : decode cX4_init 40 = .ok (.invokespecial 29, 3) := by decide +kernel
theorem dX4_init_43 : decode cX4_init 43 = .ok (.putfield 32, 3) := by decide +kernel
theorem dX4_init_46 : decode cX4_init 46 = .ok (.aload_n 0, 1) := by decide +kernel
theorem dX4_init_47 : decode cX4_init 47 = .ok (.new 27, 3) := by decide +kernel
theorem dX4_init_50 : decode cX4_init 50 = .ok (.dup, 1) := by decide +kernel
theorem dX4_init_51 : decode cX4_init 51 = .ok (.iconst 0, 1) := by decide +kernel
theorem dX4_init_52 : decode cX4_init 52 = .ok (.invokespecial 29, 3) := by decide +kernel
theorem dX4_init_55 : decode cX4_init 55 = .ok (.putfield 36, 3) := by decide +kernel
theorem dX4_init_58 : decode cX4_init 58 = .ok (.aload_n 0, 1) := by decide +kernel
theorem dX4_init_59 : decode cX4_init 59 = .ok (.new 39, 3) := by decide +kernel
theorem dX4_init_62 : decode cX4_init 62 = .ok (.dup, 1) := by decide +kernel
theorem dX4_init_63 : decode cX4_init 63 = .ok (.invokespecial 41, 3) := by decide +kernel
theorem dX4_init_66 : decode cX4_init 66 = .ok (.putfield 42, 3) := by decide +kernel
theorem dX4_init_69 : decode cX4_init 69 = .ok (.return_, 1) := by decide +kernel
theorem dX4_say_0 : decode cX4_say 0 = .ok (.iload_n 1, 1) := by decide +kernel
theorem dX4_say_1 : decode cX4_say 1 = .ok (.bipush 33, 2) := by decide +kernel
theorem dX4_say_3 : decode cX4_say 3 = .ok (.if_icmp .lt 9, 3) := by decide +kernel
theorem dX4_say_6 : decode cX4_say 6 = .ok (.iload_n 1, 1) := by decide +kernel
theorem dX4_say_7 : decode cX4_say 7 = .ok (.bipush 126, 2) := by decide +kernel
theorem dX4_say_9 : decode cX4_say 9 = .ok (.if_icmp .le 6, 3) := by decide +kernel
theorem dX4_say_12 : decode cX4_say 12 = .ok (.bipush (-2), 2) := by decide +kernel
theorem dX4_say_14 : decode cX4_say 14 = .ok (.ireturn, 1) := by decide +kernel
theorem dX4_say_15 : decode cX4_say 15 = .ok (.aload_n 0, 1) := by decide +kernel
theorem dX4_say_16 : decode cX4_say 16 = .ok (.getfield 12, 3) := by decide +kernel
theorem dX4_say_19 : decode cX4_say 19 = .ok (.iload_n 1, 1) := by decide +kernel
theorem dX4_say_20 : decode cX4_say 20 = .ok (.i2c, 1) := by decide +kernel
theorem dX4_say_21 : decode cX4_say 21 = .ok (.invokevirtual 46, 3) := by decide +kernel
theorem dX4_say_24 : decode cX4_say 24 = .ok (.ireturn, 1) := by decide +kernel
theorem dX4_wipe_0 : decode cX4_wipe 0 = .ok (.aload_n 0, 1) := by decide +kernel
theorem dX4_wipe_1 : decode cX4_wipe 1 = .ok (.getfield 12, 3) := by decide +kernel
theorem dX4_wipe_4 : decode cX4_wipe 4 = .ok (.invokevirtual 50, 3) := by decide +kernel
theorem dX4_wipe_7 : decode cX4_wipe 7 = .ok (.ireturn, 1) := by decide +kernel
theorem dX4_fault_0 : decode cX4_fault 0 = .ok (.iload_n 1, 1) := by decide +kernel
theorem dX4_fault_1 : decode cX4_fault 1 = .ok (.ifCond .lt 8, 3) := by decide +kernel
theorem dX4_fault_4 : decode cX4_fault 4 = .ok (.iload_n 1, 1) := by decide +kernel
theorem dX4_fault_5 : decode cX4_fault 5 = .ok (.iconst 2, 1) := by decide +kernel
theorem dX4_fault_6 : decode cX4_fault 6 = .ok (.if_icmp .le 6, 3) := by decide +kernel
theorem dX4_fault_9 : decode cX4_fault 9 = .ok (.bipush (-2), 2) := by decide +kernel
theorem dX4_fault_11 : decode cX4_fault 11 = .ok (.ireturn, 1) := by decide +kernel
theorem dX4_fault_12 : decode cX4_fault 12 = .ok (.aload_n 0, 1) := by decide +kernel
theorem dX4_fault_13 : decode cX4_fault 13 = .ok (.iload_n 1, 1) := by decide +kernel
theorem dX4_fault_14 : decode cX4_fault 14 = .ok (.invokevirtual 54, 3) := by decide +kernel
theorem dX4_fault_17 : decode cX4_fault 17 = .ok (.ireturn, 1) := by decide +kernel
theorem dX4_ring_0 : decode cX4_ring 0 = .ok (.iload_n 1, 1) := by decide +kernel
theorem dX4_ring_1 : decode cX4_ring 1 = .ok (.invokestatic 58, 3) := by decide +kernel
theorem dX4_ring_4 : decode cX4_ring 4 = .ok (.ifCond .ne 5, 3) := by decide +kernel
theorem dX4_ring_7 : decode cX4_ring 7 = .ok (.iconst (-1), 1) := by decide +kernel
theorem dX4_ring_8 : decode cX4_ring 8 = .ok (.ireturn, 1) := by decide +kernel
theorem dX4_ring_9 : decode cX4_ring 9 = .ok (.aload_n 0, 1) := by decide +kernel
theorem dX4_ring_10 : decode cX4_ring 10 = .ok (.iconst 0, 1) := by decide +kernel
theorem dX4_ring_11 : decode cX4_ring 11 = .ok (.invokevirtual 54, 3) := by decide +kernel
theorem dX4_ring_14 : decode cX4_ring 14 = .ok (.bipush (-6), 2) := by decide +kernel
theorem dX4_ring_16 : decode cX4_ring 16 = .ok (.if_icmp .eq 6, 3) := by decide +kernel
theorem dX4_ring_19 : decode cX4_ring 19 = .ok (.bipush (-5), 2) := by decide +kernel
theorem dX4_ring_21 : decode cX4_ring 21 = .ok (.ireturn, 1) := by decide +kernel
theorem dX4_ring_22 : decode cX4_ring 22 = .ok (.aload_n 0, 1) := by decide +kernel
theorem dX4_ring_23 : decode cX4_ring 23 = .ok (.getfield 19, 3) := by decide +kernel
theorem dX4_ring_26 : decode cX4_ring 26 = .ok (.iload_n 1, 1) := by decide +kernel
theorem dX4_ring_27 : decode cX4_ring 27 = .ok (.aload_n 0, 1) := by decide +kernel
theorem dX4_ring_28 : decode cX4_ring 28 = .ok (.getfield 12, 3) := by decide +kernel
theorem dX4_ring_31 : decode cX4_ring 31 = .ok (.ldc 62, 2) := by decide +kernel
theorem dX4_ring_33 : decode cX4_ring 33 = .ok (.iconst 0, 1) := by decide +kernel
theorem dX4_ring_34 : decode cX4_ring 34 = .ok (.invokevirtual 64, 3) := by decide +kernel
theorem dX4_ring_37 : decode cX4_ring 37 = .ok (.invokevirtual 68, 3) := by decide +kernel
theorem dX4_ring_40 : decode cX4_ring 40 = .ok (.aload_n 0, 1) := by decide +kernel
theorem dX4_ring_41 : decode cX4_ring 41 = .ok (.invokevirtual 72, 3) := by decide +kernel
theorem dX4_ring_44 : decode cX4_ring 44 = .ok (.aload_n 0, 1) := by decide +kernel
theorem dX4_ring_45 : decode cX4_ring 45 = .ok (.getfield 12, 3) := by decide +kernel
theorem dX4_ring_48 : decode cX4_ring 48 = .ok (.invokevirtual 50, 3) := by decide +kernel
theorem dX4_ring_51 : decode cX4_ring 51 = .ok (.iconst 2, 1) := by decide +kernel
theorem dX4_ring_52 : decode cX4_ring 52 = .ok (.idiv, 1) := by decide +kernel
theorem dX4_ring_53 : decode cX4_ring 53 = .ok (.ireturn, 1) := by decide +kernel
theorem dX4_slices_0 : decode cX4_slices 0 = .ok (.aload_n 0, 1) := by decide +kernel
theorem dX4_slices_1 : decode cX4_slices 1 = .ok (.iconst 1, 1) := by decide +kernel
theorem dX4_slices_2 : decode cX4_slices 2 = .ok (.invokevirtual 54, 3) := by decide +kernel
theorem dX4_slices_5 : decode cX4_slices 5 = .ok (.bipush (-6), 2) := by decide +kernel
theorem dX4_slices_7 : decode cX4_slices 7 = .ok (.if_icmp .eq 6, 3) := by decide +kernel
theorem dX4_slices_10 : decode cX4_slices 10 = .ok (.bipush (-5), 2) := by decide +kernel
theorem dX4_slices_12 : decode cX4_slices 12 = .ok (.ireturn, 1) := by decide +kernel
theorem dX4_slices_13 : decode cX4_slices 13 = .ok (.aload_n 0, 1) := by decide +kernel
theorem dX4_slices_14 : decode cX4_slices 14 = .ok (.getfield 19, 3) := by decide +kernel
theorem dX4_slices_17 : decode cX4_slices 17 = .ok (.aload_n 0, 1) := by decide +kernel
theorem dX4_slices_18 : decode cX4_slices 18 = .ok (.getfield 12, 3) := by decide +kernel
theorem dX4_slices_21 : decode cX4_slices 21 = .ok (.ldc 75, 2) := by decide +kernel
theorem dX4_slices_23 : decode cX4_slices 23 = .ok (.iconst 0, 1) := by decide +kernel
theorem dX4_slices_24 : decode cX4_slices 24 = .ok (.invokevirtual 64, 3) := by decide +kernel
theorem dX4_slices_27 : decode cX4_slices 27 = .ok (.invokevirtual 77, 3) := by decide +kernel
theorem dX4_slices_30 : decode cX4_slices 30 = .ok (.aload_n 0, 1) := by decide +kernel
theorem dX4_slices_31 : decode cX4_slices 31 = .ok (.getfield 12, 3) := by decide +kernel
theorem dX4_slices_34 : decode cX4_slices 34 = .ok (.invokevirtual 50, 3) := by decide +kernel
theorem dX4_slices_37 : decode cX4_slices 37 = .ok (.iconst 2, 1) := by decide +kernel
theorem dX4_slices_38 : decode cX4_slices 38 = .ok (.idiv, 1) := by decide +kernel
theorem dX4_slices_39 : decode cX4_slices 39 = .ok (.ireturn, 1) := by decide +kernel
theorem dX4_will_0 : decode cX4_will 0 = .ok (.aload_n 0, 1) := by decide +kernel
theorem dX4_will_1 : decode cX4_will 1 = .ok (.getfield 19, 3) := by decide +kernel
theorem dX4_will_4 : decode cX4_will 4 = .ok (.getfield 81, 3) := by decide +kernel
theorem dX4_will_7 : decode cX4_will 7 = .ok (.bipush 20, 2) := by decide +kernel
theorem dX4_will_9 : decode cX4_will 9 = .ok (.if_icmp .lt 6, 3) := by decide +kernel
theorem dX4_will_12 : decode cX4_will 12 = .ok (.bipush (-4), 2) := by decide +kernel
theorem dX4_will_14 : decode cX4_will 14 = .ok (.ireturn, 1) := by decide +kernel
theorem dX4_will_15 : decode cX4_will 15 = .ok (.aload_n 0, 1) := by decide +kernel
theorem dX4_will_16 : decode cX4_will 16 = .ok (.iconst 2, 1) := by decide +kernel
theorem dX4_will_17 : decode cX4_will 17 = .ok (.invokevirtual 54, 3) := by decide +kernel
theorem dX4_will_20 : decode cX4_will 20 = .ok (.bipush (-6), 2) := by decide +kernel
theorem dX4_will_22 : decode cX4_will 22 = .ok (.if_icmp .eq 6, 3) := by decide +kernel
theorem dX4_will_25 : decode cX4_will 25 = .ok (.bipush (-5), 2) := by decide +kernel
theorem dX4_will_27 : decode cX4_will 27 = .ok (.ireturn, 1) := by decide +kernel
theorem dX4_will_28 : decode cX4_will 28 = .ok (.aload_n 0, 1) := by decide +kernel
theorem dX4_will_29 : decode cX4_will 29 = .ok (.getfield 12, 3) := by decide +kernel
theorem dX4_will_32 : decode cX4_will 32 = .ok (.iconst 0, 1) := by decide +kernel
theorem dX4_will_33 : decode cX4_will 33 = .ok (.ldc 75, 2) := by decide +kernel
theorem dX4_will_35 : decode cX4_will 35 = .ok (.invokevirtual 85, 3) := by decide +kernel
theorem dX4_will_38 : decode cX4_will 38 = .ok (.istore_n 1, 1) := by decide +kernel
theorem dX4_will_39 : decode cX4_will 39 = .ok (.aload_n 0, 1) := by decide +kernel
theorem dX4_will_40 : decode cX4_will 40 = .ok (.getfield 19, 3) := by decide +kernel
theorem dX4_will_43 : decode cX4_will 43 = .ok (.invokevirtual 89, 3) := by decide +kernel
theorem dX4_will_46 : decode cX4_will 46 = .ok (.aload_n 0, 1) := by decide +kernel
theorem dX4_will_47 : decode cX4_will 47 = .ok (.getfield 19, 3) := by decide +kernel
theorem dX4_will_50 : decode cX4_will 50 = .ok (.iload_n 1, 1) := by decide +kernel
theorem dX4_will_51 : decode cX4_will 51 = .ok (.aload_n 0, 1) := by decide +kernel
theorem dX4_will_52 : decode cX4_will 52 = .ok (.getfield 12, 3) := by decide +kernel
theorem dX4_will_55 : decode cX4_will 55 = .ok (.ldc 75, 2) := by decide +kernel
theorem dX4_will_57 : decode cX4_will 57 = .ok (.iconst 2, 1) := by decide +kernel
theorem dX4_will_58 : decode cX4_will 58 = .ok (.invokevirtual 64, 3) := by decide +kernel
theorem dX4_will_61 : decode cX4_will 61 = .ok (.invokevirtual 92, 3) := by decide +kernel
theorem dX4_will_64 : decode cX4_will 64 = .ok (.aload_n 0, 1) := by decide +kernel
theorem dX4_will_65 : decode cX4_will 65 = .ok (.getfield 12, 3) := by decide +kernel
theorem dX4_will_68 : decode cX4_will 68 = .ok (.invokevirtual 50, 3) := by decide +kernel
theorem dX4_will_71 : decode cX4_will 71 = .ok (.pop, 1) := by decide +kernel
theorem dX4_will_72 : decode cX4_will 72 = .ok (.aload_n 0, 1) := by decide +kernel
theorem dX4_will_73 : decode cX4_will 73 = .ok (.getfield 19, 3) := by decide +kernel
theorem dX4_will_76 : decode cX4_will 76 = .ok (.getfield 81, 3) := by decide +kernel
theorem dX4_will_79 : decode cX4_will 79 = .ok (.ireturn, 1) := by decide +kernel
theorem dX4_wedding_0 : decode cX4_wedding 0 = .ok (.iload_n 1, 1) := by decide +kernel
theorem dX4_wedding_1 : decode cX4_wedding 1 = .ok (.iload_n 2, 1) := by decide +kernel
theorem dX4_wedding_2 : decode cX4_wedding 2 = .ok (.invokestatic 95, 3) := by decide +kernel
theorem dX4_wedding_5 : decode cX4_wedding 5 = .ok (.ifCond .ne 5, 3) := by decide +kernel
theorem dX4_wedding_8 : decode cX4_wedding 8 = .ok (.iconst (-1), 1) := by decide +kernel
theorem dX4_wedding_9 : decode cX4_wedding 9 = .ok (.ireturn, 1) := by decide +kernel
theorem dX4_wedding_10 : decode cX4_wedding 10 = .ok (.aload_n 0, 1) := by decide +kernel
theorem dX4_wedding_11 : decode cX4_wedding 11 = .ok (.getfield 19, 3) := by decide +kernel
theorem dX4_wedding_14 : decode cX4_wedding 14 = .ok (.getfield 81, 3) := by decide +kernel
theorem dX4_wedding_17 : decode cX4_wedding 17 = .ok (.bipush 20, 2) := by decide +kernel
theorem dX4_wedding_19 : decode cX4_wedding 19 = .ok (.if_icmp .lt 6, 3) := by decide +kernel
theorem dX4_wedding_22 : decode cX4_wedding 22 = .ok (.bipush (-4), 2) := by decide +kernel
theorem dX4_wedding_24 : decode cX4_wedding 24 = .ok (.ireturn, 1) := by decide +kernel
theorem dX4_wedding_25 : decode cX4_wedding 25 = .ok (.aload_n 0, 1) := by decide +kernel
theorem dX4_wedding_26 : decode cX4_wedding 26 = .ok (.getfield 19, 3) := by decide +kernel
theorem dX4_wedding_29 : decode cX4_wedding 29 = .ok (.invokevirtual 89, 3) := by decide +kernel
theorem dX4_wedding_32 : decode cX4_wedding 32 = .ok (.aload_n 0, 1) := by decide +kernel
theorem dX4_wedding_33 : decode cX4_wedding 33 = .ok (.getfield 19, 3) := by decide +kernel
theorem dX4_wedding_36 : decode cX4_wedding 36 = .ok (.iload_n 1, 1) := by decide +kernel
theorem dX4_wedding_37 : decode cX4_wedding 37 = .ok (.iload_n 2, 1) := by decide +kernel
theorem dX4_wedding_38 : decode cX4_wedding 38 = .ok (.invokevirtual 99, 3) := by decide +kernel
theorem dX4_wedding_41 : decode cX4_wedding 41 = .ok (.aload_n 0, 1) := by decide +kernel
theorem dX4_wedding_42 : decode cX4_wedding 42 = .ok (.getfield 19, 3) := by decide +kernel
theorem dX4_wedding_45 : decode cX4_wedding 45 = .ok (.getfield 81, 3) := by decide +kernel
theorem dX4_wedding_48 : decode cX4_wedding 48 = .ok (.ireturn, 1) := by decide +kernel
theorem dX4_cell_0 : decode cX4_cell 0 = .ok (.iload_n 1, 1) := by decide +kernel
theorem dX4_cell_1 : decode cX4_cell 1 = .ok (.invokestatic 58, 3) := by decide +kernel
theorem dX4_cell_4 : decode cX4_cell 4 = .ok (.ifCond .eq 10, 3) := by decide +kernel
theorem dX4_cell_7 : decode cX4_cell 7 = .ok (.iload_n 2, 1) := by decide +kernel
theorem dX4_cell_8 : decode cX4_cell 8 = .ok (.invokestatic 103, 3) := by decide +kernel
theorem dX4_cell_11 : decode cX4_cell 11 = .ok (.ifCond .ne 5, 3) := by decide +kernel
theorem dX4_cell_14 : decode cX4_cell 14 = .ok (.iconst (-1), 1) := by decide +kernel
theorem dX4_cell_15 : decode cX4_cell 15 = .ok (.ireturn, 1) := by decide +kernel
theorem dX4_cell_16 : decode cX4_cell 16 = .ok (.ldc 62, 2) := by decide +kernel
theorem dX4_cell_18 : decode cX4_cell 18 = .ok (.aload_n 0, 1) := by decide +kernel
theorem dX4_cell_19 : decode cX4_cell 19 = .ok (.getfield 19, 3) := by decide +kernel
theorem dX4_cell_22 : decode cX4_cell 22 = .ok (.iload_n 1, 1) := by decide +kernel
theorem dX4_cell_23 : decode cX4_cell 23 = .ok (.iload_n 2, 1) := by decide +kernel
theorem dX4_cell_24 : decode cX4_cell 24 = .ok (.invokevirtual 106, 3) := by decide +kernel
theorem dX4_cell_27 : decode cX4_cell 27 = .ok (.invokevirtual 110, 3) := by decide +kernel
theorem dX4_cell_30 : decode cX4_cell 30 = .ok (.ireturn, 1) := by decide +kernel
theorem dX4_was_0 : decode cX4_was 0 = .ok (.iload_n 1, 1) := by decide +kernel
theorem dX4_was_1 : decode cX4_was 1 = .ok (.invokestatic 103, 3) := by decide +kernel
theorem dX4_was_4 : decode cX4_was 4 = .ok (.ifCond .ne 5, 3) := by decide +kernel
theorem dX4_was_7 : decode cX4_was 7 = .ok (.iconst (-1), 1) := by decide +kernel
theorem dX4_was_8 : decode cX4_was 8 = .ok (.ireturn, 1) := by decide +kernel
theorem dX4_was_9 : decode cX4_was 9 = .ok (.iload_n 2, 1) := by decide +kernel
theorem dX4_was_10 : decode cX4_was 10 = .ok (.ifCond .lt 14, 3) := by decide +kernel
theorem dX4_was_13 : decode cX4_was 13 = .ok (.iload_n 2, 1) := by decide +kernel
theorem dX4_was_14 : decode cX4_was 14 = .ok (.aload_n 0, 1) := by decide +kernel
theorem dX4_was_15 : decode cX4_was 15 = .ok (.getfield 19, 3) := by decide +kernel
theorem dX4_was_18 : decode cX4_was 18 = .ok (.getfield 81, 3) := by decide +kernel
theorem dX4_was_21 : decode cX4_was 21 = .ok (.if_icmp .le 6, 3) := by decide +kernel
theorem dX4_was_24 : decode cX4_was 24 = .ok (.bipush (-2), 2) := by decide +kernel
theorem dX4_was_26 : decode cX4_was 26 = .ok (.ireturn, 1) := by decide +kernel
theorem dX4_was_27 : decode cX4_was 27 = .ok (.aload_n 0, 1) := by decide +kernel
theorem dX4_was_28 : decode cX4_was 28 = .ok (.getfield 19, 3) := by decide +kernel
theorem dX4_was_31 : decode cX4_was 31 = .ok (.iload_n 2, 1) := by decide +kernel
theorem dX4_was_32 : decode cX4_was 32 = .ok (.iload_n 1, 1) := by decide +kernel
theorem dX4_was_33 : decode cX4_was 33 = .ok (.invokevirtual 116, 3) := by decide +kernel
theorem dX4_was_36 : decode cX4_was 36 = .ok (.ireturn, 1) := by decide +kernel
theorem dX4_has_0 : decode cX4_has 0 = .ok (.iload_n 1, 1) := by decide +kernel
theorem dX4_has_1 : decode cX4_has 1 = .ok (.invokestatic 119, 3) := by decide +kernel
theorem dX4_has_4 : decode cX4_has 4 = .ok (.ifCond .eq 14, 3) := by decide +kernel
theorem dX4_has_7 : decode cX4_has 7 = .ok (.aload_n 0, 1) := by decide +kernel
theorem dX4_has_8 : decode cX4_has 8 = .ok (.getfield 19, 3) := by decide +kernel
theorem dX4_has_11 : decode cX4_has 11 = .ok (.iload_n 1, 1) := by decide +kernel
theorem dX4_has_12 : decode cX4_has 12 = .ok (.invokevirtual 122, 3) := by decide +kernel
theorem dX4_has_15 : decode cX4_has 15 = .ok (.goto 4, 3) := by decide +kernel
theorem dX4_has_18 : decode cX4_has 18 = .ok (.iconst (-1), 1) := by decide +kernel
theorem dX4_has_19 : decode cX4_has 19 = .ok (.ireturn, 1) := by decide +kernel
theorem dX4_worth_0 : decode cX4_worth 0 = .ok (.iload_n 1, 1) := by decide +kernel
theorem dX4_worth_1 : decode cX4_worth 1 = .ok (.invokestatic 119, 3) := by decide +kernel
theorem dX4_worth_4 : decode cX4_worth 4 = .ok (.ifCond .ne 5, 3) := by decide +kernel
theorem dX4_worth_7 : decode cX4_worth 7 = .ok (.iconst (-1), 1) := by decide +kernel
theorem dX4_worth_8 : decode cX4_worth 8 = .ok (.ireturn, 1) := by decide +kernel
theorem dX4_worth_9 : decode cX4_worth 9 = .ok (.iload_n 2, 1) := by decide +kernel
theorem dX4_worth_10 : decode cX4_worth 10 = .ok (.invokestatic 125, 3) := by decide +kernel
theorem dX4_worth_13 : decode cX4_worth 13 = .ok (.istore 4, 2) := by decide +kernel
theorem dX4_worth_15 : decode cX4_worth 15 = .ok (.iload 4, 2) := by decide +kernel
theorem dX4_worth_17 : decode cX4_worth 17 = .ok (.ifCond .lt 13, 3) := by decide +kernel
theorem dX4_worth_20 : decode cX4_worth 20 = .ok (.iload_n 3, 1) := by decide +kernel
theorem dX4_worth_21 : decode cX4_worth 21 = .ok (.ifCond .lt 9, 3) := by decide +kernel
theorem dX4_worth_24 : decode cX4_worth 24 = .ok (.iload_n 3, 1) := by decide +kernel
theorem dX4_worth_25 : decode cX4_worth 25 = .ok (.bipush 99, 2) := by decide +kernel
theorem dX4_worth_27 : decode cX4_worth 27 = .ok (.if_icmp .le 6, 3) := by decide +kernel
theorem dX4_worth_30 : decode cX4_worth 30 = .ok (.bipush (-2), 2) := by decide +kernel
theorem dX4_worth_32 : decode cX4_worth 32 = .ok (.ireturn, 1) := by decide +kernel
theorem dX4_worth_33 : decode cX4_worth 33 = .ok (.aload_n 0, 1) := by decide +kernel
theorem dX4_worth_34 : decode cX4_worth 34 = .ok (.invokevirtual 72, 3) := by decide +kernel
theorem dX4_worth_37 : decode cX4_worth 37 = .ok (.aload_n 0, 1) := by decide +kernel
theorem dX4_worth_38 : decode cX4_worth 38 = .ok (.getfield 19, 3) := by decide +kernel
theorem dX4_worth_41 : decode cX4_worth 41 = .ok (.iload_n 1, 1) := by decide +kernel
theorem dX4_worth_42 : decode cX4_worth 42 = .ok (.iload 4, 2) := by decide +kernel
theorem dX4_worth_44 : decode cX4_worth 44 = .ok (.iload_n 3, 1) := by decide +kernel
theorem dX4_worth_45 : decode cX4_worth 45 = .ok (.invokevirtual 128, 3) := by decide +kernel
theorem dX4_worth_48 : decode cX4_worth 48 = .ok (.ireturn, 1) := by decide +kernel
theorem dX4_share_0 : decode cX4_share 0 = .ok (.iload_n 1, 1) := by decide +kernel
theorem dX4_share_1 : decode cX4_share 1 = .ok (.invokestatic 119, 3) := by decide +kernel
theorem dX4_share_4 : decode cX4_share 4 = .ok (.ifCond .ne 5, 3) := by decide +kernel
theorem dX4_share_7 : decode cX4_share 7 = .ok (.iconst (-1), 1) := by decide +kernel
theorem dX4_share_8 : decode cX4_share 8 = .ok (.ireturn, 1) := by decide +kernel
theorem dX4_share_9 : decode cX4_share 9 = .ok (.iload_n 2, 1) := by decide +kernel
theorem dX4_share_10 : decode cX4_share 10 = .ok (.ifCond .lt 9, 3) := by decide +kernel
theorem dX4_share_13 : decode cX4_share 13 = .ok (.iload_n 2, 1) := by decide +kernel
theorem dX4_share_14 : decode cX4_share 14 = .ok (.ldc 132, 2) := by decide +kernel
theorem dX4_share_16 : decode cX4_share 16 = .ok (.if_icmp .le 6, 3) := by decide +kernel
theorem dX4_share_19 : decode cX4_share 19 = .ok (.bipush (-2), 2) := by decide +kernel
theorem dX4_share_21 : decode cX4_share 21 = .ok (.ireturn, 1) := by decide +kernel
theorem dX4_share_22 : decode cX4_share 22 = .ok (.aload_n 0, 1) := by decide +kernel
theorem dX4_share_23 : decode cX4_share 23 = .ok (.getfield 19, 3) := by decide +kernel
theorem dX4_share_26 : decode cX4_share 26 = .ok (.iload_n 1, 1) := by decide +kernel
theorem dX4_share_27 : decode cX4_share 27 = .ok (.iload_n 2, 1) := by decide +kernel
theorem dX4_share_28 : decode cX4_share 28 = .ok (.invokevirtual 133, 3) := by decide +kernel
theorem dX4_share_31 : decode cX4_share 31 = .ok (.ireturn, 1) := by decide +kernel
theorem dX4_envies_0 : decode cX4_envies 0 = .ok (.iload_n 1, 1) := by decide +kernel
theorem dX4_envies_1 : decode cX4_envies 1 = .ok (.invokestatic 119, 3) := by decide +kernel
theorem dX4_envies_4 : decode cX4_envies 4 = .ok (.ifCond .ne 5, 3) := by decide +kernel
theorem dX4_envies_7 : decode cX4_envies 7 = .ok (.iconst (-1), 1) := by decide +kernel
theorem dX4_envies_8 : decode cX4_envies 8 = .ok (.ireturn, 1) := by decide +kernel
theorem dX4_envies_9 : decode cX4_envies 9 = .ok (.aload_n 0, 1) := by decide +kernel
theorem dX4_envies_10 : decode cX4_envies 10 = .ok (.getfield 19, 3) := by decide +kernel
theorem dX4_envies_13 : decode cX4_envies 13 = .ok (.iload_n 1, 1) := by decide +kernel
theorem dX4_envies_14 : decode cX4_envies 14 = .ok (.aload_n 0, 1) := by decide +kernel
theorem dX4_envies_15 : decode cX4_envies 15 = .ok (.getfield 19, 3) := by decide +kernel
theorem dX4_envies_18 : decode cX4_envies 18 = .ok (.iload_n 1, 1) := by decide +kernel
theorem dX4_envies_19 : decode cX4_envies 19 = .ok (.invokevirtual 122, 3) := by decide +kernel
theorem dX4_envies_22 : decode cX4_envies 22 = .ok (.invokevirtual 133, 3) := by decide +kernel
theorem dX4_envies_25 : decode cX4_envies 25 = .ok (.istore_n 2, 1) := by decide +kernel
theorem dX4_envies_26 : decode cX4_envies 26 = .ok (.iconst 0, 1) := by decide +kernel
theorem dX4_envies_27 : decode cX4_envies 27 = .ok (.istore_n 3, 1) := by decide +kernel
theorem dX4_envies_28 : decode cX4_envies 28 = .ok (.iconst 0, 1) := by decide +kernel
theorem dX4_envies_29 : decode cX4_envies 29 = .ok (.istore 4, 2) := by decide +kernel
theorem dX4_envies_31 : decode cX4_envies 31 = .ok (.iload 4, 2) := by decide +kernel
theorem dX4_envies_33 : decode cX4_envies 33 = .ok (.bipush 6, 2) := by decide +kernel
theorem dX4_envies_35 : decode cX4_envies 35 = .ok (.if_icmp .ge 37, 3) := by decide +kernel
theorem dX4_envies_38 : decode cX4_envies 38 = .ok (.aload_n 0, 1) := by decide +kernel
theorem dX4_envies_39 : decode cX4_envies 39 = .ok (.getfield 19, 3) := by decide +kernel
theorem dX4_envies_42 : decode cX4_envies 42 = .ok (.iload_n 1, 1) := by decide +kernel
theorem dX4_envies_43 : decode cX4_envies 43 = .ok (.aload_n 0, 1) := by decide +kernel
theorem dX4_envies_44 : decode cX4_envies 44 = .ok (.getfield 19, 3) := by decide +kernel
theorem dX4_envies_47 : decode cX4_envies 47 = .ok (.iload 4, 2) := by decide +kernel
theorem dX4_envies_49 : decode cX4_envies 49 = .ok (.invokevirtual 122, 3) := by decide +kernel
theorem dX4_envies_52 : decode cX4_envies 52 = .ok (.invokevirtual 133, 3) := by decide +kernel
theorem dX4_envies_55 : decode cX4_envies 55 = .ok (.iload_n 2, 1) := by decide +kernel
theorem dX4_envies_56 : decode cX4_envies 56 = .ok (.if_icmp .le 10, 3) := by decide +kernel
theorem dX4_envies_59 : decode cX4_envies 59 = .ok (.iload_n 3, 1) := by decide +kernel
theorem dX4_envies_60 : decode cX4_envies 60 = .ok (.iconst 1, 1) := by decide +kernel
theorem dX4_envies_61 : decode cX4_envies 61 = .ok (.iload 4, 2) := by decide +kernel
theorem dX4_envies_63 : decode cX4_envies 63 = .ok (.ishl, 1) := by decide +kernel
theorem dX4_envies_64 : decode cX4_envies 64 = .ok (.ior, 1) := by decide +kernel
theorem dX4_envies_65 : decode cX4_envies 65 = .ok (.istore_n 3, 1) := by decide +kernel
theorem dX4_envies_66 : decode cX4_envies 66 = .ok (.iinc 4 1, 3) := by decide +kernel
theorem dX4_envies_69 : decode cX4_envies 69 = .ok (.goto (-38), 3) := by decide +kernel
theorem dX4_envies_72 : decode cX4_envies 72 = .ok (.iload_n 3, 1) := by decide +kernel
theorem dX4_envies_73 : decode cX4_envies 73 = .ok (.ireturn, 1) := by decide +kernel
theorem dX4_fair_0 : decode cX4_fair 0 = .ok (.aload_n 0, 1) := by decide +kernel
theorem dX4_fair_1 : decode cX4_fair 1 = .ok (.aload_n 0, 1) := by decide +kernel
theorem dX4_fair_2 : decode cX4_fair 2 = .ok (.getfield 32, 3) := by decide +kernel
theorem dX4_fair_5 : decode cX4_fair 5 = .ok (.iload_n 1, 1) := by decide +kernel
theorem dX4_fair_6 : decode cX4_fair 6 = .ok (.iload_n 2, 1) := by decide +kernel
theorem dX4_fair_7 : decode cX4_fair 7 = .ok (.invokevirtual 136, 3) := by decide +kernel
theorem dX4_fair_10 : decode cX4_fair 10 = .ok (.ireturn, 1) := by decide +kernel
theorem dX4_best_0 : decode cX4_best 0 = .ok (.aload_n 0, 1) := by decide +kernel
theorem dX4_best_1 : decode cX4_best 1 = .ok (.aload_n 0, 1) := by decide +kernel
theorem dX4_best_2 : decode cX4_best 2 = .ok (.getfield 36, 3) := by decide +kernel
theorem dX4_best_5 : decode cX4_best 5 = .ok (.iload_n 1, 1) := by decide +kernel
theorem dX4_best_6 : decode cX4_best 6 = .ok (.iload_n 2, 1) := by decide +kernel
theorem dX4_best_7 : decode cX4_best 7 = .ok (.invokevirtual 136, 3) := by decide +kernel
theorem dX4_best_10 : decode cX4_best 10 = .ok (.ireturn, 1) := by decide +kernel
theorem dX4_toll_0 : decode cX4_toll 0 = .ok (.iload_n 1, 1) := by decide +kernel
theorem dX4_toll_1 : decode cX4_toll 1 = .ok (.ifCond .lt 9, 3) := by decide +kernel
theorem dX4_toll_4 : decode cX4_toll 4 = .ok (.iload_n 1, 1) := by decide +kernel
theorem dX4_toll_5 : decode cX4_toll 5 = .ok (.bipush 99, 2) := by decide +kernel
theorem dX4_toll_7 : decode cX4_toll 7 = .ok (.if_icmp .le 6, 3) := by decide +kernel
theorem dX4_toll_10 : decode cX4_toll 10 = .ok (.bipush (-2), 2) := by decide +kernel
theorem dX4_toll_12 : decode cX4_toll 12 = .ok (.ireturn, 1) := by decide +kernel
theorem dX4_toll_13 : decode cX4_toll 13 = .ok (.aload_n 0, 1) := by decide +kernel
theorem dX4_toll_14 : decode cX4_toll 14 = .ok (.getfield 19, 3) := by decide +kernel
theorem dX4_toll_17 : decode cX4_toll 17 = .ok (.getfield 140, 3) := by decide +kernel
theorem dX4_toll_20 : decode cX4_toll 20 = .ok (.istore_n 2, 1) := by decide +kernel
theorem dX4_toll_21 : decode cX4_toll 21 = .ok (.aload_n 0, 1) := by decide +kernel
theorem dX4_toll_22 : decode cX4_toll 22 = .ok (.getfield 19, 3) := by decide +kernel
theorem dX4_toll_25 : decode cX4_toll 25 = .ok (.iload_n 1, 1) := by decide +kernel
theorem dX4_toll_26 : decode cX4_toll 26 = .ok (.putfield 140, 3) := by decide +kernel
theorem dX4_toll_29 : decode cX4_toll 29 = .ok (.iload_n 2, 1) := by decide +kernel
theorem dX4_toll_30 : decode cX4_toll 30 = .ok (.ireturn, 1) := by decide +kernel
theorem dX4_right_0 : decode cX4_right 0 = .ok (.iload_n 1, 1) := by decide +kernel
theorem dX4_right_1 : decode cX4_right 1 = .ok (.iload_n 2, 1) := by decide +kernel
theorem dX4_right_2 : decode cX4_right 2 = .ok (.invokestatic 95, 3) := by decide +kernel
theorem dX4_right_5 : decode cX4_right 5 = .ok (.ifCond .ne 5, 3) := by decide +kernel
theorem dX4_right_8 : decode cX4_right 8 = .ok (.iconst (-1), 1) := by decide +kernel
theorem dX4_right_9 : decode cX4_right 9 = .ok (.ireturn, 1) := by decide +kernel
theorem dX4_right_10 : decode cX4_right 10 = .ok (.aload_n 0, 1) := by decide +kernel
theorem dX4_right_11 : decode cX4_right 11 = .ok (.getfield 19, 3) := by decide +kernel
theorem dX4_right_14 : decode cX4_right 14 = .ok (.iload_n 1, 1) := by decide +kernel
theorem dX4_right_15 : decode cX4_right 15 = .ok (.iload_n 2, 1) := by decide +kernel
theorem dX4_right_16 : decode cX4_right 16 = .ok (.iload_n 3, 1) := by decide +kernel
theorem dX4_right_17 : decode cX4_right 17 = .ok (.invokevirtual 143, 3) := by decide +kernel
theorem dX4_right_20 : decode cX4_right 20 = .ok (.ifCond .eq 7, 3) := by decide +kernel
theorem dX4_right_23 : decode cX4_right 23 = .ok (.iconst 1, 1) := by decide +kernel
theorem dX4_right_24 : decode cX4_right 24 = .ok (.goto 4, 3) := by decide +kernel
theorem dX4_right_27 : decode cX4_right 27 = .ok (.iconst 0, 1) := by decide +kernel
theorem dX4_right_28 : decode cX4_right 28 = .ok (.ireturn, 1) := by decide +kernel
theorem dX4_way_0 : decode cX4_way 0 = .ok (.iload_n 1, 1) := by decide +kernel
theorem dX4_way_1 : decode cX4_way 1 = .ok (.invokestatic 119, 3) := by decide +kernel
theorem dX4_way_4 : decode cX4_way 4 = .ok (.ifCond .eq 17, 3) := by decide +kernel
theorem dX4_way_7 : decode cX4_way 7 = .ok (.iload_n 2, 1) := by decide +kernel
theorem dX4_way_8 : decode cX4_way 8 = .ok (.invokestatic 103, 3) := by decide +kernel
theorem dX4_way_11 : decode cX4_way 11 = .ok (.ifCond .eq 10, 3) := by decide +kernel
theorem dX4_way_14 : decode cX4_way 14 = .ok (.iload_n 3, 1) := by decide +kernel
theorem dX4_way_15 : decode cX4_way 15 = .ok (.invokestatic 103, 3) := by decide +kernel
theorem dX4_way_18 : decode cX4_way 18 = .ok (.ifCond .ne 5, 3) := by decide +kernel
theorem dX4_way_21 : decode cX4_way 21 = .ok (.iconst (-1), 1) := by decide +kernel
theorem dX4_way_22 : decode cX4_way 22 = .ok (.ireturn, 1) := by decide +kernel
theorem dX4_way_23 : decode cX4_way 23 = .ok (.iload 4, 2) := by decide +kernel
theorem dX4_way_25 : decode cX4_way 25 = .ok (.ifCond .lt 9, 3) := by decide +kernel
theorem dX4_way_28 : decode cX4_way 28 = .ok (.iload 4, 2) := by decide +kernel
theorem dX4_way_30 : decode cX4_way 30 = .ok (.iconst 2, 1) := by decide +kernel
theorem dX4_way_31 : decode cX4_way 31 = .ok (.if_icmp .le 6, 3) := by decide +kernel
theorem dX4_way_34 : decode cX4_way 34 = .ok (.bipush (-2), 2) := by decide +kernel
theorem dX4_way_36 : decode cX4_way 36 = .ok (.ireturn, 1) := by decide +kernel
theorem dX4_way_37 : decode cX4_way 37 = .ok (.aload_n 0, 1) := by decide +kernel
theorem dX4_way_38 : decode cX4_way 38 = .ok (.iload_n 1, 1) := by decide +kernel
theorem dX4_way_39 : decode cX4_way 39 = .ok (.iload_n 2, 1) := by decide +kernel
theorem dX4_way_40 : decode cX4_way 40 = .ok (.iload_n 3, 1) := by decide +kernel
theorem dX4_way_41 : decode cX4_way 41 = .ok (.iload 4, 2) := by decide +kernel
theorem dX4_way_43 : decode cX4_way 43 = .ok (.invokevirtual 147, 3) := by decide +kernel
theorem dX4_way_46 : decode cX4_way 46 = .ok (.ireturn, 1) := by decide +kernel
theorem dX4_stone_0 : decode cX4_stone 0 = .ok (.iload_n 1, 1) := by decide +kernel
theorem dX4_stone_1 : decode cX4_stone 1 = .ok (.invokestatic 58, 3) := by decide +kernel
theorem dX4_stone_4 : decode cX4_stone 4 = .ok (.ifCond .eq 10, 3) := by decide +kernel
theorem dX4_stone_7 : decode cX4_stone 7 = .ok (.iload_n 2, 1) := by decide +kernel
theorem dX4_stone_8 : decode cX4_stone 8 = .ok (.invokestatic 103, 3) := by decide +kernel
theorem dX4_stone_11 : decode cX4_stone 11 = .ok (.ifCond .ne 5, 3) := by decide +kernel
theorem dX4_stone_14 : decode cX4_stone 14 = .ok (.iconst (-1), 1) := by decide +kernel
theorem dX4_stone_15 : decode cX4_stone 15 = .ok (.ireturn, 1) := by decide +kernel
theorem dX4_stone_16 : decode cX4_stone 16 = .ok (.iload_n 3, 1) := by decide +kernel
theorem dX4_stone_17 : decode cX4_stone 17 = .ok (.ifCond .lt 8, 3) := by decide +kernel
theorem dX4_stone_20 : decode cX4_stone 20 = .ok (.iload_n 3, 1) := by decide +kernel
theorem dX4_stone_21 : decode cX4_stone 21 = .ok (.iconst 1, 1) := by decide +kernel
theorem dX4_stone_22 : decode cX4_stone 22 = .ok (.if_icmp .le 6, 3) := by decide +kernel
theorem dX4_stone_25 : decode cX4_stone 25 = .ok (.bipush (-2), 2) := by decide +kernel
theorem dX4_stone_27 : decode cX4_stone 27 = .ok (.ireturn, 1) := by decide +kernel
theorem dX4_stone_28 : decode cX4_stone 28 = .ok (.iload_n 3, 1) := by decide +kernel
theorem dX4_stone_29 : decode cX4_stone 29 = .ok (.ifCond .ne 12, 3) := by decide +kernel
theorem dX4_stone_32 : decode cX4_stone 32 = .ok (.aload_n 0, 1) := by decide +kernel
theorem dX4_stone_33 : decode cX4_stone 33 = .ok (.iload_n 1, 1) := by decide +kernel
theorem dX4_stone_34 : decode cX4_stone 34 = .ok (.iload_n 2, 1) := by decide +kernel
theorem dX4_stone_35 : decode cX4_stone 35 = .ok (.invokevirtual 151, 3) := by decide +kernel
theorem dX4_stone_38 : decode cX4_stone 38 = .ok (.goto 9, 3) := by decide +kernel
theorem dX4_stone_41 : decode cX4_stone 41 = .ok (.aload_n 0, 1) := by decide +kernel
theorem dX4_stone_42 : decode cX4_stone 42 = .ok (.iload_n 1, 1) := by decide +kernel
theorem dX4_stone_43 : decode cX4_stone 43 = .ok (.iload_n 2, 1) := by decide +kernel
theorem dX4_stone_44 : decode cX4_stone 44 = .ok (.invokevirtual 154, 3) := by decide +kernel
theorem dX4_stone_47 : decode cX4_stone 47 = .ok (.ireturn, 1) := by decide +kernel
theorem dX4_avalanche_0 : decode cX4_avalanche 0 = .ok (.iload_n 1, 1) := by decide +kernel
theorem dX4_avalanche_1 : decode cX4_avalanche 1 = .ok (.invokestatic 58, 3) := by decide +kernel
theorem dX4_avalanche_4 : decode cX4_avalanche 4 = .ok (.ifCond .eq 10, 3) := by decide +kernel
theorem dX4_avalanche_7 : decode cX4_avalanche 7 = .ok (.iload_n 2, 1) := by decide +kernel
theorem dX4_avalanche_8 : decode cX4_avalanche 8 = .ok (.invokestatic 103, 3) := by decide +kernel
theorem dX4_avalanche_11 : decode cX4_avalanche 11 = .ok (.ifCond .ne 5, 3) := by decide +kernel
theorem dX4_avalanche_14 : decode cX4_avalanche 14 = .ok (.iconst (-1), 1) := by decide +kernel
theorem dX4_avalanche_15 : decode cX4_avalanche 15 = .ok (.ireturn, 1) := by decide +kernel
theorem dX4_avalanche_16 : decode cX4_avalanche 16 = .ok (.iload_n 3, 1) := by decide +kernel
theorem dX4_avalanche_17 : decode cX4_avalanche 17 = .ok (.ifCond .lt 8, 3) := by decide +kernel
theorem dX4_avalanche_20 : decode cX4_avalanche 20 = .ok (.iload_n 3, 1) := by decide +kernel
theorem dX4_avalanche_21 : decode cX4_avalanche 21 = .ok (.iconst 1, 1) := by decide +kernel
theorem dX4_avalanche_22 : decode cX4_avalanche 22 = .ok (.if_icmp .le 6, 3) := by decide +kernel
theorem dX4_avalanche_25 : decode cX4_avalanche 25 = .ok (.bipush (-2), 2) := by decide +kernel
theorem dX4_avalanche_27 : decode cX4_avalanche 27 = .ok (.ireturn, 1) := by decide +kernel
theorem dX4_avalanche_28 : decode cX4_avalanche 28 = .ok (.aload_n 0, 1) := by decide +kernel
theorem dX4_avalanche_29 : decode cX4_avalanche 29 = .ok (.getfield 19, 3) := by decide +kernel
theorem dX4_avalanche_32 : decode cX4_avalanche 32 = .ok (.iload_n 1, 1) := by decide +kernel
theorem dX4_avalanche_33 : decode cX4_avalanche 33 = .ok (.iload_n 2, 1) := by decide +kernel
theorem dX4_avalanche_34 : decode cX4_avalanche 34 = .ok (.invokevirtual 106, 3) := by decide +kernel
theorem dX4_avalanche_37 : decode cX4_avalanche 37 = .ok (.iconst 4, 1) := by decide +kernel
theorem dX4_avalanche_38 : decode cX4_avalanche 38 = .ok (.if_icmp .eq 6, 3) := by decide +kernel
theorem dX4_avalanche_41 : decode cX4_avalanche 41 = .ok (.bipush (-3), 2) := by decide +kernel
theorem dX4_avalanche_43 : decode cX4_avalanche 43 = .ok (.ireturn, 1) := by decide +kernel
theorem dX4_avalanche_44 : decode cX4_avalanche 44 = .ok (.aload_n 0, 1) := by decide +kernel
theorem dX4_avalanche_45 : decode cX4_avalanche 45 = .ok (.iload_n 1, 1) := by decide +kernel
theorem dX4_avalanche_46 : decode cX4_avalanche 46 = .ok (.iload_n 2, 1) := by decide +kernel
theorem dX4_avalanche_47 : decode cX4_avalanche 47 = .ok (.iload_n 3, 1) := by decide +kernel
theorem dX4_avalanche_48 : decode cX4_avalanche 48 = .ok (.invokevirtual 157, 3) := by decide +kernel
theorem dX4_avalanche_51 : decode cX4_avalanche 51 = .ok (.ireturn, 1) := by decide +kernel
theorem dX4_rolls_0 : decode cX4_rolls 0 = .ok (.iload_n 1, 1) := by decide +kernel
theorem dX4_rolls_1 : decode cX4_rolls 1 = .ok (.invokestatic 119, 3) := by decide +kernel
theorem dX4_rolls_4 : decode cX4_rolls 4 = .ok (.ifCond .ne 5, 3) := by decide +kernel
theorem dX4_rolls_7 : decode cX4_rolls 7 = .ok (.iconst (-1), 1) := by decide +kernel
theorem dX4_rolls_8 : decode cX4_rolls 8 = .ok (.ireturn, 1) := by decide +kernel
theorem dX4_rolls_9 : decode cX4_rolls 9 = .ok (.iconst 0, 1) := by decide +kernel
theorem dX4_rolls_10 : decode cX4_rolls 10 = .ok (.istore_n 2, 1) := by decide +kernel
theorem dX4_rolls_11 : decode cX4_rolls 11 = .ok (.iconst 0, 1) := by decide +kernel
theorem dX4_rolls_12 : decode cX4_rolls 12 = .ok (.istore_n 3, 1) := by decide +kernel
theorem dX4_rolls_13 : decode cX4_rolls 13 = .ok (.iload_n 3, 1) := by decide +kernel
theorem dX4_rolls_14 : decode cX4_rolls 14 = .ok (.bipush 24, 2) := by decide +kernel
theorem dX4_rolls_16 : decode cX4_rolls 16 = .ok (.if_icmp .ge 46, 3) := by decide +kernel
theorem dX4_rolls_19 : decode cX4_rolls 19 = .ok (.aload_n 0, 1) := by decide +kernel
theorem dX4_rolls_20 : decode cX4_rolls 20 = .ok (.getfield 19, 3) := by decide +kernel
theorem dX4_rolls_23 : decode cX4_rolls 23 = .ok (.iload_n 3, 1) := by decide +kernel
theorem dX4_rolls_24 : decode cX4_rolls 24 = .ok (.invokevirtual 160, 3) := by decide +kernel
theorem dX4_rolls_27 : decode cX4_rolls 27 = .ok (.iload_n 1, 1) := by decide +kernel
theorem dX4_rolls_28 : decode cX4_rolls 28 = .ok (.if_icmp .ne 28, 3) := by decide +kernel
theorem dX4_rolls_31 : decode cX4_rolls 31 = .ok (.iconst 0, 1) := by decide +kernel
theorem dX4_rolls_32 : decode cX4_rolls 32 = .ok (.istore 4, 2) := by decide +kernel
theorem dX4_rolls_34 : decode cX4_rolls 34 = .ok (.iload 4, 2) := by decide +kernel
theorem dX4_rolls_36 : decode cX4_rolls 36 = .ok (.iconst 5, 1) := by decide +kernel
theorem dX4_rolls_37 : decode cX4_rolls 37 = .ok (.if_icmp .ge 19, 3) := by decide +kernel
theorem dX4_rolls_40 : decode cX4_rolls 40 = .ok (.iload_n 2, 1) := by decide +kernel
theorem dX4_rolls_41 : decode cX4_rolls 41 = .ok (.aload_n 0, 1) := by decide +kernel
theorem dX4_rolls_42 : decode cX4_rolls 42 = .ok (.iload 4, 2) := by decide +kernel
theorem dX4_rolls_44 : decode cX4_rolls 44 = .ok (.iload_n 3, 1) := by decide +kernel
theorem dX4_rolls_45 : decode cX4_rolls 45 = .ok (.invokevirtual 151, 3) := by decide +kernel
theorem dX4_rolls_48 : decode cX4_rolls 48 = .ok (.ior, 1) := by decide +kernel
theorem dX4_rolls_49 : decode cX4_rolls 49 = .ok (.istore_n 2, 1) := by decide +kernel
theorem dX4_rolls_50 : decode cX4_rolls 50 = .ok (.iinc 4 1, 3) := by decide +kernel
theorem dX4_rolls_53 : decode cX4_rolls 53 = .ok (.goto (-19), 3) := by decide +kernel
theorem dX4_rolls_56 : decode cX4_rolls 56 = .ok (.iinc 3 1, 3) := by decide +kernel
theorem dX4_rolls_59 : decode cX4_rolls 59 = .ok (.goto (-46), 3) := by decide +kernel
theorem dX4_rolls_62 : decode cX4_rolls 62 = .ok (.iload_n 2, 1) := by decide +kernel
theorem dX4_rolls_63 : decode cX4_rolls 63 = .ok (.iconst 1, 1) := by decide +kernel
theorem dX4_rolls_64 : decode cX4_rolls 64 = .ok (.iload_n 1, 1) := by decide +kernel
theorem dX4_rolls_65 : decode cX4_rolls 65 = .ok (.ishl, 1) := by decide +kernel
theorem dX4_rolls_66 : decode cX4_rolls 66 = .ok (.iconst (-1), 1) := by decide +kernel
theorem dX4_rolls_67 : decode cX4_rolls 67 = .ok (.ixor, 1) := by decide +kernel
theorem dX4_rolls_68 : decode cX4_rolls 68 = .ok (.iand, 1) := by decide +kernel
theorem dX4_rolls_69 : decode cX4_rolls 69 = .ok (.ireturn, 1) := by decide +kernel
theorem dX4_fence_0 : decode cX4_fence 0 = .ok (.iload_n 1, 1) := by decide +kernel
theorem dX4_fence_1 : decode cX4_fence 1 = .ok (.invokestatic 119, 3) := by decide +kernel
theorem dX4_fence_4 : decode cX4_fence 4 = .ok (.ifCond .eq 18, 3) := by decide +kernel
theorem dX4_fence_7 : decode cX4_fence 7 = .ok (.aload_n 0, 1) := by decide +kernel
theorem dX4_fence_8 : decode cX4_fence 8 = .ok (.getfield 42, 3) := by decide +kernel
theorem dX4_fence_11 : decode cX4_fence 11 = .ok (.iload_n 1, 1) := by decide +kernel
theorem dX4_fence_12 : decode cX4_fence 12 = .ok (.aload_n 0, 1) := by decide +kernel
theorem dX4_fence_13 : decode cX4_fence 13 = .ok (.getfield 19, 3) := by decide +kernel
theorem dX4_fence_16 : decode cX4_fence 16 = .ok (.invokevirtual 163, 3) := by decide +kernel
theorem dX4_fence_19 : decode cX4_fence 19 = .ok (.goto 4, 3) := by decide +kernel
theorem dX4_fence_22 : decode cX4_fence 22 = .ok (.iconst (-1), 1) := by decide +kernel
theorem dX4_fence_23 : decode cX4_fence 23 = .ok (.ireturn, 1) := by decide +kernel
theorem dX4_spring_0 : decode cX4_spring 0 = .ok (.iload_n 1, 1) := by decide +kernel
theorem dX4_spring_1 : decode cX4_spring 1 = .ok (.invokestatic 103, 3) := by decide +kernel
theorem dX4_spring_4 : decode cX4_spring 4 = .ok (.ifCond .ne 5, 3) := by decide +kernel
theorem dX4_spring_7 : decode cX4_spring 7 = .ok (.iconst (-1), 1) := by decide +kernel
theorem dX4_spring_8 : decode cX4_spring 8 = .ok (.ireturn, 1) := by decide +kernel
theorem dX4_spring_9 : decode cX4_spring 9 = .ok (.iload_n 2, 1) := by decide +kernel
theorem dX4_spring_10 : decode cX4_spring 10 = .ok (.ifCond .lt 20, 3) := by decide +kernel
theorem dX4_spring_13 : decode cX4_spring 13 = .ok (.iload_n 2, 1) := by decide +kernel
theorem dX4_spring_14 : decode cX4_spring 14 = .ok (.bipush 24, 2) := by decide +kernel
theorem dX4_spring_16 : decode cX4_spring 16 = .ok (.if_icmp .ge 14, 3) := by decide +kernel
theorem dX4_spring_19 : decode cX4_spring 19 = .ok (.iload_n 3, 1) := by decide +kernel
theorem dX4_spring_20 : decode cX4_spring 20 = .ok (.ifCond .lt 10, 3) := by decide +kernel
theorem dX4_spring_23 : decode cX4_spring 23 = .ok (.iload_n 3, 1) := by decide +kernel
theorem dX4_spring_24 : decode cX4_spring 24 = .ok (.sipush 999, 3) := by decide +kernel
theorem dX4_spring_27 : decode cX4_spring 27 = .ok (.if_icmp .le 6, 3) := by decide +kernel
theorem dX4_spring_30 : decode cX4_spring 30 = .ok (.bipush (-2), 2) := by decide +kernel
theorem dX4_spring_32 : decode cX4_spring 32 = .ok (.ireturn, 1) := by decide +kernel
theorem dX4_spring_33 : decode cX4_spring 33 = .ok (.iload 4, 2) := by decide +kernel
theorem dX4_spring_35 : decode cX4_spring 35 = .ok (.ifCond .ne 19, 3) := by decide +kernel
theorem dX4_spring_38 : decode cX4_spring 38 = .ok (.aload_n 0, 1) := by decide +kernel
theorem dX4_spring_39 : decode cX4_spring 39 = .ok (.getfield 19, 3) := by decide +kernel
theorem dX4_spring_42 : decode cX4_spring 42 = .ok (.iload_n 1, 1) := by decide +kernel
theorem dX4_spring_43 : decode cX4_spring 43 = .ok (.iload_n 2, 1) := by decide +kernel
theorem dX4_spring_44 : decode cX4_spring 44 = .ok (.iload_n 3, 1) := by decide +kernel
theorem dX4_spring_45 : decode cX4_spring 45 = .ok (.imul, 1) := by decide +kernel
theorem dX4_spring_46 : decode cX4_spring 46 = .ok (.iadd, 1) := by decide +kernel
theorem dX4_spring_47 : decode cX4_spring 47 = .ok (.bipush 24, 2) := by decide +kernel
theorem dX4_spring_49 : decode cX4_spring 49 = .ok (.irem, 1) := by decide +kernel
theorem dX4_spring_50 : decode cX4_spring 50 = .ok (.invokevirtual 160, 3) := by decide +kernel
theorem dX4_spring_53 : decode cX4_spring 53 = .ok (.ireturn, 1) := by decide +kernel
theorem dX4_spring_54 : decode cX4_spring 54 = .ok (.iload 4, 2) := by decide +kernel
theorem dX4_spring_56 : decode cX4_spring 56 = .ok (.bipush 10, 2) := by decide +kernel
theorem dX4_spring_58 : decode cX4_spring 58 = .ok (.if_icmp .lt 23, 3) := by decide +kernel
theorem dX4_spring_61 : decode cX4_spring 61 = .ok (.iload 4, 2) := by decide +kernel
theorem dX4_spring_63 : decode cX4_spring 63 = .ok (.bipush 16, 2) := by decide +kernel
theorem dX4_spring_65 : decode cX4_spring 65 = .ok (.if_icmp .ge 16, 3) := by decide +kernel
theorem dX4_spring_68 : decode cX4_spring 68 = .ok (.aload_n 0, 1) := by decide +kernel
theorem dX4_spring_69 : decode cX4_spring 69 = .ok (.iload_n 1, 1) := by decide +kernel
theorem dX4_spring_70 : decode cX4_spring 70 = .ok (.iload_n 2, 1) := by decide +kernel
theorem dX4_spring_71 : decode cX4_spring 71 = .ok (.iload_n 3, 1) := by decide +kernel
theorem dX4_spring_72 : decode cX4_spring 72 = .ok (.iload 4, 2) := by decide +kernel
theorem dX4_spring_74 : decode cX4_spring 74 = .ok (.bipush 10, 2) := by decide +kernel
theorem dX4_spring_76 : decode cX4_spring 76 = .ok (.isub, 1) := by decide +kernel
theorem dX4_spring_77 : decode cX4_spring 77 = .ok (.invokevirtual 167, 3) := by decide +kernel
theorem dX4_spring_80 : decode cX4_spring 80 = .ok (.ireturn, 1) := by decide +kernel
theorem dX4_spring_81 : decode cX4_spring 81 = .ok (.iload 4, 2) := by decide +kernel
theorem dX4_spring_83 : decode cX4_spring 83 = .ok (.bipush 20, 2) := by decide +kernel
theorem dX4_spring_85 : decode cX4_spring 85 = .ok (.if_icmp .lt 23, 3) := by decide +kernel
theorem dX4_spring_88 : decode cX4_spring 88 = .ok (.iload 4, 2) := by decide +kernel
theorem dX4_spring_90 : decode cX4_spring 90 = .ok (.bipush 26, 2) := by decide +kernel
theorem dX4_spring_92 : decode cX4_spring 92 = .ok (.if_icmp .ge 16, 3) := by decide +kernel
theorem dX4_spring_95 : decode cX4_spring 95 = .ok (.aload_n 0, 1) := by decide +kernel
theorem dX4_spring_96 : decode cX4_spring 96 = .ok (.iload_n 1, 1) := by decide +kernel
theorem dX4_spring_97 : decode cX4_spring 97 = .ok (.iload_n 2, 1) := by decide +kernel
theorem dX4_spring_98 : decode cX4_spring 98 = .ok (.iload_n 3, 1) := by decide +kernel
theorem dX4_spring_99 : decode cX4_spring 99 = .ok (.iload 4, 2) := by decide +kernel
theorem dX4_spring_101 : decode cX4_spring 101 = .ok (.bipush 20, 2) := by decide +kernel
theorem dX4_spring_103 : decode cX4_spring 103 = .ok (.isub, 1) := by decide +kernel
theorem dX4_spring_104 : decode cX4_spring 104 = .ok (.invokevirtual 170, 3) := by decide +kernel
theorem dX4_spring_107 : decode cX4_spring 107 = .ok (.ireturn, 1) := by decide +kernel
theorem dX4_spring_108 : decode cX4_spring 108 = .ok (.bipush (-2), 2) := by decide +kernel
theorem dX4_spring_110 : decode cX4_spring 110 = .ok (.ireturn, 1) := by decide +kernel
theorem dX4_bounds_0 : decode cX4_bounds 0 = .ok (.iload_n 1, 1) := by decide +kernel
theorem dX4_bounds_1 : decode cX4_bounds 1 = .ok (.tableswitch 44 0 2 #[27, 34, 39], 27) := by decide +kernel
theorem dX4_bounds_28 : decode cX4_bounds 28 = .ok (.aload_n 0, 1) := by decide +kernel
theorem dX4_bounds_29 : decode cX4_bounds 29 = .ok (.iconst 0, 1) := by decide +kernel
theorem dX4_bounds_30 : decode cX4_bounds 30 = .ok (.iconst 0, 1) := by decide +kernel
theorem dX4_bounds_31 : decode cX4_bounds 31 = .ok (.invokevirtual 173, 3) := by decide +kernel
theorem dX4_bounds_34 : decode cX4_bounds 34 = .ok (.ireturn, 1) := by decide +kernel
theorem dX4_bounds_35 : decode cX4_bounds 35 = .ok (.aload_n 0, 1) := by decide +kernel
theorem dX4_bounds_36 : decode cX4_bounds 36 = .ok (.invokevirtual 176, 3) := by decide +kernel
theorem dX4_bounds_39 : decode cX4_bounds 39 = .ok (.ireturn, 1) := by decide +kernel
theorem dX4_bounds_40 : decode cX4_bounds 40 = .ok (.aload_n 0, 1) := by decide +kernel
theorem dX4_bounds_41 : decode cX4_bounds 41 = .ok (.invokevirtual 179, 3) := by decide +kernel
theorem dX4_bounds_44 : decode cX4_bounds 44 = .ok (.ireturn, 1) := by decide +kernel
theorem dX4_bounds_45 : decode cX4_bounds 45 = .ok (.bipush (-2), 2) := by decide +kernel
theorem dX4_bounds_47 : decode cX4_bounds 47 = .ok (.ireturn, 1) := by decide +kernel
theorem dX4_image_0 : decode cX4_image 0 = .ok (.iload_n 1, 1) := by decide +kernel
theorem dX4_image_1 : decode cX4_image 1 = .ok (.invokestatic 182, 3) := by decide +kernel
theorem dX4_image_4 : decode cX4_image 4 = .ok (.ifCond .ne 6, 3) := by decide +kernel
theorem dX4_image_7 : decode cX4_image 7 = .ok (.bipush (-2), 2) := by decide +kernel
theorem dX4_image_9 : decode cX4_image 9 = .ok (.ireturn, 1) := by decide +kernel
theorem dX4_image_10 : decode cX4_image 10 = .ok (.aload_n 0, 1) := by decide +kernel
theorem dX4_image_11 : decode cX4_image 11 = .ok (.getfield 23, 3) := by decide +kernel
theorem dX4_image_14 : decode cX4_image 14 = .ok (.iload_n 1, 1) := by decide +kernel
theorem dX4_image_15 : decode cX4_image 15 = .ok (.aaload, 1) := by decide +kernel
theorem dX4_image_16 : decode cX4_image 16 = .ok (.ifnonnull 16, 3) := by decide +kernel
theorem dX4_image_19 : decode cX4_image 19 = .ok (.aload_n 0, 1) := by decide +kernel
theorem dX4_image_20 : decode cX4_image 20 = .ok (.getfield 23, 3) := by decide +kernel
theorem dX4_image_23 : decode cX4_image 23 = .ok (.iload_n 1, 1) := by decide +kernel
theorem dX4_image_24 : decode cX4_image 24 = .ok (.new 16, 3) := by decide +kernel
theorem dX4_image_27 : decode cX4_image 27 = .ok (.dup, 1) := by decide +kernel
theorem dX4_image_28 : decode cX4_image 28 = .ok (.invokespecial 18, 3) := by decide +kernel
theorem dX4_image_31 : decode cX4_image 31 = .ok (.aastore, 1) := by decide +kernel
theorem dX4_image_32 : decode cX4_image 32 = .ok (.aload_n 0, 1) := by decide +kernel
theorem dX4_image_33 : decode cX4_image 33 = .ok (.getfield 23, 3) := by decide +kernel
theorem dX4_image_36 : decode cX4_image 36 = .ok (.iload_n 1, 1) := by decide +kernel
theorem dX4_image_37 : decode cX4_image 37 = .ok (.aaload, 1) := by decide +kernel
theorem dX4_image_38 : decode cX4_image 38 = .ok (.aload_n 0, 1) := by decide +kernel
theorem dX4_image_39 : decode cX4_image 39 = .ok (.getfield 19, 3) := by decide +kernel
theorem dX4_image_42 : decode cX4_image 42 = .ok (.invokevirtual 185, 3) := by decide +kernel
theorem dX4_image_45 : decode cX4_image 45 = .ok (.iconst 1, 1) := by decide +kernel
theorem dX4_image_46 : decode cX4_image 46 = .ok (.ireturn, 1) := by decide +kernel
theorem dX4_restore_0 : decode cX4_restore 0 = .ok (.iload_n 1, 1) := by decide +kernel
theorem dX4_restore_1 : decode cX4_restore 1 = .ok (.invokestatic 182, 3) := by decide +kernel
theorem dX4_restore_4 : decode cX4_restore 4 = .ok (.ifCond .ne 6, 3) := by decide +kernel
theorem dX4_restore_7 : decode cX4_restore 7 = .ok (.bipush (-2), 2) := by decide +kernel
theorem dX4_restore_9 : decode cX4_restore 9 = .ok (.ireturn, 1) := by decide +kernel
theorem dX4_restore_10 : decode cX4_restore 10 = .ok (.aload_n 0, 1) := by decide +kernel
theorem dX4_restore_11 : decode cX4_restore 11 = .ok (.getfield 23, 3) := by decide +kernel
theorem dX4_restore_14 : decode cX4_restore 14 = .ok (.iload_n 1, 1) := by decide +kernel
theorem dX4_restore_15 : decode cX4_restore 15 = .ok (.aaload, 1) := by decide +kernel
theorem dX4_restore_16 : decode cX4_restore 16 = .ok (.ifnonnull 6, 3) := by decide +kernel
theorem dX4_restore_19 : decode cX4_restore 19 = .ok (.bipush (-3), 2) := by decide +kernel
theorem dX4_restore_21 : decode cX4_restore 21 = .ok (.ireturn, 1) := by decide +kernel
theorem dX4_restore_22 : decode cX4_restore 22 = .ok (.aload_n 0, 1) := by decide +kernel
theorem dX4_restore_23 : decode cX4_restore 23 = .ok (.getfield 19, 3) := by decide +kernel
theorem dX4_restore_26 : decode cX4_restore 26 = .ok (.aload_n 0, 1) := by decide +kernel
theorem dX4_restore_27 : decode cX4_restore 27 = .ok (.getfield 23, 3) := by decide +kernel
theorem dX4_restore_30 : decode cX4_restore 30 = .ok (.iload_n 1, 1) := by decide +kernel
theorem dX4_restore_31 : decode cX4_restore 31 = .ok (.aaload, 1) := by decide +kernel
theorem dX4_restore_32 : decode cX4_restore 32 = .ok (.invokevirtual 185, 3) := by decide +kernel
theorem dX4_restore_35 : decode cX4_restore 35 = .ok (.aload_n 0, 1) := by decide +kernel
theorem dX4_restore_36 : decode cX4_restore 36 = .ok (.invokevirtual 72, 3) := by decide +kernel
theorem dX4_restore_39 : decode cX4_restore 39 = .ok (.iconst 1, 1) := by decide +kernel
theorem dX4_restore_40 : decode cX4_restore 40 = .ok (.ireturn, 1) := by decide +kernel
theorem dX4_told_0 : decode cX4_told 0 = .ok (.iload_n 1, 1) := by decide +kernel
theorem dX4_told_1 : decode cX4_told 1 = .ok (.ifCond .ne 11, 3) := by decide +kernel
theorem dX4_told_4 : decode cX4_told 4 = .ok (.aload_n 0, 1) := by decide +kernel
theorem dX4_told_5 : decode cX4_told 5 = .ok (.getfield 12, 3) := by decide +kernel
theorem dX4_told_8 : decode cX4_told 8 = .ok (.getfield 189, 3) := by decide +kernel
theorem dX4_told_11 : decode cX4_told 11 = .ok (.ireturn, 1) := by decide +kernel
theorem dX4_told_12 : decode cX4_told 12 = .ok (.iload_n 1, 1) := by decide +kernel
theorem dX4_told_13 : decode cX4_told 13 = .ok (.iconst 1, 1) := by decide +kernel
theorem dX4_told_14 : decode cX4_told 14 = .ok (.if_icmp .ne 11, 3) := by decide +kernel
theorem dX4_told_17 : decode cX4_told 17 = .ok (.aload_n 0, 1) := by decide +kernel
theorem dX4_told_18 : decode cX4_told 18 = .ok (.getfield 19, 3) := by decide +kernel
theorem dX4_told_21 : decode cX4_told 21 = .ok (.getfield 81, 3) := by decide +kernel
theorem dX4_told_24 : decode cX4_told 24 = .ok (.ireturn, 1) := by decide +kernel
theorem dX4_told_25 : decode cX4_told 25 = .ok (.iload_n 1, 1) := by decide +kernel
theorem dX4_told_26 : decode cX4_told 26 = .ok (.iconst 2, 1) := by decide +kernel
theorem dX4_told_27 : decode cX4_told 27 = .ok (.if_icmp .ne 11, 3) := by decide +kernel
theorem dX4_told_30 : decode cX4_told 30 = .ok (.aload_n 0, 1) := by decide +kernel
theorem dX4_told_31 : decode cX4_told 31 = .ok (.getfield 19, 3) := by decide +kernel
theorem dX4_told_34 : decode cX4_told 34 = .ok (.getfield 140, 3) := by decide +kernel
theorem dX4_told_37 : decode cX4_told 37 = .ok (.ireturn, 1) := by decide +kernel
theorem dX4_told_38 : decode cX4_told 38 = .ok (.iload_n 1, 1) := by decide +kernel
theorem dX4_told_39 : decode cX4_told 39 = .ok (.bipush 10, 2) := by decide +kernel
theorem dX4_told_41 : decode cX4_told 41 = .ok (.if_icmp .lt 24, 3) := by decide +kernel
theorem dX4_told_44 : decode cX4_told 44 = .ok (.iload_n 1, 1) := by decide +kernel
theorem dX4_told_45 : decode cX4_told 45 = .ok (.bipush 16, 2) := by decide +kernel
theorem dX4_told_47 : decode cX4_told 47 = .ok (.if_icmp .ge 18, 3) := by decide +kernel
theorem dX4_told_50 : decode cX4_told 50 = .ok (.aload_n 0, 1) := by decide +kernel
theorem dX4_told_51 : decode cX4_told 51 = .ok (.getfield 19, 3) := by decide +kernel
theorem dX4_told_54 : decode cX4_told 54 = .ok (.iload_n 1, 1) := by decide +kernel
theorem dX4_told_55 : decode cX4_told 55 = .ok (.bipush 10, 2) := by decide +kernel
theorem dX4_told_57 : decode cX4_told 57 = .ok (.isub, 1) := by decide +kernel
theorem dX4_told_58 : decode cX4_told 58 = .ok (.invokevirtual 122, 3) := by decide +kernel
theorem dX4_told_61 : decode cX4_told 61 = .ok (.invokestatic 192, 3) := by decide +kernel
theorem dX4_told_64 : decode cX4_told 64 = .ok (.ireturn, 1) := by decide +kernel
theorem dX4_told_65 : decode cX4_told 65 = .ok (.iload_n 1, 1) := by decide +kernel
theorem dX4_told_66 : decode cX4_told 66 = .ok (.bipush 20, 2) := by decide +kernel
theorem dX4_told_68 : decode cX4_told 68 = .ok (.if_icmp .lt 22, 3) := by decide +kernel
theorem dX4_told_71 : decode cX4_told 71 = .ok (.iload_n 1, 1) := by decide +kernel
theorem dX4_told_72 : decode cX4_told 72 = .ok (.bipush 26, 2) := by decide +kernel
theorem dX4_told_74 : decode cX4_told 74 = .ok (.if_icmp .ge 16, 3) := by decide +kernel
theorem dX4_told_77 : decode cX4_told 77 = .ok (.aload_n 0, 1) := by decide +kernel
theorem dX4_told_78 : decode cX4_told 78 = .ok (.getfield 19, 3) := by decide +kernel
theorem dX4_told_81 : decode cX4_told 81 = .ok (.getfield 197, 3) := by decide +kernel
theorem dX4_told_84 : decode cX4_told 84 = .ok (.iload_n 1, 1) := by decide +kernel
theorem dX4_told_85 : decode cX4_told 85 = .ok (.bipush 20, 2) := by decide +kernel
theorem dX4_told_87 : decode cX4_told 87 = .ok (.isub, 1) := by decide +kernel
theorem dX4_told_88 : decode cX4_told 88 = .ok (.iaload, 1) := by decide +kernel
theorem dX4_told_89 : decode cX4_told 89 = .ok (.ireturn, 1) := by decide +kernel
theorem dX4_told_90 : decode cX4_told 90 = .ok (.iload_n 1, 1) := by decide +kernel
theorem dX4_told_91 : decode cX4_told 91 = .ok (.bipush 100, 2) := by decide +kernel
theorem dX4_told_93 : decode cX4_told 93 = .ok (.if_icmp .lt 23, 3) := by decide +kernel
theorem dX4_told_96 : decode cX4_told 96 = .ok (.iload_n 1, 1) := by decide +kernel
theorem dX4_told_97 : decode cX4_told 97 = .ok (.sipush 130, 3) := by decide +kernel
theorem dX4_told_100 : decode cX4_told 100 = .ok (.if_icmp .ge 16, 3) := by decide +kernel
theorem dX4_told_103 : decode cX4_told 103 = .ok (.aload_n 0, 1) := by decide +kernel
theorem dX4_told_104 : decode cX4_told 104 = .ok (.getfield 19, 3) := by decide +kernel
theorem dX4_told_107 : decode cX4_told 107 = .ok (.getfield 201, 3) := by decide +kernel
theorem dX4_told_110 : decode cX4_told 110 = .ok (.iload_n 1, 1) := by decide +kernel
theorem dX4_told_111 : decode cX4_told 111 = .ok (.bipush 100, 2) := by decide +kernel
theorem dX4_told_113 : decode cX4_told 113 = .ok (.isub, 1) := by decide +kernel
theorem dX4_told_114 : decode cX4_told 114 = .ok (.iaload, 1) := by decide +kernel
theorem dX4_told_115 : decode cX4_told 115 = .ok (.ireturn, 1) := by decide +kernel
theorem dX4_told_116 : decode cX4_told 116 = .ok (.bipush (-2), 2) := by decide +kernel
theorem dX4_told_118 : decode cX4_told 118 = .ok (.ireturn, 1) := by decide +kernel
theorem dX4_isRing_0 : decode cX4_isRing 0 = .ok (.iload_n 0, 1) := by decide +kernel
theorem dX4_isRing_1 : decode cX4_isRing 1 = .ok (.ifCond .lt 12, 3) := by decide +kernel
theorem dX4_isRing_4 : decode cX4_isRing 4 = .ok (.iload_n 0, 1) := by decide +kernel
theorem dX4_isRing_5 : decode cX4_isRing 5 = .ok (.iconst 5, 1) := by decide +kernel
theorem dX4_isRing_6 : decode cX4_isRing 6 = .ok (.if_icmp .ge 7, 3) := by decide +kernel
theorem dX4_isRing_9 : decode cX4_isRing 9 = .ok (.iconst 1, 1) := by decide +kernel
theorem dX4_isRing_10 : decode cX4_isRing 10 = .ok (.goto 4, 3) := by decide +kernel
theorem dX4_isRing_13 : decode cX4_isRing 13 = .ok (.iconst 0, 1) := by decide +kernel
theorem dX4_isRing_14 : decode cX4_isRing 14 = .ok (.ireturn, 1) := by decide +kernel
theorem dX4_isSector_0 : decode cX4_isSector 0 = .ok (.iload_n 0, 1) := by decide +kernel
theorem dX4_isSector_1 : decode cX4_isSector 1 = .ok (.ifCond .lt 13, 3) := by decide +kernel
theorem dX4_isSector_4 : decode cX4_isSector 4 = .ok (.iload_n 0, 1) := by decide +kernel
theorem dX4_isSector_5 : decode cX4_isSector 5 = .ok (.bipush 24, 2) := by decide +kernel
theorem dX4_isSector_7 : decode cX4_isSector 7 = .ok (.if_icmp .ge 7, 3) := by decide +kernel
theorem dX4_isSector_10 : decode cX4_isSector 10 = .ok (.iconst 1, 1) := by decide +kernel
theorem dX4_isSector_11 : decode cX4_isSector 11 = .ok (.goto 4, 3) := by decide +kernel
theorem dX4_isSector_14 : decode cX4_isSector 14 = .ok (.iconst 0, 1) := by decide +kernel
theorem dX4_isSector_15 : decode cX4_isSector 15 = .ok (.ireturn, 1) := by decide +kernel
theorem dX4_isHeir_0 : decode cX4_isHeir 0 = .ok (.iload_n 0, 1) := by decide +kernel
theorem dX4_isHeir_1 : decode cX4_isHeir 1 = .ok (.ifCond .lt 13, 3) := by decide +kernel
theorem dX4_isHeir_4 : decode cX4_isHeir 4 = .ok (.iload_n 0, 1) := by decide +kernel
theorem dX4_isHeir_5 : decode cX4_isHeir 5 = .ok (.bipush 6, 2) := by decide +kernel
theorem dX4_isHeir_7 : decode cX4_isHeir 7 = .ok (.if_icmp .ge 7, 3) := by decide +kernel
theorem dX4_isHeir_10 : decode cX4_isHeir 10 = .ok (.iconst 1, 1) := by decide +kernel
theorem dX4_isHeir_11 : decode cX4_isHeir 11 = .ok (.goto 4, 3) := by decide +kernel
theorem dX4_isHeir_14 : decode cX4_isHeir 14 = .ok (.iconst 0, 1) := by decide +kernel
theorem dX4_isHeir_15 : decode cX4_isHeir 15 = .ok (.ireturn, 1) := by decide +kernel
theorem dX4_isImage_0 : decode cX4_isImage 0 = .ok (.iload_n 0, 1) := by decide +kernel
theorem dX4_isImage_1 : decode cX4_isImage 1 = .ok (.ifCond .lt 12, 3) := by decide +kernel
theorem dX4_isImage_4 : decode cX4_isImage 4 = .ok (.iload_n 0, 1) := by decide +kernel
theorem dX4_isImage_5 : decode cX4_isImage 5 = .ok (.iconst 2, 1) := by decide +kernel
theorem dX4_isImage_6 : decode cX4_isImage 6 = .ok (.if_icmp .ge 7, 3) := by decide +kernel
theorem dX4_isImage_9 : decode cX4_isImage 9 = .ok (.iconst 1, 1) := by decide +kernel
theorem dX4_isImage_10 : decode cX4_isImage 10 = .ok (.goto 4, 3) := by decide +kernel
theorem dX4_isImage_13 : decode cX4_isImage 13 = .ok (.iconst 0, 1) := by decide +kernel
theorem dX4_isImage_14 : decode cX4_isImage 14 = .ok (.ireturn, 1) := by decide +kernel
theorem dX4_areTwoHeirs_0 : decode cX4_areTwoHeirs 0 = .ok (.iload_n 0, 1) := by decide +kernel
theorem dX4_areTwoHeirs_1 : decode cX4_areTwoHeirs 1 = .ok (.invokestatic 119, 3) := by decide +kernel
theorem dX4_areTwoHeirs_4 : decode cX4_areTwoHeirs 4 = .ok (.ifCond .eq 19, 3) := by decide +kernel
theorem dX4_areTwoHeirs_7 : decode cX4_areTwoHeirs 7 = .ok (.iload_n 1, 1) := by decide +kernel
theorem dX4_areTwoHeirs_8 : decode cX4_areTwoHeirs 8 = .ok (.invokestatic 119, 3) := by decide +kernel
theorem dX4_areTwoHeirs_11 : decode cX4_areTwoHeirs 11 = .ok (.ifCond .eq 12, 3) := by decide +kernel
theorem dX4_areTwoHeirs_14 : decode cX4_areTwoHeirs 14 = .ok (.iload_n 0, 1) := by decide +kernel
theorem dX4_areTwoHeirs_15 : decode cX4_areTwoHeirs 15 = .ok (.iload_n 1, 1) := by decide +kernel
theorem dX4_areTwoHeirs_16 : decode cX4_areTwoHeirs 16 = .ok (.if_icmp .eq 7, 3) := by decide +kernel
theorem dX4_areTwoHeirs_19 : decode cX4_areTwoHeirs 19 = .ok (.iconst 1, 1) := by decide +kernel
theorem dX4_areTwoHeirs_20 : decode cX4_areTwoHeirs 20 = .ok (.goto 4, 3) := by decide +kernel
theorem dX4_areTwoHeirs_23 : decode cX4_areTwoHeirs 23 = .ok (.iconst 0, 1) := by decide +kernel
theorem dX4_areTwoHeirs_24 : decode cX4_areTwoHeirs 24 = .ok (.ireturn, 1) := by decide +kernel
theorem dX4_sortOfCode_0 : decode cX4_sortOfCode 0 = .ok (.iload_n 0, 1) := by decide +kernel
theorem dX4_sortOfCode_1 : decode cX4_sortOfCode 1 = .ok (.bipush 33, 2) := by decide +kernel
theorem dX4_sortOfCode_3 : decode cX4_sortOfCode 3 = .ok (.if_icmp .lt 9, 3) := by decide +kernel
theorem dX4_sortOfCode_6 : decode cX4_sortOfCode 6 = .ok (.iload_n 0, 1) := by decide +kernel
theorem dX4_sortOfCode_7 : decode cX4_sortOfCode 7 = .ok (.bipush 126, 2) := by decide +kernel
theorem dX4_sortOfCode_9 : decode cX4_sortOfCode 9 = .ok (.if_icmp .le 7, 3) := by decide +kernel
theorem dX4_sortOfCode_12 : decode cX4_sortOfCode 12 = .ok (.iconst (-1), 1) := by decide +kernel
theorem dX4_sortOfCode_13 : decode cX4_sortOfCode 13 = .ok (.goto 10, 3) := by decide +kernel
theorem dX4_sortOfCode_16 : decode cX4_sortOfCode 16 = .ok (.ldc 62, 2) := by decide +kernel
theorem dX4_sortOfCode_18 : decode cX4_sortOfCode 18 = .ok (.iload_n 0, 1) := by decide +kernel
theorem dX4_sortOfCode_19 : decode cX4_sortOfCode 19 = .ok (.i2c, 1) := by decide +kernel
theorem dX4_sortOfCode_20 : decode cX4_sortOfCode 20 = .ok (.invokevirtual 204, 3) := by decide +kernel
theorem dX4_sortOfCode_23 : decode cX4_sortOfCode 23 = .ok (.ireturn, 1) := by decide +kernel
theorem dX4_faultAs_0 : decode cX4_faultAs 0 = .ok (.iload_n 1, 1) := by decide +kernel
theorem dX4_faultAs_1 : decode cX4_faultAs 1 = .ok (.ifCond .ne 16, 3) := by decide +kernel
theorem dX4_faultAs_4 : decode cX4_faultAs 4 = .ok (.aload_n 0, 1) := by decide +kernel
theorem dX4_faultAs_5 : decode cX4_faultAs 5 = .ok (.getfield 12, 3) := by decide +kernel
theorem dX4_faultAs_8 : decode cX4_faultAs 8 = .ok (.ldc 62, 2) := by decide +kernel
theorem dX4_faultAs_10 : decode cX4_faultAs 10 = .ok (.iconst 0, 1) := by decide +kernel
theorem dX4_faultAs_11 : decode cX4_faultAs 11 = .ok (.bipush 24, 2) := by decide +kernel
theorem dX4_faultAs_13 : decode cX4_faultAs 13 = .ok (.invokevirtual 207, 3) := by decide +kernel
theorem dX4_faultAs_16 : decode cX4_faultAs 16 = .ok (.ireturn, 1) := by decide +kernel
theorem dX4_faultAs_17 : decode cX4_faultAs 17 = .ok (.iload_n 1, 1) := by decide +kernel
theorem dX4_faultAs_18 : decode cX4_faultAs 18 = .ok (.iconst 1, 1) := by decide +kernel
theorem dX4_faultAs_19 : decode cX4_faultAs 19 = .ok (.if_icmp .ne 16, 3) := by decide +kernel
theorem dX4_faultAs_22 : decode cX4_faultAs 22 = .ok (.aload_n 0, 1) := by decide +kernel
theorem dX4_faultAs_23 : decode cX4_faultAs 23 = .ok (.getfield 12, 3) := by decide +kernel
theorem dX4_faultAs_26 : decode cX4_faultAs 26 = .ok (.ldc 75, 2) := by decide +kernel
theorem dX4_faultAs_28 : decode cX4_faultAs 28 = .ok (.iconst 0, 1) := by decide +kernel
theorem dX4_faultAs_29 : decode cX4_faultAs 29 = .ok (.bipush 24, 2) := by decide +kernel
theorem dX4_faultAs_31 : decode cX4_faultAs 31 = .ok (.invokevirtual 207, 3) := by decide +kernel
theorem dX4_faultAs_34 : decode cX4_faultAs 34 = .ok (.ireturn, 1) := by decide +kernel
theorem dX4_faultAs_35 : decode cX4_faultAs 35 = .ok (.aload_n 0, 1) := by decide +kernel
theorem dX4_faultAs_36 : decode cX4_faultAs 36 = .ok (.getfield 12, 3) := by decide +kernel
theorem dX4_faultAs_39 : decode cX4_faultAs 39 = .ok (.iconst 0, 1) := by decide +kernel
theorem dX4_faultAs_40 : decode cX4_faultAs 40 = .ok (.ldc 75, 2) := by decide +kernel
theorem dX4_faultAs_42 : decode cX4_faultAs 42 = .ok (.invokevirtual 85, 3) := by decide +kernel
theorem dX4_faultAs_45 : decode cX4_faultAs 45 = .ok (.istore_n 2, 1) := by decide +kernel
theorem dX4_faultAs_46 : decode cX4_faultAs 46 = .ok (.iload_n 2, 1) := by decide +kernel
theorem dX4_faultAs_47 : decode cX4_faultAs 47 = .ok (.ifCond .ge 5, 3) := by decide +kernel
theorem dX4_faultAs_50 : decode cX4_faultAs 50 = .ok (.iconst 0, 1) := by decide +kernel
theorem dX4_faultAs_51 : decode cX4_faultAs 51 = .ok (.ireturn, 1) := by decide +kernel
theorem dX4_faultAs_52 : decode cX4_faultAs 52 = .ok (.aload_n 0, 1) := by decide +kernel
theorem dX4_faultAs_53 : decode cX4_faultAs 53 = .ok (.getfield 12, 3) := by decide +kernel
theorem dX4_faultAs_56 : decode cX4_faultAs 56 = .ok (.iconst 1, 1) := by decide +kernel
theorem dX4_faultAs_57 : decode cX4_faultAs 57 = .ok (.bipush 58, 2) := by decide +kernel
theorem dX4_faultAs_59 : decode cX4_faultAs 59 = .ok (.invokevirtual 211, 3) := by decide +kernel
theorem dX4_faultAs_62 : decode cX4_faultAs 62 = .ok (.ifCond .ne 5, 3) := by decide +kernel
theorem dX4_faultAs_65 : decode cX4_faultAs 65 = .ok (.iconst 1, 1) := by decide +kernel
theorem dX4_faultAs_66 : decode cX4_faultAs 66 = .ok (.ireturn, 1) := by decide +kernel
theorem dX4_faultAs_67 : decode cX4_faultAs 67 = .ok (.aload_n 0, 1) := by decide +kernel
theorem dX4_faultAs_68 : decode cX4_faultAs 68 = .ok (.getfield 12, 3) := by decide +kernel
theorem dX4_faultAs_71 : decode cX4_faultAs 71 = .ok (.ldc 75, 2) := by decide +kernel
theorem dX4_faultAs_73 : decode cX4_faultAs 73 = .ok (.iconst 2, 1) := by decide +kernel
theorem dX4_faultAs_74 : decode cX4_faultAs 74 = .ok (.aload_n 0, 1) := by decide +kernel
theorem dX4_faultAs_75 : decode cX4_faultAs 75 = .ok (.getfield 19, 3) := by decide +kernel
theorem dX4_faultAs_78 : decode cX4_faultAs 78 = .ok (.iload_n 2, 1) := by decide +kernel
theorem dX4_faultAs_79 : decode cX4_faultAs 79 = .ok (.invokevirtual 122, 3) := by decide +kernel
theorem dX4_faultAs_82 : decode cX4_faultAs 82 = .ok (.invokestatic 192, 3) := by decide +kernel
theorem dX4_faultAs_85 : decode cX4_faultAs 85 = .ok (.invokevirtual 207, 3) := by decide +kernel
theorem dX4_faultAs_88 : decode cX4_faultAs 88 = .ok (.ireturn, 1) := by decide +kernel
theorem dX4_answerOfCut_0 : decode cX4_answerOfCut 0 = .ok (.iload_n 2, 1) := by decide +kernel
theorem dX4_answerOfCut_1 : decode cX4_answerOfCut 1 = .ok (.iconst 2, 1) := by decide +kernel
theorem dX4_answerOfCut_2 : decode cX4_answerOfCut 2 = .ok (.if_icmp .lt 8, 3) := by decide +kernel
theorem dX4_answerOfCut_5 : decode cX4_answerOfCut 5 = .ok (.iload_n 2, 1) := by decide +kernel
theorem dX4_answerOfCut_6 : decode cX4_answerOfCut 6 = .ok (.iconst 4, 1) := by decide +kernel
theorem dX4_answerOfCut_7 : decode cX4_answerOfCut 7 = .ok (.if_icmp .le 6, 3) := by decide +kernel
theorem dX4_answerOfCut_10 : decode cX4_answerOfCut 10 = .ok (.bipush (-2), 2) := by decide +kernel
theorem dX4_answerOfCut_12 : decode cX4_answerOfCut 12 = .ok (.ireturn, 1) := by decide +kernel
theorem dX4_answerOfCut_13 : decode cX4_answerOfCut 13 = .ok (.aload_n 1, 1) := by decide +kernel
theorem dX4_answerOfCut_14 : decode cX4_answerOfCut 14 = .ok (.iload_n 2, 1) := by decide +kernel
theorem dX4_answerOfCut_15 : decode cX4_answerOfCut 15 = .ok (.aload_n 0, 1) := by decide +kernel
theorem dX4_answerOfCut_16 : decode cX4_answerOfCut 16 = .ok (.getfield 19, 3) := by decide +kernel
theorem dX4_answerOfCut_19 : decode cX4_answerOfCut 19 = .ok (.invokevirtual 215, 3) := by decide +kernel
theorem dX4_answerOfCut_22 : decode cX4_answerOfCut 22 = .ok (.aload_n 1, 1) := by decide +kernel
theorem dX4_answerOfCut_23 : decode cX4_answerOfCut 23 = .ok (.iload_n 3, 1) := by decide +kernel
theorem dX4_answerOfCut_24 : decode cX4_answerOfCut 24 = .ok (.invokevirtual 219, 3) := by decide +kernel
theorem dX4_answerOfCut_27 : decode cX4_answerOfCut 27 = .ok (.ireturn, 1) := by decide +kernel
theorem dX4_forgetCuts_0 : decode cX4_forgetCuts 0 = .ok (.aload_n 0, 1) := by decide +kernel
theorem dX4_forgetCuts_1 : decode cX4_forgetCuts 1 = .ok (.getfield 32, 3) := by decide +kernel
theorem dX4_forgetCuts_4 : decode cX4_forgetCuts 4 = .ok (.invokevirtual 222, 3) := by decide +kernel
theorem dX4_forgetCuts_7 : decode cX4_forgetCuts 7 = .ok (.aload_n 0, 1) := by decide +kernel
theorem dX4_forgetCuts_8 : decode cX4_forgetCuts 8 = .ok (.getfield 36, 3) := by decide +kernel
theorem dX4_forgetCuts_11 : decode cX4_forgetCuts 11 = .ok (.invokevirtual 222, 3) := by decide +kernel
theorem dX4_forgetCuts_14 : decode cX4_forgetCuts 14 = .ok (.return_, 1) := by decide +kernel
theorem dX4_bestWay_0 : decode cX4_bestWay 0 = .ok (.ldc 225, 2) := by decide +kernel
theorem dX4_bestWay_2 : decode cX4_bestWay 2 = .ok (.istore 5, 2) := by decide +kernel
theorem dX4_bestWay_4 : decode cX4_bestWay 4 = .ok (.iconst 0, 1) := by decide +kernel
theorem dX4_bestWay_5 : decode cX4_bestWay 5 = .ok (.istore 6, 2) := by decide +kernel
theorem dX4_bestWay_7 : decode cX4_bestWay 7 = .ok (.iload 6, 2) := by decide +kernel
theorem dX4_bestWay_9 : decode cX4_bestWay 9 = .ok (.iconst 5, 1) := by decide +kernel
theorem dX4_bestWay_10 : decode cX4_bestWay 10 = .ok (.if_icmp .ge 65, 3) := by decide +kernel
theorem dX4_bestWay_13 : decode cX4_bestWay 13 = .ok (.aload_n 0, 1) := by decide +kernel
theorem dX4_bestWay_14 : decode cX4_bestWay 14 = .ok (.iload_n 1, 1) := by decide +kernel
theorem dX4_bestWay_15 : decode cX4_bestWay 15 = .ok (.iload_n 2, 1) := by decide +kernel
theorem dX4_bestWay_16 : decode cX4_bestWay 16 = .ok (.iload_n 3, 1) := by decide +kernel
theorem dX4_bestWay_17 : decode cX4_bestWay 17 = .ok (.iload 6, 2) := by decide +kernel
theorem dX4_bestWay_19 : decode cX4_bestWay 19 = .ok (.invokevirtual 226, 3) := by decide +kernel
theorem dX4_bestWay_22 : decode cX4_bestWay 22 = .ok (.istore 7, 2) := by decide +kernel
theorem dX4_bestWay_24 : decode cX4_bestWay 24 = .ok (.aload_n 0, 1) := by decide +kernel
theorem dX4_bestWay_25 : decode cX4_bestWay 25 = .ok (.iload_n 1, 1) := by decide +kernel
theorem dX4_bestWay_26 : decode cX4_bestWay 26 = .ok (.iload_n 2, 1) := by decide +kernel
theorem dX4_bestWay_27 : decode cX4_bestWay 27 = .ok (.iload_n 3, 1) := by decide +kernel
theorem dX4_bestWay_28 : decode cX4_bestWay 28 = .ok (.iload 6, 2) := by decide +kernel
theorem dX4_bestWay_30 : decode cX4_bestWay 30 = .ok (.invokevirtual 229, 3) := by decide +kernel
theorem dX4_bestWay_33 : decode cX4_bestWay 33 = .ok (.istore 8, 2) := by decide +kernel
theorem dX4_bestWay_35 : decode cX4_bestWay 35 = .ok (.iload 5, 2) := by decide +kernel
theorem dX4_bestWay_37 : decode cX4_bestWay 37 = .ok (.iload 7, 2) := by decide +kernel
theorem dX4_bestWay_39 : decode cX4_bestWay 39 = .ok (.iconst 5, 1) := by decide +kernel
theorem dX4_bestWay_40 : decode cX4_bestWay 40 = .ok (.imul, 1) := by decide +kernel
theorem dX4_bestWay_41 : decode cX4_bestWay 41 = .ok (.iload 6, 2) := by decide +kernel
theorem dX4_bestWay_43 : decode cX4_bestWay 43 = .ok (.iadd, 1) := by decide +kernel
theorem dX4_bestWay_44 : decode cX4_bestWay 44 = .ok (.iconst 2, 1) := by decide +kernel
theorem dX4_bestWay_45 : decode cX4_bestWay 45 = .ok (.imul, 1) := by decide +kernel
theorem dX4_bestWay_46 : decode cX4_bestWay 46 = .ok (.invokestatic 232, 3) := by decide +kernel
theorem dX4_bestWay_49 : decode cX4_bestWay 49 = .ok (.istore 5, 2) := by decide +kernel
theorem dX4_bestWay_51 : decode cX4_bestWay 51 = .ok (.iload 5, 2) := by decide +kernel
theorem dX4_bestWay_53 : decode cX4_bestWay 53 = .ok (.iload 8, 2) := by decide +kernel
theorem dX4_bestWay_55 : decode cX4_bestWay 55 = .ok (.iconst 5, 1) := by decide +kernel
theorem dX4_bestWay_56 : decode cX4_bestWay 56 = .ok (.imul, 1) := by decide +kernel
theorem dX4_bestWay_57 : decode cX4_bestWay 57 = .ok (.iload 6, 2) := by decide +kernel
theorem dX4_bestWay_59 : decode cX4_bestWay 59 = .ok (.iadd, 1) := by decide +kernel
theorem dX4_bestWay_60 : decode cX4_bestWay 60 = .ok (.iconst 2, 1) := by decide +kernel
theorem dX4_bestWay_61 : decode cX4_bestWay 61 = .ok (.imul, 1) := by decide +kernel
theorem dX4_bestWay_62 : decode cX4_bestWay 62 = .ok (.iconst 1, 1) := by decide +kernel
theorem dX4_bestWay_63 : decode cX4_bestWay 63 = .ok (.iadd, 1) := by decide +kernel
theorem dX4_bestWay_64 : decode cX4_bestWay 64 = .ok (.invokestatic 232, 3) := by decide +kernel
theorem dX4_bestWay_67 : decode cX4_bestWay 67 = .ok (.istore 5, 2) := by decide +kernel
theorem dX4_bestWay_69 : decode cX4_bestWay 69 = .ok (.iinc 6 1, 3) := by decide +kernel
theorem dX4_bestWay_72 : decode cX4_bestWay 72 = .ok (.goto (-65), 3) := by decide +kernel
theorem dX4_bestWay_75 : decode cX4_bestWay 75 = .ok (.iload 4, 2) := by decide +kernel
theorem dX4_bestWay_77 : decode cX4_bestWay 77 = .ok (.ifCond .ne 9, 3) := by decide +kernel
theorem dX4_bestWay_80 : decode cX4_bestWay 80 = .ok (.iload 5, 2) := by decide +kernel
theorem dX4_bestWay_82 : decode cX4_bestWay 82 = .ok (.bipush 10, 2) := by decide +kernel
theorem dX4_bestWay_84 : decode cX4_bestWay 84 = .ok (.idiv, 1) := by decide +kernel
theorem dX4_bestWay_85 : decode cX4_bestWay 85 = .ok (.ireturn, 1) := by decide +kernel
theorem dX4_bestWay_86 : decode cX4_bestWay 86 = .ok (.iload 4, 2) := by decide +kernel
theorem dX4_bestWay_88 : decode cX4_bestWay 88 = .ok (.iconst 1, 1) := by decide +kernel
theorem dX4_bestWay_89 : decode cX4_bestWay 89 = .ok (.if_icmp .ne 12, 3) := by decide +kernel
theorem dX4_bestWay_92 : decode cX4_bestWay 92 = .ok (.iload 5, 2) := by decide +kernel
theorem dX4_bestWay_94 : decode cX4_bestWay 94 = .ok (.iconst 2, 1) := by decide +kernel
theorem dX4_bestWay_95 : decode cX4_bestWay 95 = .ok (.idiv, 1) := by decide +kernel
theorem dX4_bestWay_96 : decode cX4_bestWay 96 = .ok (.iconst 5, 1) := by decide +kernel
theorem dX4_bestWay_97 : decode cX4_bestWay 97 = .ok (.irem, 1) := by decide +kernel
theorem dX4_bestWay_98 : decode cX4_bestWay 98 = .ok (.goto 9, 3) := by decide +kernel
theorem dX4_bestWay_101 : decode cX4_bestWay 101 = .ok (.iconst 1, 1) := by decide +kernel
theorem dX4_bestWay_102 : decode cX4_bestWay 102 = .ok (.iload 5, 2) := by decide +kernel
theorem dX4_bestWay_104 : decode cX4_bestWay 104 = .ok (.iconst 2, 1) := by decide +kernel
theorem dX4_bestWay_105 : decode cX4_bestWay 105 = .ok (.irem, 1) := by decide +kernel
theorem dX4_bestWay_106 : decode cX4_bestWay 106 = .ok (.isub, 1) := by decide +kernel
theorem dX4_bestWay_107 : decode cX4_bestWay 107 = .ok (.ireturn, 1) := by decide +kernel
theorem dX4_costOfWay_0 : decode cX4_costOfWay 0 = .ok (.iload_n 3, 1) := by decide +kernel
theorem dX4_costOfWay_1 : decode cX4_costOfWay 1 = .ok (.iload_n 2, 1) := by decide +kernel
theorem dX4_costOfWay_2 : decode cX4_costOfWay 2 = .ok (.isub, 1) := by decide +kernel
theorem dX4_costOfWay_3 : decode cX4_costOfWay 3 = .ok (.bipush 24, 2) := by decide +kernel
theorem dX4_costOfWay_5 : decode cX4_costOfWay 5 = .ok (.iadd, 1) := by decide +kernel
theorem dX4_costOfWay_6 : decode cX4_costOfWay 6 = .ok (.bipush 24, 2) := by decide +kernel
theorem dX4_costOfWay_8 : decode cX4_costOfWay 8 = .ok (.irem, 1) := by decide +kernel
theorem dX4_costOfWay_9 : decode cX4_costOfWay 9 = .ok (.istore 5, 2) := by decide +kernel
theorem dX4_costOfWay_11 : decode cX4_costOfWay 11 = .ok (.iload 4, 2) := by decide +kernel
theorem dX4_costOfWay_13 : decode cX4_costOfWay 13 = .ok (.invokestatic 237, 3) := by decide +kernel
theorem dX4_costOfWay_16 : decode cX4_costOfWay 16 = .ok (.aload_n 0, 1) := by decide +kernel
theorem dX4_costOfWay_17 : decode cX4_costOfWay 17 = .ok (.iload_n 1, 1) := by decide +kernel
theorem dX4_costOfWay_18 : decode cX4_costOfWay 18 = .ok (.iload_n 2, 1) := by decide +kernel
theorem dX4_costOfWay_19 : decode cX4_costOfWay 19 = .ok (.iconst 1, 1) := by decide +kernel
theorem dX4_costOfWay_20 : decode cX4_costOfWay 20 = .ok (.iadd, 1) := by decide +kernel
theorem dX4_costOfWay_21 : decode cX4_costOfWay 21 = .ok (.iload 5, 2) := by decide +kernel
theorem dX4_costOfWay_23 : decode cX4_costOfWay 23 = .ok (.iload 4, 2) := by decide +kernel
theorem dX4_costOfWay_25 : decode cX4_costOfWay 25 = .ok (.invokevirtual 240, 3) := by decide +kernel
theorem dX4_costOfWay_28 : decode cX4_costOfWay 28 = .ok (.iadd, 1) := by decide +kernel
theorem dX4_costOfWay_29 : decode cX4_costOfWay 29 = .ok (.ireturn, 1) := by decide +kernel
theorem dX4_costOfWayBack_0 : decode cX4_costOfWayBack 0 = .ok (.iload_n 2, 1) := by decide +kernel
theorem dX4_costOfWayBack_1 : decode cX4_costOfWayBack 1 = .ok (.iload_n 3, 1) := by decide +kernel
theorem dX4_costOfWayBack_2 : decode cX4_costOfWayBack 2 = .ok (.isub, 1) := by decide +kernel
theorem dX4_costOfWayBack_3 : decode cX4_costOfWayBack 3 = .ok (.bipush 24, 2) := by decide +kernel
theorem dX4_costOfWayBack_5 : decode cX4_costOfWayBack 5 = .ok (.iadd, 1) := by decide +kernel
theorem dX4_costOfWayBack_6 : decode cX4_costOfWayBack 6 = .ok (.bipush 24, 2) := by decide +kernel
theorem dX4_costOfWayBack_8 : decode cX4_costOfWayBack 8 = .ok (.irem, 1) := by decide +kernel
theorem dX4_costOfWayBack_9 : decode cX4_costOfWayBack 9 = .ok (.istore 5, 2) := by decide +kernel
theorem dX4_costOfWayBack_11 : decode cX4_costOfWayBack 11 = .ok (.iload 4, 2) := by decide +kernel
theorem dX4_costOfWayBack_13 : decode cX4_costOfWayBack 13 = .ok (.invokestatic 237, 3) := by decide +kernel
theorem dX4_costOfWayBack_16 : decode cX4_costOfWayBack 16 = .ok (.aload_n 0, 1) := by decide +kernel
theorem dX4_costOfWayBack_17 : decode cX4_costOfWayBack 17 = .ok (.iload_n 1, 1) := by decide +kernel
theorem dX4_costOfWayBack_18 : decode cX4_costOfWayBack 18 = .ok (.iload_n 3, 1) := by decide +kernel
theorem dX4_costOfWayBack_19 : decode cX4_costOfWayBack 19 = .ok (.iload 5, 2) := by decide +kernel
theorem dX4_costOfWayBack_21 : decode cX4_costOfWayBack 21 = .ok (.iload 4, 2) := by decide +kernel
theorem dX4_costOfWayBack_23 : decode cX4_costOfWayBack 23 = .ok (.invokevirtual 240, 3) := by decide +kernel
theorem dX4_costOfWayBack_26 : decode cX4_costOfWayBack 26 = .ok (.iadd, 1) := by decide +kernel
theorem dX4_costOfWayBack_27 : decode cX4_costOfWayBack 27 = .ok (.ireturn, 1) := by decide +kernel
theorem dX4_costOfClimb_0 : decode cX4_costOfClimb 0 = .ok (.iconst 4, 1) := by decide +kernel
theorem dX4_costOfClimb_1 : decode cX4_costOfClimb 1 = .ok (.iload_n 0, 1) := by decide +kernel
theorem dX4_costOfClimb_2 : decode cX4_costOfClimb 2 = .ok (.imul, 1) := by decide +kernel
theorem dX4_costOfClimb_3 : decode cX4_costOfClimb 3 = .ok (.ireturn, 1) := by decide +kernel
theorem dX4_costOfRound_0 : decode cX4_costOfRound 0 = .ok (.iload_n 3, 1) := by decide +kernel
theorem dX4_costOfRound_1 : decode cX4_costOfRound 1 = .ok (.bipush 6, 2) := by decide +kernel
theorem dX4_costOfRound_3 : decode cX4_costOfRound 3 = .ok (.iload 4, 2) := by decide +kernel
theorem dX4_costOfRound_5 : decode cX4_costOfRound 5 = .ok (.isub, 1) := by decide +kernel
theorem dX4_costOfRound_6 : decode cX4_costOfRound 6 = .ok (.imul, 1) := by decide +kernel
theorem dX4_costOfRound_7 : decode cX4_costOfRound 7 = .ok (.istore 5, 2) := by decide +kernel
theorem dX4_costOfRound_9 : decode cX4_costOfRound 9 = .ok (.iconst 0, 1) := by decide +kernel
theorem dX4_costOfRound_10 : decode cX4_costOfRound 10 = .ok (.istore 6, 2) := by decide +kernel
theorem dX4_costOfRound_12 : decode cX4_costOfRound 12 = .ok (.iload 6, 2) := by decide +kernel
theorem dX4_costOfRound_14 : decode cX4_costOfRound 14 = .ok (.iload_n 3, 1) := by decide +kernel
theorem dX4_costOfRound_15 : decode cX4_costOfRound 15 = .ok (.if_icmp .ge 39, 3) := by decide +kernel
theorem dX4_costOfRound_18 : decode cX4_costOfRound 18 = .ok (.aload_n 0, 1) := by decide +kernel
theorem dX4_costOfRound_19 : decode cX4_costOfRound 19 = .ok (.getfield 19, 3) := by decide +kernel
theorem dX4_costOfRound_22 : decode cX4_costOfRound 22 = .ok (.iload_n 1, 1) := by decide +kernel
theorem dX4_costOfRound_23 : decode cX4_costOfRound 23 = .ok (.iload_n 2, 1) := by decide +kernel
theorem dX4_costOfRound_24 : decode cX4_costOfRound 24 = .ok (.iload 6, 2) := by decide +kernel
theorem dX4_costOfRound_26 : decode cX4_costOfRound 26 = .ok (.iadd, 1) := by decide +kernel
theorem dX4_costOfRound_27 : decode cX4_costOfRound 27 = .ok (.bipush 24, 2) := by decide +kernel
theorem dX4_costOfRound_29 : decode cX4_costOfRound 29 = .ok (.irem, 1) := by decide +kernel
theorem dX4_costOfRound_30 : decode cX4_costOfRound 30 = .ok (.invokevirtual 243, 3) := by decide +kernel
theorem dX4_costOfRound_33 : decode cX4_costOfRound 33 = .ok (.ifCond .ne 15, 3) := by decide +kernel
theorem dX4_costOfRound_36 : decode cX4_costOfRound 36 = .ok (.iload 5, 2) := by decide +kernel
theorem dX4_costOfRound_38 : decode cX4_costOfRound 38 = .ok (.aload_n 0, 1) := by decide +kernel
theorem dX4_costOfRound_39 : decode cX4_costOfRound 39 = .ok (.getfield 19, 3) := by decide +kernel
theorem dX4_costOfRound_42 : decode cX4_costOfRound 42 = .ok (.getfield 140, 3) := by decide +kernel
theorem dX4_costOfRound_45 : decode cX4_costOfRound 45 = .ok (.iadd, 1) := by decide +kernel
theorem dX4_costOfRound_46 : decode cX4_costOfRound 46 = .ok (.istore 5, 2) := by decide +kernel
theorem dX4_costOfRound_48 : decode cX4_costOfRound 48 = .ok (.iinc 6 1, 3) := by decide +kernel
theorem dX4_costOfRound_51 : decode cX4_costOfRound 51 = .ok (.goto (-39), 3) := by decide +kernel
theorem dX4_costOfRound_54 : decode cX4_costOfRound 54 = .ok (.iload 5, 2) := by decide +kernel
theorem dX4_costOfRound_56 : decode cX4_costOfRound 56 = .ok (.ireturn, 1) := by decide +kernel
theorem dX4_sectorBelow_0 : decode cX4_sectorBelow 0 = .ok (.aload_n 0, 1) := by decide +kernel
theorem dX4_sectorBelow_1 : decode cX4_sectorBelow 1 = .ok (.getfield 19, 3) := by decide +kernel
theorem dX4_sectorBelow_4 : decode cX4_sectorBelow 4 = .ok (.iload_n 1, 1) := by decide +kernel
theorem dX4_sectorBelow_5 : decode cX4_sectorBelow 5 = .ok (.iload_n 2, 1) := by decide +kernel
theorem dX4_sectorBelow_6 : decode cX4_sectorBelow 6 = .ok (.invokevirtual 106, 3) := by decide +kernel
theorem dX4_sectorBelow_9 : decode cX4_sectorBelow 9 = .ok (.iconst 3, 1) := by decide +kernel
theorem dX4_sectorBelow_10 : decode cX4_sectorBelow 10 = .ok (.if_icmp .ne 12, 3) := by decide +kernel
theorem dX4_sectorBelow_13 : decode cX4_sectorBelow 13 = .ok (.iload_n 2, 1) := by decide +kernel
theorem dX4_sectorBelow_14 : decode cX4_sectorBelow 14 = .ok (.iconst 1, 1) := by decide +kernel
theorem dX4_sectorBelow_15 : decode cX4_sectorBelow 15 = .ok (.iadd, 1) := by decide +kernel
theorem dX4_sectorBelow_16 : decode cX4_sectorBelow 16 = .ok (.bipush 24, 2) := by decide +kernel
theorem dX4_sectorBelow_18 : decode cX4_sectorBelow 18 = .ok (.irem, 1) := by decide +kernel
theorem dX4_sectorBelow_19 : decode cX4_sectorBelow 19 = .ok (.goto 4, 3) := by decide +kernel
theorem dX4_sectorBelow_22 : decode cX4_sectorBelow 22 = .ok (.iload_n 2, 1) := by decide +kernel
theorem dX4_sectorBelow_23 : decode cX4_sectorBelow 23 = .ok (.ireturn, 1) := by decide +kernel
theorem dX4_hitByStone_0 : decode cX4_hitByStone 0 = .ok (.iconst 0, 1) := by decide +kernel
theorem dX4_hitByStone_1 : decode cX4_hitByStone 1 = .ok (.istore_n 3, 1) := by decide +kernel
theorem dX4_hitByStone_2 : decode cX4_hitByStone 2 = .ok (.iload_n 2, 1) := by decide +kernel
theorem dX4_hitByStone_3 : decode cX4_hitByStone 3 = .ok (.istore 4, 2) := by decide +kernel
theorem dX4_hitByStone_5 : decode cX4_hitByStone 5 = .ok (.iload_n 1, 1) := by decide +kernel
theorem dX4_hitByStone_6 : decode cX4_hitByStone 6 = .ok (.istore 5, 2) := by decide +kernel
theorem dX4_hitByStone_8 : decode cX4_hitByStone 8 = .ok (.iload 5, 2) := by decide +kernel
theorem dX4_hitByStone_10 : decode cX4_hitByStone 10 = .ok (.ifCond .le 48, 3) := by decide +kernel
theorem dX4_hitByStone_13 : decode cX4_hitByStone 13 = .ok (.aload_n 0, 1) := by decide +kernel
theorem dX4_hitByStone_14 : decode cX4_hitByStone 14 = .ok (.getfield 19, 3) := by decide +kernel
theorem dX4_hitByStone_17 : decode cX4_hitByStone 17 = .ok (.iload 5, 2) := by decide +kernel
theorem dX4_hitByStone_19 : decode cX4_hitByStone 19 = .ok (.iload 4, 2) := by decide +kernel
theorem dX4_hitByStone_21 : decode cX4_hitByStone 21 = .ok (.invokevirtual 106, 3) := by decide +kernel
theorem dX4_hitByStone_24 : decode cX4_hitByStone 24 = .ok (.iconst 1, 1) := by decide +kernel
theorem dX4_hitByStone_25 : decode cX4_hitByStone 25 = .ok (.if_icmp .eq 33, 3) := by decide +kernel
theorem dX4_hitByStone_28 : decode cX4_hitByStone 28 = .ok (.aload_n 0, 1) := by decide +kernel
theorem dX4_hitByStone_29 : decode cX4_hitByStone 29 = .ok (.iload 5, 2) := by decide +kernel
theorem dX4_hitByStone_31 : decode cX4_hitByStone 31 = .ok (.iload 4, 2) := by decide +kernel
theorem dX4_hitByStone_33 : decode cX4_hitByStone 33 = .ok (.invokevirtual 246, 3) := by decide +kernel
theorem dX4_hitByStone_36 : decode cX4_hitByStone 36 = .ok (.istore 4, 2) := by decide +kernel
theorem dX4_hitByStone_38 : decode cX4_hitByStone 38 = .ok (.iload_n 3, 1) := by decide +kernel
theorem dX4_hitByStone_39 : decode cX4_hitByStone 39 = .ok (.iconst 1, 1) := by decide +kernel
theorem dX4_hitByStone_40 : decode cX4_hitByStone 40 = .ok (.aload_n 0, 1) := by decide +kernel
theorem dX4_hitByStone_41 : decode cX4_hitByStone 41 = .ok (.getfield 19, 3) := by decide +kernel
theorem dX4_hitByStone_44 : decode cX4_hitByStone 44 = .ok (.iload 4, 2) := by decide +kernel
theorem dX4_hitByStone_46 : decode cX4_hitByStone 46 = .ok (.invokevirtual 160, 3) := by decide +kernel
theorem dX4_hitByStone_49 : decode cX4_hitByStone 49 = .ok (.ishl, 1) := by decide +kernel
theorem dX4_hitByStone_50 : decode cX4_hitByStone 50 = .ok (.ior, 1) := by decide +kernel
theorem dX4_hitByStone_51 : decode cX4_hitByStone 51 = .ok (.istore_n 3, 1) := by decide +kernel
theorem dX4_hitByStone_52 : decode cX4_hitByStone 52 = .ok (.iinc 5 (-1), 3) := by decide +kernel
theorem dX4_hitByStone_55 : decode cX4_hitByStone 55 = .ok (.goto (-47), 3) := by decide +kernel
theorem dX4_hitByStone_58 : decode cX4_hitByStone 58 = .ok (.iload_n 3, 1) := by decide +kernel
theorem dX4_hitByStone_59 : decode cX4_hitByStone 59 = .ok (.ireturn, 1) := by decide +kernel
theorem dX4_endOfStone_0 : decode cX4_endOfStone 0 = .ok (.iload_n 2, 1) := by decide +kernel
theorem dX4_endOfStone_1 : decode cX4_endOfStone 1 = .ok (.istore_n 3, 1) := by decide +kernel
theorem dX4_endOfStone_2 : decode cX4_endOfStone 2 = .ok (.iload_n 1, 1) := by decide +kernel
theorem dX4_endOfStone_3 : decode cX4_endOfStone 3 = .ok (.istore 4, 2) := by decide +kernel
theorem dX4_endOfStone_5 : decode cX4_endOfStone 5 = .ok (.iload 4, 2) := by decide +kernel
theorem dX4_endOfStone_7 : decode cX4_endOfStone 7 = .ok (.ifCond .lt 33, 3) := by decide +kernel
theorem dX4_endOfStone_10 : decode cX4_endOfStone 10 = .ok (.aload_n 0, 1) := by decide +kernel
theorem dX4_endOfStone_11 : decode cX4_endOfStone 11 = .ok (.getfield 19, 3) := by decide +kernel
theorem dX4_endOfStone_14 : decode cX4_endOfStone 14 = .ok (.iload 4, 2) := by decide +kernel
theorem dX4_endOfStone_16 : decode cX4_endOfStone 16 = .ok (.iload_n 3, 1) := by decide +kernel
theorem dX4_endOfStone_17 : decode cX4_endOfStone 17 = .ok (.invokevirtual 106, 3) := by decide +kernel
theorem dX4_endOfStone_20 : decode cX4_endOfStone 20 = .ok (.iconst 1, 1) := by decide +kernel
theorem dX4_endOfStone_21 : decode cX4_endOfStone 21 = .ok (.if_icmp .ne 5, 3) := by decide +kernel
theorem dX4_endOfStone_24 : decode cX4_endOfStone 24 = .ok (.iload_n 3, 1) := by decide +kernel
theorem dX4_endOfStone_25 : decode cX4_endOfStone 25 = .ok (.ireturn, 1) := by decide +kernel
theorem dX4_endOfStone_26 : decode cX4_endOfStone 26 = .ok (.aload_n 0, 1) := by decide +kernel
theorem dX4_endOfStone_27 : decode cX4_endOfStone 27 = .ok (.iload 4, 2) := by decide +kernel
theorem dX4_endOfStone_29 : decode cX4_endOfStone 29 = .ok (.iload_n 3, 1) := by decide +kernel
theorem dX4_endOfStone_30 : decode cX4_endOfStone 30 = .ok (.invokevirtual 246, 3) := by decide +kernel
theorem dX4_endOfStone_33 : decode cX4_endOfStone 33 = .ok (.istore_n 3, 1) := by decide +kernel
theorem dX4_endOfStone_34 : decode cX4_endOfStone 34 = .ok (.iinc 4 (-1), 3) := by decide +kernel
theorem dX4_endOfStone_37 : decode cX4_endOfStone 37 = .ok (.goto (-32), 3) := by decide +kernel
theorem dX4_endOfStone_40 : decode cX4_endOfStone 40 = .ok (.bipush (-6), 2) := by decide +kernel
theorem dX4_endOfStone_42 : decode cX4_endOfStone 42 = .ok (.ireturn, 1) := by decide +kernel
theorem dX4_runOfAvalanche_0 : decode cX4_runOfAvalanche 0 = .ok (.iconst 0, 1) := by decide +kernel
theorem dX4_runOfAvalanche_1 : decode cX4_runOfAvalanche 1 = .ok (.istore 4, 2) := by decide +kernel
theorem dX4_runOfAvalanche_3 : decode cX4_runOfAvalanche 3 = .ok (.iconst 1, 1) := by decide +kernel
theorem dX4_runOfAvalanche_4 : decode cX4_runOfAvalanche 4 = .ok (.istore 5, 2) := by decide +kernel
theorem dX4_runOfAvalanche_6 : decode cX4_runOfAvalanche 6 = .ok (.iconst 1, 1) := by decide +kernel
theorem dX4_runOfAvalanche_7 : decode cX4_runOfAvalanche 7 = .ok (.iload_n 2, 1) := by decide +kernel
theorem dX4_runOfAvalanche_8 : decode cX4_runOfAvalanche 8 = .ok (.ishl, 1) := by decide +kernel
theorem dX4_runOfAvalanche_9 : decode cX4_runOfAvalanche 9 = .ok (.istore 6, 2) := by decide +kernel
theorem dX4_runOfAvalanche_11 : decode cX4_runOfAvalanche 11 = .ok (.iload_n 1, 1) := by decide +kernel
theorem dX4_runOfAvalanche_12 : decode cX4_runOfAvalanche 12 = .ok (.iconst 1, 1) := by decide +kernel
theorem dX4_runOfAvalanche_13 : decode cX4_runOfAvalanche 13 = .ok (.isub, 1) := by decide +kernel
theorem dX4_runOfAvalanche_14 : decode cX4_runOfAvalanche 14 = .ok (.istore 7, 2) := by decide +kernel
theorem dX4_runOfAvalanche_16 : decode cX4_runOfAvalanche 16 = .ok (.iload 7, 2) := by decide +kernel
theorem dX4_runOfAvalanche_18 : decode cX4_runOfAvalanche 18 = .ok (.ifCond .lt 53, 3) := by decide +kernel
theorem dX4_runOfAvalanche_21 : decode cX4_runOfAvalanche 21 = .ok (.iload 6, 2) := by decide +kernel
theorem dX4_runOfAvalanche_23 : decode cX4_runOfAvalanche 23 = .ok (.invokestatic 249, 3) := by decide +kernel
theorem dX4_runOfAvalanche_26 : decode cX4_runOfAvalanche 26 = .ok (.aload_n 0, 1) := by decide +kernel
theorem dX4_runOfAvalanche_27 : decode cX4_runOfAvalanche 27 = .ok (.getfield 19, 3) := by decide +kernel
theorem dX4_runOfAvalanche_30 : decode cX4_runOfAvalanche 30 = .ok (.iload 7, 2) := by decide +kernel
theorem dX4_runOfAvalanche_32 : decode cX4_runOfAvalanche 32 = .ok (.iconst 1, 1) := by decide +kernel
theorem dX4_runOfAvalanche_33 : decode cX4_runOfAvalanche 33 = .ok (.invokevirtual 252, 3) := by decide +kernel
theorem dX4_runOfAvalanche_36 : decode cX4_runOfAvalanche 36 = .ok (.iconst (-1), 1) := by decide +kernel
theorem dX4_runOfAvalanche_37 : decode cX4_runOfAvalanche 37 = .ok (.ixor, 1) := by decide +kernel
theorem dX4_runOfAvalanche_38 : decode cX4_runOfAvalanche 38 = .ok (.iand, 1) := by decide +kernel
theorem dX4_runOfAvalanche_39 : decode cX4_runOfAvalanche 39 = .ok (.istore 6, 2) := by decide +kernel
theorem dX4_runOfAvalanche_41 : decode cX4_runOfAvalanche 41 = .ok (.iload 5, 2) := by decide +kernel
theorem dX4_runOfAvalanche_43 : decode cX4_runOfAvalanche 43 = .ok (.iload 6, 2) := by decide +kernel
theorem dX4_runOfAvalanche_45 : decode cX4_runOfAvalanche 45 = .ok (.invokestatic 192, 3) := by decide +kernel
theorem dX4_runOfAvalanche_48 : decode cX4_runOfAvalanche 48 = .ok (.iadd, 1) := by decide +kernel
theorem dX4_runOfAvalanche_49 : decode cX4_runOfAvalanche 49 = .ok (.istore 5, 2) := by decide +kernel
theorem dX4_runOfAvalanche_51 : decode cX4_runOfAvalanche 51 = .ok (.iload 4, 2) := by decide +kernel
theorem dX4_runOfAvalanche_53 : decode cX4_runOfAvalanche 53 = .ok (.aload_n 0, 1) := by decide +kernel
theorem dX4_runOfAvalanche_54 : decode cX4_runOfAvalanche 54 = .ok (.getfield 19, 3) := by decide +kernel
theorem dX4_runOfAvalanche_57 : decode cX4_runOfAvalanche 57 = .ok (.iload 6, 2) := by decide +kernel
theorem dX4_runOfAvalanche_59 : decode cX4_runOfAvalanche 59 = .ok (.invokevirtual 255, 3) := by decide +kernel
theorem dX4_runOfAvalanche_62 : decode cX4_runOfAvalanche 62 = .ok (.ior, 1) := by decide +kernel
theorem dX4_runOfAvalanche_63 : decode cX4_runOfAvalanche 63 = .ok (.istore 4, 2) := by decide +kernel
theorem dX4_runOfAvalanche_65 : decode cX4_runOfAvalanche 65 = .ok (.iinc 7 (-1), 3) := by decide +kernel
theorem dX4_runOfAvalanche_68 : decode cX4_runOfAvalanche 68 = .ok (.goto (-52), 3) := by decide +kernel
theorem dX4_runOfAvalanche_71 : decode cX4_runOfAvalanche 71 = .ok (.iload_n 3, 1) := by decide +kernel
theorem dX4_runOfAvalanche_72 : decode cX4_runOfAvalanche 72 = .ok (.ifCond .ne 8, 3) := by decide +kernel
theorem dX4_runOfAvalanche_75 : decode cX4_runOfAvalanche 75 = .ok (.iload 4, 2) := by decide +kernel
theorem dX4_runOfAvalanche_77 : decode cX4_runOfAvalanche 77 = .ok (.goto 5, 3) := by decide +kernel
theorem dX4_runOfAvalanche_80 : decode cX4_runOfAvalanche 80 = .ok (.iload 5, 2) := by decide +kernel
theorem dX4_runOfAvalanche_82 : decode cX4_runOfAvalanche 82 = .ok (.ireturn, 1) := by decide +kernel
theorem dX4_withThoseBeside_0 : decode cX4_withThoseBeside 0 = .ok (.iload_n 0, 1) := by decide +kernel
theorem dX4_withThoseBeside_1 : decode cX4_withThoseBeside 1 = .ok (.iconst 1, 1) := by decide +kernel
theorem dX4_withThoseBeside_2 : decode cX4_withThoseBeside 2 = .ok (.ishl, 1) := by decide +kernel
theorem dX4_withThoseBeside_3 : decode cX4_withThoseBeside 3 = .ok (.iload_n 0, 1) := by decide +kernel
theorem dX4_withThoseBeside_4 : decode cX4_withThoseBeside 4 = .ok (.bipush 23, 2) := by decide +kernel
theorem dX4_withThoseBeside_6 : decode cX4_withThoseBeside 6 = .ok (.ishr, 1) := by decide +kernel
theorem dX4_withThoseBeside_7 : decode cX4_withThoseBeside 7 = .ok (.ior, 1) := by decide +kernel
theorem dX4_withThoseBeside_8 : decode cX4_withThoseBeside 8 = .ok (.istore_n 1, 1) := by decide +kernel
theorem dX4_withThoseBeside_9 : decode cX4_withThoseBeside 9 = .ok (.iload_n 0, 1) := by decide +kernel
theorem dX4_withThoseBeside_10 : decode cX4_withThoseBeside 10 = .ok (.iconst 1, 1) := by decide +kernel
theorem dX4_withThoseBeside_11 : decode cX4_withThoseBeside 11 = .ok (.ishr, 1) := by decide +kernel
theorem dX4_withThoseBeside_12 : decode cX4_withThoseBeside 12 = .ok (.iload_n 0, 1) := by decide +kernel
theorem dX4_withThoseBeside_13 : decode cX4_withThoseBeside 13 = .ok (.bipush 23, 2) := by decide +kernel
theorem dX4_withThoseBeside_15 : decode cX4_withThoseBeside 15 = .ok (.ishl, 1) := by decide +kernel
theorem dX4_withThoseBeside_16 : decode cX4_withThoseBeside 16 = .ok (.ior, 1) := by decide +kernel
theorem dX4_withThoseBeside_17 : decode cX4_withThoseBeside 17 = .ok (.istore_n 2, 1) := by decide +kernel
theorem dX4_withThoseBeside_18 : decode cX4_withThoseBeside 18 = .ok (.iload_n 0, 1) := by decide +kernel
theorem dX4_withThoseBeside_19 : decode cX4_withThoseBeside 19 = .ok (.iload_n 1, 1) := by decide +kernel
theorem dX4_withThoseBeside_20 : decode cX4_withThoseBeside 20 = .ok (.ior, 1) := by decide +kernel
theorem dX4_withThoseBeside_21 : decode cX4_withThoseBeside 21 = .ok (.iload_n 2, 1) := by decide +kernel
theorem dX4_withThoseBeside_22 : decode cX4_withThoseBeside 22 = .ok (.ior, 1) := by decide +kernel
theorem dX4_withThoseBeside_23 : decode cX4_withThoseBeside 23 = .ok (.ldc 132, 2) := by decide +kernel
theorem dX4_withThoseBeside_25 : decode cX4_withThoseBeside 25 = .ok (.iand, 1) := by decide +kernel
theorem dX4_withThoseBeside_26 : decode cX4_withThoseBeside 26 = .ok (.ireturn, 1) := by decide +kernel
theorem dX4_yearsOfSpring_0 : decode cX4_yearsOfSpring 0 = .ok (.iconst 0, 1) := by decide +kernel
theorem dX4_yearsOfSpring_1 : decode cX4_yearsOfSpring 1 = .ok (.istore 5, 2) := by decide +kernel
theorem dX4_yearsOfSpring_3 : decode cX4_yearsOfSpring 3 = .ok (.iconst 0, 1) := by decide +kernel
theorem dX4_yearsOfSpring_4 : decode cX4_yearsOfSpring 4 = .ok (.istore 6, 2) := by decide +kernel
theorem dX4_yearsOfSpring_6 : decode cX4_yearsOfSpring 6 = .ok (.iload 6, 2) := by decide +kernel
theorem dX4_yearsOfSpring_8 : decode cX4_yearsOfSpring 8 = .ok (.iload_n 3, 1) := by decide +kernel
theorem dX4_yearsOfSpring_9 : decode cX4_yearsOfSpring 9 = .ok (.if_icmp .gt 33, 3) := by decide +kernel
theorem dX4_yearsOfSpring_12 : decode cX4_yearsOfSpring 12 = .ok (.aload_n 0, 1) := by decide +kernel
theorem dX4_yearsOfSpring_13 : decode cX4_yearsOfSpring 13 = .ok (.getfield 19, 3) := by decide +kernel
theorem dX4_yearsOfSpring_16 : decode cX4_yearsOfSpring 16 = .ok (.iload_n 1, 1) := by decide +kernel
theorem dX4_yearsOfSpring_17 : decode cX4_yearsOfSpring 17 = .ok (.iload_n 2, 1) := by decide +kernel
theorem dX4_yearsOfSpring_18 : decode cX4_yearsOfSpring 18 = .ok (.iload 6, 2) := by decide +kernel
theorem dX4_yearsOfSpring_20 : decode cX4_yearsOfSpring 20 = .ok (.imul, 1) := by decide +kernel
theorem dX4_yearsOfSpring_21 : decode cX4_yearsOfSpring 21 = .ok (.iadd, 1) := by decide +kernel
theorem dX4_yearsOfSpring_22 : decode cX4_yearsOfSpring 22 = .ok (.bipush 24, 2) := by decide +kernel
theorem dX4_yearsOfSpring_24 : decode cX4_yearsOfSpring 24 = .ok (.irem, 1) := by decide +kernel
theorem dX4_yearsOfSpring_25 : decode cX4_yearsOfSpring 25 = .ok (.invokevirtual 160, 3) := by decide +kernel
theorem dX4_yearsOfSpring_28 : decode cX4_yearsOfSpring 28 = .ok (.iload 4, 2) := by decide +kernel
theorem dX4_yearsOfSpring_30 : decode cX4_yearsOfSpring 30 = .ok (.if_icmp .ne 6, 3) := by decide +kernel
theorem dX4_yearsOfSpring_33 : decode cX4_yearsOfSpring 33 = .ok (.iinc 5 1, 3) := by decide +kernel
theorem dX4_yearsOfSpring_36 : decode cX4_yearsOfSpring 36 = .ok (.iinc 6 1, 3) := by decide +kernel
theorem dX4_yearsOfSpring_39 : decode cX4_yearsOfSpring 39 = .ok (.goto (-33), 3) := by decide +kernel
theorem dX4_yearsOfSpring_42 : decode cX4_yearsOfSpring 42 = .ok (.iload 5, 2) := by decide +kernel
theorem dX4_yearsOfSpring_44 : decode cX4_yearsOfSpring 44 = .ok (.ireturn, 1) := by decide +kernel
theorem dX4_firstYearOfSpring_0 : decode cX4_firstYearOfSpring 0 = .ok (.iconst 0, 1) := by decide +kernel
theorem dX4_firstYearOfSpring_1 : decode cX4_firstYearOfSpring 1 = .ok (.istore 5, 2) := by decide +kernel
theorem dX4_firstYearOfSpring_3 : decode cX4_firstYearOfSpring 3 = .ok (.iload 5, 2) := by decide +kernel
theorem dX4_firstYearOfSpring_5 : decode cX4_firstYearOfSpring 5 = .ok (.iload_n 3, 1) := by decide +kernel
theorem dX4_firstYearOfSpring_6 : decode cX4_firstYearOfSpring 6 = .ok (.if_icmp .gt 33, 3) := by decide +kernel
theorem dX4_firstYearOfSpring_9 : decode cX4_firstYearOfSpring 9 = .ok (.aload_n 0, 1) := by decide +kernel
theorem dX4_firstYearOfSpring_10 : decode cX4_firstYearOfSpring 10 = .ok (.getfield 19, 3) := by decide +kernel
theorem dX4_firstYearOfSpring_13 : decode cX4_firstYearOfSpring 13 = .ok (.iload_n 1, 1) := by decide +kernel
theorem dX4_firstYearOfSpring_14 : decode cX4_firstYearOfSpring 14 = .ok (.iload_n 2, 1) := by decide +kernel
theorem dX4_firstYearOfSpring_15 : decode cX4_firstYearOfSpring 15 = .ok (.iload 5, 2) := by decide +kernel
theorem dX4_firstYearOfSpring_17 : decode cX4_firstYearOfSpring 17 = .ok (.imul, 1) := by decide +kernel
theorem dX4_firstYearOfSpring_18 : decode cX4_firstYearOfSpring 18 = .ok (.iadd, 1) := by decide +kernel
theorem dX4_firstYearOfSpring_19 : decode cX4_firstYearOfSpring 19 = .ok (.bipush 24, 2) := by decide +kernel
theorem dX4_firstYearOfSpring_21 : decode cX4_firstYearOfSpring 21 = .ok (.irem, 1) := by decide +kernel
theorem dX4_firstYearOfSpring_22 : decode cX4_firstYearOfSpring 22 = .ok (.invokevirtual 160, 3) := by decide +kernel
theorem dX4_firstYearOfSpring_25 : decode cX4_firstYearOfSpring 25 = .ok (.iload 4, 2) := by decide +kernel
theorem dX4_firstYearOfSpring_27 : decode cX4_firstYearOfSpring 27 = .ok (.if_icmp .ne 6, 3) := by decide +kernel
theorem dX4_firstYearOfSpring_30 : decode cX4_firstYearOfSpring 30 = .ok (.iload 5, 2) := by decide +kernel
theorem dX4_firstYearOfSpring_32 : decode cX4_firstYearOfSpring 32 = .ok (.ireturn, 1) := by decide +kernel
theorem dX4_firstYearOfSpring_33 : decode cX4_firstYearOfSpring 33 = .ok (.iinc 5 1, 3) := by decide +kernel
theorem dX4_firstYearOfSpring_36 : decode cX4_firstYearOfSpring 36 = .ok (.goto (-33), 3) := by decide +kernel
theorem dX4_firstYearOfSpring_39 : decode cX4_firstYearOfSpring 39 = .ok (.bipush (-6), 2) := by decide +kernel
theorem dX4_firstYearOfSpring_41 : decode cX4_firstYearOfSpring 41 = .ok (.ireturn, 1) := by decide +kernel
theorem dX4_boundsAsOne_0 : decode cX4_boundsAsOne 0 = .ok (.iconst 0, 1) := by decide +kernel
theorem dX4_boundsAsOne_1 : decode cX4_boundsAsOne 1 = .ok (.istore_n 3, 1) := by decide +kernel
theorem dX4_boundsAsOne_2 : decode cX4_boundsAsOne 2 = .ok (.aload_n 0, 1) := by decide +kernel
theorem dX4_boundsAsOne_3 : decode cX4_boundsAsOne 3 = .ok (.getfield 19, 3) := by decide +kernel
theorem dX4_boundsAsOne_6 : decode cX4_boundsAsOne 6 = .ok (.bipush 23, 2) := by decide +kernel
theorem dX4_boundsAsOne_8 : decode cX4_boundsAsOne 8 = .ok (.invokevirtual 160, 3) := by decide +kernel
theorem dX4_boundsAsOne_11 : decode cX4_boundsAsOne 11 = .ok (.iload_n 1, 1) := by decide +kernel
theorem dX4_boundsAsOne_12 : decode cX4_boundsAsOne 12 = .ok (.iload_n 2, 1) := by decide +kernel
theorem dX4_boundsAsOne_13 : decode cX4_boundsAsOne 13 = .ok (.invokestatic 258, 3) := by decide +kernel
theorem dX4_boundsAsOne_16 : decode cX4_boundsAsOne 16 = .ok (.istore 4, 2) := by decide +kernel
theorem dX4_boundsAsOne_18 : decode cX4_boundsAsOne 18 = .ok (.iconst 0, 1) := by decide +kernel
theorem dX4_boundsAsOne_19 : decode cX4_boundsAsOne 19 = .ok (.istore 5, 2) := by decide +kernel
theorem dX4_boundsAsOne_21 : decode cX4_boundsAsOne 21 = .ok (.iload 5, 2) := by decide +kernel
theorem dX4_boundsAsOne_23 : decode cX4_boundsAsOne 23 = .ok (.bipush 24, 2) := by decide +kernel
theorem dX4_boundsAsOne_25 : decode cX4_boundsAsOne 25 = .ok (.if_icmp .ge 39, 3) := by decide +kernel
theorem dX4_boundsAsOne_28 : decode cX4_boundsAsOne 28 = .ok (.aload_n 0, 1) := by decide +kernel
theorem dX4_boundsAsOne_29 : decode cX4_boundsAsOne 29 = .ok (.getfield 19, 3) := by decide +kernel
theorem dX4_boundsAsOne_32 : decode cX4_boundsAsOne 32 = .ok (.iload 5, 2) := by decide +kernel
theorem dX4_boundsAsOne_34 : decode cX4_boundsAsOne 34 = .ok (.invokevirtual 160, 3) := by decide +kernel
theorem dX4_boundsAsOne_37 : decode cX4_boundsAsOne 37 = .ok (.iload_n 1, 1) := by decide +kernel
theorem dX4_boundsAsOne_38 : decode cX4_boundsAsOne 38 = .ok (.iload_n 2, 1) := by decide +kernel
theorem dX4_boundsAsOne_39 : decode cX4_boundsAsOne 39 = .ok (.invokestatic 258, 3) := by decide +kernel
theorem dX4_boundsAsOne_42 : decode cX4_boundsAsOne 42 = .ok (.istore 6, 2) := by decide +kernel
theorem dX4_boundsAsOne_44 : decode cX4_boundsAsOne 44 = .ok (.iload 6, 2) := by decide +kernel
theorem dX4_boundsAsOne_46 : decode cX4_boundsAsOne 46 = .ok (.iload 4, 2) := by decide +kernel
theorem dX4_boundsAsOne_48 : decode cX4_boundsAsOne 48 = .ok (.if_icmp .eq 6, 3) := by decide +kernel
theorem dX4_boundsAsOne_51 : decode cX4_boundsAsOne 51 = .ok (.iinc 3 1, 3) := by decide +kernel
theorem dX4_boundsAsOne_54 : decode cX4_boundsAsOne 54 = .ok (.iload 6, 2) := by decide +kernel
theorem dX4_boundsAsOne_56 : decode cX4_boundsAsOne 56 = .ok (.istore 4, 2) := by decide +kernel
theorem dX4_boundsAsOne_58 : decode cX4_boundsAsOne 58 = .ok (.iinc 5 1, 3) := by decide +kernel
theorem dX4_boundsAsOne_61 : decode cX4_boundsAsOne 61 = .ok (.goto (-40), 3) := by decide +kernel
theorem dX4_boundsAsOne_64 : decode cX4_boundsAsOne 64 = .ok (.iload_n 3, 1) := by decide +kernel
theorem dX4_boundsAsOne_65 : decode cX4_boundsAsOne 65 = .ok (.ireturn, 1) := by decide +kernel
theorem dX4_asOne_0 : decode cX4_asOne 0 = .ok (.iload_n 0, 1) := by decide +kernel
theorem dX4_asOne_1 : decode cX4_asOne 1 = .ok (.iload_n 2, 1) := by decide +kernel
theorem dX4_asOne_2 : decode cX4_asOne 2 = .ok (.if_icmp .ne 7, 3) := by decide +kernel
theorem dX4_asOne_5 : decode cX4_asOne 5 = .ok (.iload_n 1, 1) := by decide +kernel
theorem dX4_asOne_6 : decode cX4_asOne 6 = .ok (.goto 4, 3) := by decide +kernel
theorem dX4_asOne_9 : decode cX4_asOne 9 = .ok (.iload_n 0, 1) := by decide +kernel
theorem dX4_asOne_10 : decode cX4_asOne 10 = .ok (.ireturn, 1) := by decide +kernel
theorem dX4_bestWedding_0 : decode cX4_bestWedding 0 = .ok (.bipush 25, 2) := by decide +kernel
theorem dX4_bestWedding_2 : decode cX4_bestWedding 2 = .ok (.istore_n 1, 1) := by decide +kernel
theorem dX4_bestWedding_3 : decode cX4_bestWedding 3 = .ok (.bipush (-6), 2) := by decide +kernel
theorem dX4_bestWedding_5 : decode cX4_bestWedding 5 = .ok (.istore_n 2, 1) := by decide +kernel
theorem dX4_bestWedding_6 : decode cX4_bestWedding 6 = .ok (.iconst 0, 1) := by decide +kernel
theorem dX4_bestWedding_7 : decode cX4_bestWedding 7 = .ok (.istore_n 3, 1) := by decide +kernel
theorem dX4_bestWedding_8 : decode cX4_bestWedding 8 = .ok (.iload_n 3, 1) := by decide +kernel
theorem dX4_bestWedding_9 : decode cX4_bestWedding 9 = .ok (.bipush 6, 2) := by decide +kernel
theorem dX4_bestWedding_11 : decode cX4_bestWedding 11 = .ok (.if_icmp .ge 76, 3) := by decide +kernel
theorem dX4_bestWedding_14 : decode cX4_bestWedding 14 = .ok (.iload_n 3, 1) := by decide +kernel
theorem dX4_bestWedding_15 : decode cX4_bestWedding 15 = .ok (.iconst 1, 1) := by decide +kernel
theorem dX4_bestWedding_16 : decode cX4_bestWedding 16 = .ok (.iadd, 1) := by decide +kernel
theorem dX4_bestWedding_17 : decode cX4_bestWedding 17 = .ok (.istore 4, 2) := by decide +kernel
theorem dX4_bestWedding_19 : decode cX4_bestWedding 19 = .ok (.iload 4, 2) := by decide +kernel
theorem dX4_bestWedding_21 : decode cX4_bestWedding 21 = .ok (.bipush 6, 2) := by decide +kernel
theorem dX4_bestWedding_23 : decode cX4_bestWedding 23 = .ok (.if_icmp .ge 58, 3) := by decide +kernel
theorem dX4_bestWedding_26 : decode cX4_bestWedding 26 = .ok (.aload_n 0, 1) := by decide +kernel
theorem dX4_bestWedding_27 : decode cX4_bestWedding 27 = .ok (.getfield 19, 3) := by decide +kernel
theorem dX4_bestWedding_30 : decode cX4_bestWedding 30 = .ok (.iload_n 3, 1) := by decide +kernel
theorem dX4_bestWedding_31 : decode cX4_bestWedding 31 = .ok (.invokevirtual 122, 3) := by decide +kernel
theorem dX4_bestWedding_34 : decode cX4_bestWedding 34 = .ok (.ifCond .eq 41, 3) := by decide +kernel
theorem dX4_bestWedding_37 : decode cX4_bestWedding 37 = .ok (.aload_n 0, 1) := by decide +kernel
theorem dX4_bestWedding_38 : decode cX4_bestWedding 38 = .ok (.getfield 19, 3) := by decide +kernel
theorem dX4_bestWedding_41 : decode cX4_bestWedding 41 = .ok (.iload 4, 2) := by decide +kernel
theorem dX4_bestWedding_43 : decode cX4_bestWedding 43 = .ok (.invokevirtual 122, 3) := by decide +kernel
theorem dX4_bestWedding_46 : decode cX4_bestWedding 46 = .ok (.ifCond .eq 29, 3) := by decide +kernel
theorem dX4_bestWedding_49 : decode cX4_bestWedding 49 = .ok (.aload_n 0, 1) := by decide +kernel
theorem dX4_bestWedding_50 : decode cX4_bestWedding 50 = .ok (.iload_n 3, 1) := by decide +kernel
theorem dX4_bestWedding_51 : decode cX4_bestWedding 51 = .ok (.iload 4, 2) := by decide +kernel
theorem dX4_bestWedding_53 : decode cX4_bestWedding 53 = .ok (.invokevirtual 173, 3) := by decide +kernel
theorem dX4_bestWedding_56 : decode cX4_bestWedding 56 = .ok (.istore 5, 2) := by decide +kernel
theorem dX4_bestWedding_58 : decode cX4_bestWedding 58 = .ok (.iload 5, 2) := by decide +kernel
theorem dX4_bestWedding_60 : decode cX4_bestWedding 60 = .ok (.iload_n 1, 1) := by decide +kernel
theorem dX4_bestWedding_61 : decode cX4_bestWedding 61 = .ok (.if_icmp .ge 14, 3) := by decide +kernel
theorem dX4_bestWedding_64 : decode cX4_bestWedding 64 = .ok (.iload 5, 2) := by decide +kernel
theorem dX4_bestWedding_66 : decode cX4_bestWedding 66 = .ok (.istore_n 1, 1) := by decide +kernel
theorem dX4_bestWedding_67 : decode cX4_bestWedding 67 = .ok (.bipush 10, 2) := by decide +kernel
theorem dX4_bestWedding_69 : decode cX4_bestWedding 69 = .ok (.iload_n 3, 1) := by decide +kernel
theorem dX4_bestWedding_70 : decode cX4_bestWedding 70 = .ok (.imul, 1) := by decide +kernel
theorem dX4_bestWedding_71 : decode cX4_bestWedding 71 = .ok (.iload 4, 2) := by decide +kernel
theorem dX4_bestWedding_73 : decode cX4_bestWedding 73 = .ok (.iadd, 1) := by decide +kernel
theorem dX4_bestWedding_74 : decode cX4_bestWedding 74 = .ok (.istore_n 2, 1) := by decide +kernel
theorem dX4_bestWedding_75 : decode cX4_bestWedding 75 = .ok (.iinc 4 1, 3) := by decide +kernel
theorem dX4_bestWedding_78 : decode cX4_bestWedding 78 = .ok (.goto (-59), 3) := by decide +kernel
theorem dX4_bestWedding_81 : decode cX4_bestWedding 81 = .ok (.iinc 3 1, 3) := by decide +kernel
theorem dX4_bestWedding_84 : decode cX4_bestWedding 84 = .ok (.goto (-76), 3) := by decide +kernel
theorem dX4_bestWedding_87 : decode cX4_bestWedding 87 = .ok (.iload_n 2, 1) := by decide +kernel
theorem dX4_bestWedding_88 : decode cX4_bestWedding 88 = .ok (.ireturn, 1) := by decide +kernel
theorem dX4_narrowestPiece_0 : decode cX4_narrowestPiece 0 = .ok (.bipush 24, 2) := by decide +kernel
theorem dX4_narrowestPiece_2 : decode cX4_narrowestPiece 2 = .ok (.istore_n 1, 1) := by decide +kernel
theorem dX4_narrowestPiece_3 : decode cX4_narrowestPiece 3 = .ok (.iconst 0, 1) := by decide +kernel
theorem dX4_narrowestPiece_4 : decode cX4_narrowestPiece 4 = .ok (.istore_n 2, 1) := by decide +kernel
theorem dX4_narrowestPiece_5 : decode cX4_narrowestPiece 5 = .ok (.iload_n 2, 1) := by decide +kernel
theorem dX4_narrowestPiece_6 : decode cX4_narrowestPiece 6 = .ok (.bipush 24, 2) := by decide +kernel
theorem dX4_narrowestPiece_8 : decode cX4_narrowestPiece 8 = .ok (.if_icmp .ge 43, 3) := by decide +kernel
theorem dX4_narrowestPiece_11 : decode cX4_narrowestPiece 11 = .ok (.aload_n 0, 1) := by decide +kernel
theorem dX4_narrowestPiece_12 : decode cX4_narrowestPiece 12 = .ok (.getfield 19, 3) := by decide +kernel
theorem dX4_narrowestPiece_15 : decode cX4_narrowestPiece 15 = .ok (.iload_n 2, 1) := by decide +kernel
theorem dX4_narrowestPiece_16 : decode cX4_narrowestPiece 16 = .ok (.invokevirtual 160, 3) := by decide +kernel
theorem dX4_narrowestPiece_19 : decode cX4_narrowestPiece 19 = .ok (.aload_n 0, 1) := by decide +kernel
theorem dX4_narrowestPiece_20 : decode cX4_narrowestPiece 20 = .ok (.getfield 19, 3) := by decide +kernel
theorem dX4_narrowestPiece_23 : decode cX4_narrowestPiece 23 = .ok (.iload_n 2, 1) := by decide +kernel
theorem dX4_narrowestPiece_24 : decode cX4_narrowestPiece 24 = .ok (.iconst 1, 1) := by decide +kernel
theorem dX4_narrowestPiece_25 : decode cX4_narrowestPiece 25 = .ok (.iadd, 1) := by decide +kernel
theorem dX4_narrowestPiece_26 : decode cX4_narrowestPiece 26 = .ok (.bipush 24, 2) := by decide +kernel
theorem dX4_narrowestPiece_28 : decode cX4_narrowestPiece 28 = .ok (.irem, 1) := by decide +kernel
theorem dX4_narrowestPiece_29 : decode cX4_narrowestPiece 29 = .ok (.invokevirtual 160, 3) := by decide +kernel
theorem dX4_narrowestPiece_32 : decode cX4_narrowestPiece 32 = .ok (.if_icmp .eq 13, 3) := by decide +kernel
theorem dX4_narrowestPiece_35 : decode cX4_narrowestPiece 35 = .ok (.iload_n 1, 1) := by decide +kernel
theorem dX4_narrowestPiece_36 : decode cX4_narrowestPiece 36 = .ok (.aload_n 0, 1) := by decide +kernel
theorem dX4_narrowestPiece_37 : decode cX4_narrowestPiece 37 = .ok (.iload_n 2, 1) := by decide +kernel
theorem dX4_narrowestPiece_38 : decode cX4_narrowestPiece 38 = .ok (.invokevirtual 261, 3) := by decide +kernel
theorem dX4_narrowestPiece_41 : decode cX4_narrowestPiece 41 = .ok (.invokestatic 232, 3) := by decide +kernel
theorem dX4_narrowestPiece_44 : decode cX4_narrowestPiece 44 = .ok (.istore_n 1, 1) := by decide +kernel
theorem dX4_narrowestPiece_45 : decode cX4_narrowestPiece 45 = .ok (.iinc 2 1, 3) := by decide +kernel
theorem dX4_narrowestPiece_48 : decode cX4_narrowestPiece 48 = .ok (.goto (-43), 3) := by decide +kernel
theorem dX4_narrowestPiece_51 : decode cX4_narrowestPiece 51 = .ok (.iload_n 1, 1) := by decide +kernel
theorem dX4_narrowestPiece_52 : decode cX4_narrowestPiece 52 = .ok (.ireturn, 1) := by decide +kernel
theorem dX4_pieceBehind_0 : decode cX4_pieceBehind 0 = .ok (.aload_n 0, 1) := by decide +kernel
theorem dX4_pieceBehind_1 : decode cX4_pieceBehind 1 = .ok (.getfield 19, 3) := by decide +kernel
theorem dX4_pieceBehind_4 : decode cX4_pieceBehind 4 = .ok (.iload_n 1, 1) := by decide +kernel
theorem dX4_pieceBehind_5 : decode cX4_pieceBehind 5 = .ok (.iconst 1, 1) := by decide +kernel
theorem dX4_pieceBehind_6 : decode cX4_pieceBehind 6 = .ok (.iadd, 1) := by decide +kernel
theorem dX4_pieceBehind_7 : decode cX4_pieceBehind 7 = .ok (.bipush 24, 2) := by decide +kernel
theorem dX4_pieceBehind_9 : decode cX4_pieceBehind 9 = .ok (.irem, 1) := by decide +kernel
theorem dX4_pieceBehind_10 : decode cX4_pieceBehind 10 = .ok (.invokevirtual 160, 3) := by decide +kernel
theorem dX4_pieceBehind_13 : decode cX4_pieceBehind 13 = .ok (.istore_n 2, 1) := by decide +kernel
theorem dX4_pieceBehind_14 : decode cX4_pieceBehind 14 = .ok (.iconst 1, 1) := by decide +kernel
theorem dX4_pieceBehind_15 : decode cX4_pieceBehind 15 = .ok (.istore_n 3, 1) := by decide +kernel
theorem dX4_pieceBehind_16 : decode cX4_pieceBehind 16 = .ok (.iload_n 3, 1) := by decide +kernel
theorem dX4_pieceBehind_17 : decode cX4_pieceBehind 17 = .ok (.bipush 24, 2) := by decide +kernel
theorem dX4_pieceBehind_19 : decode cX4_pieceBehind 19 = .ok (.if_icmp .ge 28, 3) := by decide +kernel
theorem dX4_pieceBehind_22 : decode cX4_pieceBehind 22 = .ok (.aload_n 0, 1) := by decide +kernel
theorem dX4_pieceBehind_23 : decode cX4_pieceBehind 23 = .ok (.getfield 19, 3) := by decide +kernel
theorem dX4_pieceBehind_26 : decode cX4_pieceBehind 26 = .ok (.iload_n 1, 1) := by decide +kernel
theorem dX4_pieceBehind_27 : decode cX4_pieceBehind 27 = .ok (.iconst 1, 1) := by decide +kernel
theorem dX4_pieceBehind_28 : decode cX4_pieceBehind 28 = .ok (.iadd, 1) := by decide +kernel
theorem dX4_pieceBehind_29 : decode cX4_pieceBehind 29 = .ok (.iload_n 3, 1) := by decide +kernel
theorem dX4_pieceBehind_30 : decode cX4_pieceBehind 30 = .ok (.iadd, 1) := by decide +kernel
theorem dX4_pieceBehind_31 : decode cX4_pieceBehind 31 = .ok (.bipush 24, 2) := by decide +kernel
theorem dX4_pieceBehind_33 : decode cX4_pieceBehind 33 = .ok (.irem, 1) := by decide +kernel
theorem dX4_pieceBehind_34 : decode cX4_pieceBehind 34 = .ok (.invokevirtual 160, 3) := by decide +kernel
theorem dX4_pieceBehind_37 : decode cX4_pieceBehind 37 = .ok (.iload_n 2, 1) := by decide +kernel
theorem dX4_pieceBehind_38 : decode cX4_pieceBehind 38 = .ok (.if_icmp .ne 9, 3) := by decide +kernel
theorem dX4_pieceBehind_41 : decode cX4_pieceBehind 41 = .ok (.iinc 3 1, 3) := by decide +kernel
theorem dX4_pieceBehind_44 : decode cX4_pieceBehind 44 = .ok (.goto (-28), 3) := by decide +kernel
theorem dX4_pieceBehind_47 : decode cX4_pieceBehind 47 = .ok (.iload_n 3, 1) := by decide +kernel
theorem dX4_pieceBehind_48 : decode cX4_pieceBehind 48 = .ok (.ireturn, 1) := by decide +kernel
