theorem dX0_init_0 : decode cX0_init 0 = .ok (.aload_n 0, 1) := by decide +kernel
theorem dX0_init_1 : decode cX0_init 1 = .ok (.invokespecial 3, 3) := by decide +kernel
theorem dX0_init_4 : decode cX0_init 4 = .ok (.aload_n 0, 1) := by decide +kernel
theorem dX0_init_5 : decode cX0_init 5 = .ok (.bipush 64, 2) := by decide +kernel
theorem dX0_init_7 : decode cX0_init 7 = .ok (.newarray .int, 2) := by decide +kernel
theorem dX0_init_9 : decode cX0_init 9 = .ok (.putfield 9, 3) := by decide +kernel
theorem dX0_init_12 : decode cX0_init 12 = .ok (.aload_n 0, 1) := by decide +kernel
theorem dX0_init_13 : decode cX0_init 13 = .ok (.bipush 64, 2) := by decide +kernel
theorem dX0_init_15 : decode cX0_init 15 = .ok (.newarray .int, 2) := by decide +kernel
theorem dX0_init_17 : decode cX0_init 17 = .ok (.putfield 15, 3) := by decide +kernel
theorem dX0_init_20 : decode cX0_init 20 = .ok (.return_, 1) := by decide +kernel
theorem dX0_size_0 : decode cX0_size 0 = .ok (.aload_n 0, 1) := by decide +kernel
theorem dX0_size_1 : decode cX0_size 1 = .ok (.getfield 18, 3) := by decide +kernel
theorem dX0_size_4 : decode cX0_size 4 = .ok (.ireturn, 1) := by decide +kernel
theorem dX0_empty_0 : decode cX0_empty 0 = .ok (.aload_n 0, 1) := by decide +kernel
theorem dX0_empty_1 : decode cX0_empty 1 = .ok (.iconst 0, 1) := by decide +kernel
theorem dX0_empty_2 : decode cX0_empty 2 = .ok (.putfield 18, 3) := by decide +kernel
theorem dX0_empty_5 : decode cX0_empty 5 = .ok (.return_, 1) := by decide +kernel
theorem dX0_has_0 : decode cX0_has 0 = .ok (.iload_n 1, 1) := by decide +kernel
theorem dX0_has_1 : decode cX0_has 1 = .ok (.ifCond .lt 15, 3) := by decide +kernel
theorem dX0_has_4 : decode cX0_has 4 = .ok (.iload_n 1, 1) := by decide +kernel
theorem dX0_has_5 : decode cX0_has 5 = .ok (.aload_n 0, 1) := by decide +kernel
theorem dX0_has_6 : decode cX0_has 6 = .ok (.getfield 18, 3) := by decide +kernel
theorem dX0_has_9 : decode cX0_has 9 = .ok (.if_icmp .ge 7, 3) := by decide +kernel
theorem dX0_has_12 : decode cX0_has 12 = .ok (.iconst 1, 1) := by decide +kernel
theorem dX0_has_13 : decode cX0_has 13 = .ok (.goto 4, 3) := by decide +kernel
theorem dX0_has_16 : decode cX0_has 16 = .ok (.iconst 0, 1) := by decide +kernel
theorem dX0_has_17 : decode cX0_has 17 = .ok (.ireturn, 1) := by decide +kernel
theorem dX0_add_0 : decode cX0_add 0 = .ok (.aload_n 0, 1) := by decide +kernel
theorem dX0_add_1 : decode cX0_add 1 = .ok (.getfield 18, 3) := by decide +kernel
theorem dX0_add_4 : decode cX0_add 4 = .ok (.bipush 64, 2) := by decide +kernel
theorem dX0_add_6 : decode cX0_add 6 = .ok (.if_icmp .ge 33, 3) := by decide +kernel
theorem dX0_add_9 : decode cX0_add 9 = .ok (.aload_n 0, 1) := by decide +kernel
theorem dX0_add_10 : decode cX0_add 10 = .ok (.getfield 9, 3) := by decide +kernel
theorem dX0_add_13 : decode cX0_add 13 = .ok (.aload_n 0, 1) := by decide +kernel
theorem dX0_add_14 : decode cX0_add 14 = .ok (.getfield 18, 3) := by decide +kernel
theorem dX0_add_17 : decode cX0_add 17 = .ok (.iload_n 1, 1) := by decide +kernel
theorem dX0_add_18 : decode cX0_add 18 = .ok (.iastore, 1) := by decide +kernel
theorem dX0_add_19 : decode cX0_add 19 = .ok (.aload_n 0, 1) := by decide +kernel
theorem dX0_add_20 : decode cX0_add 20 = .ok (.getfield 15, 3) := by decide +kernel
theorem dX0_add_23 : decode cX0_add 23 = .ok (.aload_n 0, 1) := by decide +kernel
theorem dX0_add_24 : decode cX0_add 24 = .ok (.getfield 18, 3) := by decide +kernel
theorem dX0_add_27 : decode cX0_add 27 = .ok (.iload_n 2, 1) := by decide +kernel
theorem dX0_add_28 : decode cX0_add 28 = .ok (.iastore, 1) := by decide +kernel
theorem dX0_add_29 : decode cX0_add 29 = .ok (.aload_n 0, 1) := by decide +kernel
theorem dX0_add_30 : decode cX0_add 30 = .ok (.dup, 1) := by decide +kernel
theorem dX0_add_31 : decode cX0_add 31 = .ok (.getfield 18, 3) := by decide +kernel
theorem dX0_add_34 : decode cX0_add 34 = .ok (.iconst 1, 1) := by decide +kernel
theorem dX0_add_35 : decode cX0_add 35 = .ok (.iadd, 1) := by decide +kernel
theorem dX0_add_36 : decode cX0_add 36 = .ok (.putfield 18, 3) := by decide +kernel
theorem dX0_add_39 : decode cX0_add 39 = .ok (.return_, 1) := by decide +kernel
theorem dX0_aim_0 : decode cX0_aim 0 = .ok (.aload_n 0, 1) := by decide +kernel
theorem dX0_aim_1 : decode cX0_aim 1 = .ok (.iload_n 1, 1) := by decide +kernel
theorem dX0_aim_2 : decode cX0_aim 2 = .ok (.invokevirtual 22, 3) := by decide +kernel
theorem dX0_aim_5 : decode cX0_aim 5 = .ok (.ifCond .eq 10, 3) := by decide +kernel
theorem dX0_aim_8 : decode cX0_aim 8 = .ok (.aload_n 0, 1) := by decide +kernel
theorem dX0_aim_9 : decode cX0_aim 9 = .ok (.getfield 15, 3) := by decide +kernel
theorem dX0_aim_12 : decode cX0_aim 12 = .ok (.iload_n 1, 1) := by decide +kernel
theorem dX0_aim_13 : decode cX0_aim 13 = .ok (.iload_n 2, 1) := by decide +kernel
theorem dX0_aim_14 : decode cX0_aim 14 = .ok (.iastore, 1) := by decide +kernel
theorem dX0_aim_15 : decode cX0_aim 15 = .ok (.return_, 1) := by decide +kernel
theorem dX0_operation_0 : decode cX0_operation 0 = .ok (.aload_n 0, 1) := by decide +kernel
theorem dX0_operation_1 : decode cX0_operation 1 = .ok (.iload_n 1, 1) := by decide +kernel
theorem dX0_operation_2 : decode cX0_operation 2 = .ok (.invokevirtual 22, 3) := by decide +kernel
theorem dX0_operation_5 : decode cX0_operation 5 = .ok (.ifCond .eq 12, 3) := by decide +kernel
theorem dX0_operation_8 : decode cX0_operation 8 = .ok (.aload_n 0, 1) := by decide +kernel
theorem dX0_operation_9 : decode cX0_operation 9 = .ok (.getfield 9, 3) := by decide +kernel
theorem dX0_operation_12 : decode cX0_operation 12 = .ok (.iload_n 1, 1) := by decide +kernel
theorem dX0_operation_13 : decode cX0_operation 13 = .ok (.iaload, 1) := by decide +kernel
theorem dX0_operation_14 : decode cX0_operation 14 = .ok (.goto 5, 3) := by decide +kernel
theorem dX0_operation_17 : decode cX0_operation 17 = .ok (.bipush 15, 2) := by decide +kernel
theorem dX0_operation_19 : decode cX0_operation 19 = .ok (.ireturn, 1) := by decide +kernel
theorem dX0_argument_0 : decode cX0_argument 0 = .ok (.aload_n 0, 1) := by decide +kernel
theorem dX0_argument_1 : decode cX0_argument 1 = .ok (.iload_n 1, 1) := by decide +kernel
theorem dX0_argument_2 : decode cX0_argument 2 = .ok (.invokevirtual 22, 3) := by decide +kernel
theorem dX0_argument_5 : decode cX0_argument 5 = .ok (.ifCond .eq 12, 3) := by decide +kernel
theorem dX0_argument_8 : decode cX0_argument 8 = .ok (.aload_n 0, 1) := by decide +kernel
theorem dX0_argument_9 : decode cX0_argument 9 = .ok (.getfield 15, 3) := by decide +kernel
theorem dX0_argument_12 : decode cX0_argument 12 = .ok (.iload_n 1, 1) := by decide +kernel
theorem dX0_argument_13 : decode cX0_argument 13 = .ok (.iaload, 1) := by decide +kernel
theorem dX0_argument_14 : decode cX0_argument 14 = .ok (.goto 4, 3) := by decide +kernel
theorem dX0_argument_17 : decode cX0_argument 17 = .ok (.iconst 0, 1) := by decide +kernel
theorem dX0_argument_18 : decode cX0_argument 18 = .ok (.ireturn, 1) := by decide +kernel
theorem dX0_taken_0 : decode cX0_taken 0 = .ok (.aload_n 0, 1) := by decide +kernel
theorem dX0_taken_1 : decode cX0_taken 1 = .ok (.iload_n 1, 1) := by decide +kernel
theorem dX0_taken_2 : decode cX0_taken 2 = .ok (.invokevirtual 26, 3) := by decide +kernel
theorem dX0_taken_5 : decode cX0_taken 5 = .ok (.istore_n 2, 1) := by decide +kernel
theorem dX0_taken_6 : decode cX0_taken 6 = .ok (.iload_n 2, 1) := by decide +kernel
theorem dX0_taken_7 : decode cX0_taken 7 = .ok (.ifCond .lt 19, 3) := by decide +kernel
theorem dX0_taken_10 : decode cX0_taken 10 = .ok (.iload_n 2, 1) := by decide +kernel
theorem dX0_taken_11 : decode cX0_taken 11 = .ok (.getstatic 30, 3) := by decide +kernel
theorem dX0_taken_14 : decode cX0_taken 14 = .ok (.arraylength, 1) := by decide +kernel
theorem dX0_taken_15 : decode cX0_taken 15 = .ok (.if_icmp .ge 11, 3) := by decide +kernel
theorem dX0_taken_18 : decode cX0_taken 18 = .ok (.getstatic 30, 3) := by decide +kernel
theorem dX0_taken_21 : decode cX0_taken 21 = .ok (.iload_n 2, 1) := by decide +kernel
theorem dX0_taken_22 : decode cX0_taken 22 = .ok (.iaload, 1) := by decide +kernel
theorem dX0_taken_23 : decode cX0_taken 23 = .ok (.goto 4, 3) := by decide +kernel
theorem dX0_taken_26 : decode cX0_taken 26 = .ok (.iconst 0, 1) := by decide +kernel
theorem dX0_taken_27 : decode cX0_taken 27 = .ok (.ireturn, 1) := by decide +kernel
theorem dX0_put_0 : decode cX0_put 0 = .ok (.aload_n 0, 1) := by decide +kernel
theorem dX0_put_1 : decode cX0_put 1 = .ok (.iload_n 1, 1) := by decide +kernel
theorem dX0_put_2 : decode cX0_put 2 = .ok (.invokevirtual 26, 3) := by decide +kernel
theorem dX0_put_5 : decode cX0_put 5 = .ok (.istore_n 2, 1) := by decide +kernel
theorem dX0_put_6 : decode cX0_put 6 = .ok (.iload_n 2, 1) := by decide +kernel
theorem dX0_put_7 : decode cX0_put 7 = .ok (.ifCond .lt 19, 3) := by decide +kernel
theorem dX0_put_10 : decode cX0_put 10 = .ok (.iload_n 2, 1) := by decide +kernel
theorem dX0_put_11 : decode cX0_put 11 = .ok (.getstatic 33, 3) := by decide +kernel
theorem dX0_put_14 : decode cX0_put 14 = .ok (.arraylength, 1) := by decide +kernel
theorem dX0_put_15 : decode cX0_put 15 = .ok (.if_icmp .ge 11, 3) := by decide +kernel
theorem dX0_put_18 : decode cX0_put 18 = .ok (.getstatic 33, 3) := by decide +kernel
theorem dX0_put_21 : decode cX0_put 21 = .ok (.iload_n 2, 1) := by decide +kernel
theorem dX0_put_22 : decode cX0_put 22 = .ok (.iaload, 1) := by decide +kernel
theorem dX0_put_23 : decode cX0_put 23 = .ok (.goto 4, 3) := by decide +kernel
theorem dX0_put_26 : decode cX0_put 26 = .ok (.iconst 0, 1) := by decide +kernel
theorem dX0_put_27 : decode cX0_put 27 = .ok (.ireturn, 1) := by decide +kernel
theorem dX0_jumps_0 : decode cX0_jumps 0 = .ok (.aload_n 0, 1) := by decide +kernel
theorem dX0_jumps_1 : decode cX0_jumps 1 = .ok (.iload_n 1, 1) := by decide +kernel
theorem dX0_jumps_2 : decode cX0_jumps 2 = .ok (.invokevirtual 26, 3) := by decide +kernel
theorem dX0_jumps_5 : decode cX0_jumps 5 = .ok (.bipush 11, 2) := by decide +kernel
theorem dX0_jumps_7 : decode cX0_jumps 7 = .ok (.if_icmp .eq 13, 3) := by decide +kernel
theorem dX0_jumps_10 : decode cX0_jumps 10 = .ok (.aload_n 0, 1) := by decide +kernel
theorem dX0_jumps_11 : decode cX0_jumps 11 = .ok (.iload_n 1, 1) := by decide +kernel
theorem dX0_jumps_12 : decode cX0_jumps 12 = .ok (.invokevirtual 26, 3) := by decide +kernel
theorem dX0_jumps_15 : decode cX0_jumps 15 = .ok (.bipush 12, 2) := by decide +kernel
theorem dX0_jumps_17 : decode cX0_jumps 17 = .ok (.if_icmp .ne 7, 3) := by decide +kernel
theorem dX0_jumps_20 : decode cX0_jumps 20 = .ok (.iconst 1, 1) := by decide +kernel
theorem dX0_jumps_21 : decode cX0_jumps 21 = .ok (.goto 4, 3) := by decide +kernel
theorem dX0_jumps_24 : decode cX0_jumps 24 = .ok (.iconst 0, 1) := by decide +kernel
theorem dX0_jumps_25 : decode cX0_jumps 25 = .ok (.ireturn, 1) := by decide +kernel
theorem dX0_nexts_0 : decode cX0_nexts 0 = .ok (.aload_n 0, 1) := by decide +kernel
theorem dX0_nexts_1 : decode cX0_nexts 1 = .ok (.iload_n 1, 1) := by decide +kernel
theorem dX0_nexts_2 : decode cX0_nexts 2 = .ok (.invokevirtual 26, 3) := by decide +kernel
theorem dX0_nexts_5 : decode cX0_nexts 5 = .ok (.istore_n 2, 1) := by decide +kernel
theorem dX0_nexts_6 : decode cX0_nexts 6 = .ok (.aload_n 0, 1) := by decide +kernel
theorem dX0_nexts_7 : decode cX0_nexts 7 = .ok (.iload_n 1, 1) := by decide +kernel
theorem dX0_nexts_8 : decode cX0_nexts 8 = .ok (.invokevirtual 36, 3) := by decide +kernel
theorem dX0_nexts_11 : decode cX0_nexts 11 = .ok (.istore_n 3, 1) := by decide +kernel
theorem dX0_nexts_12 : decode cX0_nexts 12 = .ok (.lconst 0, 1) := by decide +kernel
theorem dX0_nexts_13 : decode cX0_nexts 13 = .ok (.lstore 4, 2) := by decide +kernel
theorem dX0_nexts_15 : decode cX0_nexts 15 = .ok (.iload_n 2, 1) := by decide +kernel
theorem dX0_nexts_16 : decode cX0_nexts 16 = .ok (.bipush 12, 2) := by decide +kernel
theorem dX0_nexts_18 : decode cX0_nexts 18 = .ok (.if_icmp .eq 30, 3) := by decide +kernel
theorem dX0_nexts_21 : decode cX0_nexts 21 = .ok (.iload_n 2, 1) := by decide +kernel
theorem dX0_nexts_22 : decode cX0_nexts 22 = .ok (.bipush 15, 2) := by decide +kernel
theorem dX0_nexts_24 : decode cX0_nexts 24 = .ok (.if_icmp .eq 24, 3) := by decide +kernel
theorem dX0_nexts_27 : decode cX0_nexts 27 = .ok (.aload_n 0, 1) := by decide +kernel
theorem dX0_nexts_28 : decode cX0_nexts 28 = .ok (.iload_n 1, 1) := by decide +kernel
theorem dX0_nexts_29 : decode cX0_nexts 29 = .ok (.iconst 1, 1) := by decide +kernel
theorem dX0_nexts_30 : decode cX0_nexts 30 = .ok (.iadd, 1) := by decide +kernel
theorem dX0_nexts_31 : decode cX0_nexts 31 = .ok (.invokevirtual 22, 3) := by decide +kernel
theorem dX0_nexts_34 : decode cX0_nexts 34 = .ok (.ifCond .eq 14, 3) := by decide +kernel
theorem dX0_nexts_37 : decode cX0_nexts 37 = .ok (.lload 4, 2) := by decide +kernel
theorem dX0_nexts_39 : decode cX0_nexts 39 = .ok (.iload_n 1, 1) := by decide +kernel
theorem dX0_nexts_40 : decode cX0_nexts 40 = .ok (.iconst 1, 1) := by decide +kernel
theorem dX0_nexts_41 : decode cX0_nexts 41 = .ok (.iadd, 1) := by decide +kernel
theorem dX0_nexts_42 : decode cX0_nexts 42 = .ok (.invokestatic 39, 3) := by decide +kernel
theorem dX0_nexts_45 : decode cX0_nexts 45 = .ok (.lor, 1) := by decide +kernel
theorem dX0_nexts_46 : decode cX0_nexts 46 = .ok (.lstore 4, 2) := by decide +kernel
theorem dX0_nexts_48 : decode cX0_nexts 48 = .ok (.iload_n 2, 1) := by decide +kernel
theorem dX0_nexts_49 : decode cX0_nexts 49 = .ok (.bipush 11, 2) := by decide +kernel
theorem dX0_nexts_51 : decode cX0_nexts 51 = .ok (.if_icmp .eq 9, 3) := by decide +kernel
theorem dX0_nexts_54 : decode cX0_nexts 54 = .ok (.iload_n 2, 1) := by decide +kernel
theorem dX0_nexts_55 : decode cX0_nexts 55 = .ok (.bipush 12, 2) := by decide +kernel
theorem dX0_nexts_57 : decode cX0_nexts 57 = .ok (.if_icmp .ne 20, 3) := by decide +kernel
theorem dX0_nexts_60 : decode cX0_nexts 60 = .ok (.aload_n 0, 1) := by decide +kernel
theorem dX0_nexts_61 : decode cX0_nexts 61 = .ok (.iload_n 3, 1) := by decide +kernel
theorem dX0_nexts_62 : decode cX0_nexts 62 = .ok (.invokevirtual 22, 3) := by decide +kernel
theorem dX0_nexts_65 : decode cX0_nexts 65 = .ok (.ifCond .eq 12, 3) := by decide +kernel
theorem dX0_nexts_68 : decode cX0_nexts 68 = .ok (.lload 4, 2) := by decide +kernel
theorem dX0_nexts_70 : decode cX0_nexts 70 = .ok (.iload_n 3, 1) := by decide +kernel
theorem dX0_nexts_71 : decode cX0_nexts 71 = .ok (.invokestatic 39, 3) := by decide +kernel
theorem dX0_nexts_74 : decode cX0_nexts 74 = .ok (.lor, 1) := by decide +kernel
theorem dX0_nexts_75 : decode cX0_nexts 75 = .ok (.lstore 4, 2) := by decide +kernel
theorem dX0_nexts_77 : decode cX0_nexts 77 = .ok (.lload 4, 2) := by decide +kernel
theorem dX0_nexts_79 : decode cX0_nexts 79 = .ok (.lreturn, 1) := by decide +kernel
theorem dX1_init_0 : decode cX1_init 0 = .ok (.aload_n 0, 1) := by decide +kernel
theorem dX1_init_1 : decode cX1_init 1 = .ok (.invokespecial 3, 3) := by decide +kernel
theorem dX1_init_4 : decode cX1_init 4 = .ok (.aload_n 0, 1) := by decide +kernel
theorem dX1_init_5 : decode cX1_init 5 = .ok (.bipush 26, 2) := by decide +kernel
theorem dX1_init_7 : decode cX1_init 7 = .ok (.newarray .int, 2) := by decide +kernel
theorem dX1_init_9 : decode cX1_init 9 = .ok (.putfield 9, 3) := by decide +kernel
theorem dX1_init_12 : decode cX1_init 12 = .ok (.aload_n 0, 1) := by decide +kernel
theorem dX1_init_13 : decode cX1_init 13 = .ok (.bipush 48, 2) := by decide +kernel
theorem dX1_init_15 : decode cX1_init 15 = .ok (.bipush 26, 2) := by decide +kernel
theorem dX1_init_17 : decode cX1_init 17 = .ok (.multianewarray 15 2, 4) := by decide +kernel
theorem dX1_init_21 : decode cX1_init 21 = .ok (.putfield 17, 3) := by decide +kernel
theorem dX1_init_24 : decode cX1_init 24 = .ok (.aload_n 0, 1) := by decide +kernel
theorem dX1_init_25 : decode cX1_init 25 = .ok (.bipush 48, 2) := by decide +kernel
theorem dX1_init_27 : decode cX1_init 27 = .ok (.bipush 26, 2) := by decide +kernel
theorem dX1_init_29 : decode cX1_init 29 = .ok (.multianewarray 15 2, 4) := by decide +kernel
theorem dX1_init_33 : decode cX1_init 33 = .ok (.putfield 20, 3) := by decide +kernel
theorem dX1_init_36 : decode cX1_init 36 = .ok (.aload_n 0, 1) := by decide +kernel
theorem dX1_init_37 : decode cX1_init 37 = .ok (.aload_n 1, 1) := by decide +kernel
theorem dX1_init_38 : decode cX1_init 38 = .ok (.putfield 23, 3) := by decide +kernel
theorem dX1_init_41 : decode cX1_init 41 = .ok (.return_, 1) := by decide +kernel
theorem dX1_place_0 : decode cX1_place 0 = .ok (.aload_n 0, 1) := by decide +kernel
theorem dX1_place_1 : decode cX1_place 1 = .ok (.getfield 27, 3) := by decide +kernel
theorem dX1_place_4 : decode cX1_place 4 = .ok (.ireturn, 1) := by decide +kernel
theorem dX1_check_0 : decode cX1_check 0 = .ok (.aload_n 0, 1) := by decide +kernel
theorem dX1_check_1 : decode cX1_check 1 = .ok (.aload_n 1, 1) := by decide +kernel
theorem dX1_check_2 : decode cX1_check 2 = .ok (.putfield 31, 3) := by decide +kernel
theorem dX1_check_5 : decode cX1_check 5 = .ok (.iconst 0, 1) := by decide +kernel
theorem dX1_check_6 : decode cX1_check 6 = .ok (.istore_n 2, 1) := by decide +kernel
theorem dX1_check_7 : decode cX1_check 7 = .ok (.iload_n 2, 1) := by decide +kernel
theorem dX1_check_8 : decode cX1_check 8 = .ok (.bipush 26, 2) := by decide +kernel
theorem dX1_check_10 : decode cX1_check 10 = .ok (.if_icmp .ge 30, 3) := by decide +kernel
theorem dX1_check_13 : decode cX1_check 13 = .ok (.aload_n 0, 1) := by decide +kernel
theorem dX1_check_14 : decode cX1_check 14 = .ok (.getfield 9, 3) := by decide +kernel
theorem dX1_check_17 : decode cX1_check 17 = .ok (.iload_n 2, 1) := by decide +kernel
theorem dX1_check_18 : decode cX1_check 18 = .ok (.aload_n 0, 1) := by decide +kernel
theorem dX1_check_19 : decode cX1_check 19 = .ok (.getfield 23, 3) := by decide +kernel
theorem dX1_check_22 : decode cX1_check 22 = .ok (.aload_n 0, 1) := by decide +kernel
theorem dX1_check_23 : decode cX1_check 23 = .ok (.getfield 31, 3) := by decide +kernel
theorem dX1_check_26 : decode cX1_check 26 = .ok (.iload_n 2, 1) := by decide +kernel
theorem dX1_check_27 : decode cX1_check 27 = .ok (.invokevirtual 35, 3) := by decide +kernel
theorem dX1_check_30 : decode cX1_check 30 = .ok (.invokevirtual 41, 3) := by decide +kernel
theorem dX1_check_33 : decode cX1_check 33 = .ok (.iastore, 1) := by decide +kernel
theorem dX1_check_34 : decode cX1_check 34 = .ok (.iinc 2 1, 3) := by decide +kernel
theorem dX1_check_37 : decode cX1_check 37 = .ok (.goto (-30), 3) := by decide +kernel
theorem dX1_check_40 : decode cX1_check 40 = .ok (.aload_n 0, 1) := by decide +kernel
theorem dX1_check_41 : decode cX1_check 41 = .ok (.aload_n 0, 1) := by decide +kernel
theorem dX1_check_42 : decode cX1_check 42 = .ok (.getfield 31, 3) := by decide +kernel
theorem dX1_check_45 : decode cX1_check 45 = .ok (.getfield 46, 3) := by decide +kernel
theorem dX1_check_48 : decode cX1_check 48 = .ok (.iconst 0, 1) := by decide +kernel
theorem dX1_check_49 : decode cX1_check 49 = .ok (.iconst 0, 1) := by decide +kernel
theorem dX1_check_50 : decode cX1_check 50 = .ok (.invokevirtual 50, 3) := by decide +kernel
theorem dX1_check_53 : decode cX1_check 53 = .ok (.return_, 1) := by decide +kernel
theorem dX1_goThrough_0 : decode cX1_goThrough 0 = .ok (.iload_n 3, 1) := by decide +kernel
theorem dX1_goThrough_1 : decode cX1_goThrough 1 = .ok (.bipush 48, 2) := by decide +kernel
theorem dX1_goThrough_3 : decode cX1_goThrough 3 = .ok (.if_icmp .lt 4, 3) := by decide +kernel
theorem dX1_goThrough_6 : decode cX1_goThrough 6 = .ok (.return_, 1) := by decide +kernel
theorem dX1_goThrough_7 : decode cX1_goThrough 7 = .ok (.aload_n 1, 1) := by decide +kernel
theorem dX1_goThrough_8 : decode cX1_goThrough 8 = .ok (.astore 4, 2) := by decide +kernel
theorem dX1_goThrough_10 : decode cX1_goThrough 10 = .ok (.aload 4, 2) := by decide +kernel
theorem dX1_goThrough_12 : decode cX1_goThrough 12 = .ok (.ifnull 258, 3) := by decide +kernel
theorem dX1_goThrough_15 : decode cX1_goThrough 15 = .ok (.aload 4, 2) := by decide +kernel
theorem dX1_goThrough_17 : decode cX1_goThrough 17 = .ok (.getfield 54, 3) := by decide +kernel
theorem dX1_goThrough_20 : decode cX1_goThrough 20 = .ok (.tableswitch 220 2 17 #[80, 220, 102, 220, 220, 220, 220, 220, 220, 220, 220, 153, 131, 220, 191, 209], 80) := by decide +kernel
theorem dX1_goThrough_100 : decode cX1_goThrough 100 = .ok (.aload_n 0, 1) := by decide +kernel
theorem dX1_goThrough_101 : decode cX1_goThrough 101 = .ok (.aload 4, 2) := by decide +kernel
theorem dX1_goThrough_103 : decode cX1_goThrough 103 = .ok (.aload 4, 2) := by decide +kernel
theorem dX1_goThrough_105 : decode cX1_goThrough 105 = .ok (.getfield 59, 3) := by decide +kernel
theorem dX1_goThrough_108 : decode cX1_goThrough 108 = .ok (.iload_n 2, 1) := by decide +kernel
theorem dX1_goThrough_109 : decode cX1_goThrough 109 = .ok (.aload_n 0, 1) := by decide +kernel
theorem dX1_goThrough_110 : decode cX1_goThrough 110 = .ok (.aload 4, 2) := by decide +kernel
theorem dX1_goThrough_112 : decode cX1_goThrough 112 = .ok (.invokevirtual 62, 3) := by decide +kernel
theorem dX1_goThrough_115 : decode cX1_goThrough 115 = .ok (.ior, 1) := by decide +kernel
theorem dX1_goThrough_116 : decode cX1_goThrough 116 = .ok (.invokevirtual 66, 3) := by decide +kernel
theorem dX1_goThrough_119 : decode cX1_goThrough 119 = .ok (.goto 141, 3) := by decide +kernel
theorem dX1_goThrough_122 : decode cX1_goThrough 122 = .ok (.aload_n 0, 1) := by decide +kernel
theorem dX1_goThrough_123 : decode cX1_goThrough 123 = .ok (.aload 4, 2) := by decide +kernel
theorem dX1_goThrough_125 : decode cX1_goThrough 125 = .ok (.iload_n 2, 1) := by decide +kernel
theorem dX1_goThrough_126 : decode cX1_goThrough 126 = .ok (.aload_n 0, 1) := by decide +kernel
theorem dX1_goThrough_127 : decode cX1_goThrough 127 = .ok (.aload 4, 2) := by decide +kernel
theorem dX1_goThrough_129 : decode cX1_goThrough 129 = .ok (.invokevirtual 62, 3) := by decide +kernel
theorem dX1_goThrough_132 : decode cX1_goThrough 132 = .ok (.ior, 1) := by decide +kernel
theorem dX1_goThrough_133 : decode cX1_goThrough 133 = .ok (.aload_n 0, 1) := by decide +kernel
theorem dX1_goThrough_134 : decode cX1_goThrough 134 = .ok (.getfield 31, 3) := by decide +kernel
theorem dX1_goThrough_137 : decode cX1_goThrough 137 = .ok (.aload 4, 2) := by decide +kernel
theorem dX1_goThrough_139 : decode cX1_goThrough 139 = .ok (.getfield 59, 3) := by decide +kernel
theorem dX1_goThrough_142 : decode cX1_goThrough 142 = .ok (.invokevirtual 69, 3) := by decide +kernel
theorem dX1_goThrough_145 : decode cX1_goThrough 145 = .ok (.invokevirtual 72, 3) := by decide +kernel
theorem dX1_goThrough_148 : decode cX1_goThrough 148 = .ok (.goto 112, 3) := by decide +kernel
theorem dX1_goThrough_151 : decode cX1_goThrough 151 = .ok (.aload_n 0, 1) := by decide +kernel
theorem dX1_goThrough_152 : decode cX1_goThrough 152 = .ok (.aload 4, 2) := by decide +kernel
theorem dX1_goThrough_154 : decode cX1_goThrough 154 = .ok (.iload_n 2, 1) := by decide +kernel
theorem dX1_goThrough_155 : decode cX1_goThrough 155 = .ok (.aload_n 0, 1) := by decide +kernel
theorem dX1_goThrough_156 : decode cX1_goThrough 156 = .ok (.aload 4, 2) := by decide +kernel
theorem dX1_goThrough_158 : decode cX1_goThrough 158 = .ok (.invokevirtual 62, 3) := by decide +kernel
theorem dX1_goThrough_161 : decode cX1_goThrough 161 = .ok (.ior, 1) := by decide +kernel
theorem dX1_goThrough_162 : decode cX1_goThrough 162 = .ok (.aload 4, 2) := by decide +kernel
theorem dX1_goThrough_164 : decode cX1_goThrough 164 = .ok (.getfield 75, 3) := by decide +kernel
theorem dX1_goThrough_167 : decode cX1_goThrough 167 = .ok (.invokevirtual 72, 3) := by decide +kernel
theorem dX1_goThrough_170 : decode cX1_goThrough 170 = .ok (.goto 90, 3) := by decide +kernel
theorem dX1_goThrough_173 : decode cX1_goThrough 173 = .ok (.aload_n 0, 1) := by decide +kernel
theorem dX1_goThrough_174 : decode cX1_goThrough 174 = .ok (.aload 4, 2) := by decide +kernel
theorem dX1_goThrough_176 : decode cX1_goThrough 176 = .ok (.iload_n 2, 1) := by decide +kernel
theorem dX1_goThrough_177 : decode cX1_goThrough 177 = .ok (.aload 4, 2) := by decide +kernel
theorem dX1_goThrough_179 : decode cX1_goThrough 179 = .ok (.getfield 75, 3) := by decide +kernel
theorem dX1_goThrough_182 : decode cX1_goThrough 182 = .ok (.invokevirtual 72, 3) := by decide +kernel
theorem dX1_goThrough_185 : decode cX1_goThrough 185 = .ok (.aload_n 0, 1) := by decide +kernel
theorem dX1_goThrough_186 : decode cX1_goThrough 186 = .ok (.aload 4, 2) := by decide +kernel
theorem dX1_goThrough_188 : decode cX1_goThrough 188 = .ok (.aload 4, 2) := by decide +kernel
theorem dX1_goThrough_190 : decode cX1_goThrough 190 = .ok (.getfield 59, 3) := by decide +kernel
theorem dX1_goThrough_193 : decode cX1_goThrough 193 = .ok (.aload_n 0, 1) := by decide +kernel
theorem dX1_goThrough_194 : decode cX1_goThrough 194 = .ok (.getfield 23, 3) := by decide +kernel
theorem dX1_goThrough_197 : decode cX1_goThrough 197 = .ok (.aload 4, 2) := by decide +kernel
theorem dX1_goThrough_199 : decode cX1_goThrough 199 = .ok (.getfield 75, 3) := by decide +kernel
theorem dX1_goThrough_202 : decode cX1_goThrough 202 = .ok (.invokevirtual 41, 3) := by decide +kernel
theorem dX1_goThrough_205 : decode cX1_goThrough 205 = .ok (.invokevirtual 66, 3) := by decide +kernel
theorem dX1_goThrough_208 : decode cX1_goThrough 208 = .ok (.goto 52, 3) := by decide +kernel
theorem dX1_goThrough_211 : decode cX1_goThrough 211 = .ok (.aload_n 0, 1) := by decide +kernel
theorem dX1_goThrough_212 : decode cX1_goThrough 212 = .ok (.aload 4, 2) := by decide +kernel
theorem dX1_goThrough_214 : decode cX1_goThrough 214 = .ok (.iload_n 2, 1) := by decide +kernel
theorem dX1_goThrough_215 : decode cX1_goThrough 215 = .ok (.aload_n 0, 1) := by decide +kernel
theorem dX1_goThrough_216 : decode cX1_goThrough 216 = .ok (.aload 4, 2) := by decide +kernel
theorem dX1_goThrough_218 : decode cX1_goThrough 218 = .ok (.invokevirtual 62, 3) := by decide +kernel
theorem dX1_goThrough_221 : decode cX1_goThrough 221 = .ok (.ior, 1) := by decide +kernel
theorem dX1_goThrough_222 : decode cX1_goThrough 222 = .ok (.iload_n 3, 1) := by decide +kernel
theorem dX1_goThrough_223 : decode cX1_goThrough 223 = .ok (.invokevirtual 78, 3) := by decide +kernel
theorem dX1_goThrough_226 : decode cX1_goThrough 226 = .ok (.goto 34, 3) := by decide +kernel
theorem dX1_goThrough_229 : decode cX1_goThrough 229 = .ok (.aload_n 0, 1) := by decide +kernel
theorem dX1_goThrough_230 : decode cX1_goThrough 230 = .ok (.aload 4, 2) := by decide +kernel
theorem dX1_goThrough_232 : decode cX1_goThrough 232 = .ok (.iload_n 2, 1) := by decide +kernel
theorem dX1_goThrough_233 : decode cX1_goThrough 233 = .ok (.iload_n 3, 1) := by decide +kernel
theorem dX1_goThrough_234 : decode cX1_goThrough 234 = .ok (.invokevirtual 81, 3) := by decide +kernel
theorem dX1_goThrough_237 : decode cX1_goThrough 237 = .ok (.goto 23, 3) := by decide +kernel
theorem dX1_goThrough_240 : decode cX1_goThrough 240 = .ok (.aload_n 0, 1) := by decide +kernel
theorem dX1_goThrough_241 : decode cX1_goThrough 241 = .ok (.aload_n 0, 1) := by decide +kernel
theorem dX1_goThrough_242 : decode cX1_goThrough 242 = .ok (.getfield 31, 3) := by decide +kernel
theorem dX1_goThrough_245 : decode cX1_goThrough 245 = .ok (.aload 4, 2) := by decide +kernel
theorem dX1_goThrough_247 : decode cX1_goThrough 247 = .ok (.getfield 59, 3) := by decide +kernel
theorem dX1_goThrough_250 : decode cX1_goThrough 250 = .ok (.invokevirtual 84, 3) := by decide +kernel
theorem dX1_goThrough_253 : decode cX1_goThrough 253 = .ok (.iload_n 2, 1) := by decide +kernel
theorem dX1_goThrough_254 : decode cX1_goThrough 254 = .ok (.iload_n 3, 1) := by decide +kernel
theorem dX1_goThrough_255 : decode cX1_goThrough 255 = .ok (.iconst 1, 1) := by decide +kernel
theorem dX1_goThrough_256 : decode cX1_goThrough 256 = .ok (.iadd, 1) := by decide +kernel
theorem dX1_goThrough_257 : decode cX1_goThrough 257 = .ok (.invokevirtual 50, 3) := by decide +kernel
theorem dX1_goThrough_260 : decode cX1_goThrough 260 = .ok (.aload 4, 2) := by decide +kernel
theorem dX1_goThrough_262 : decode cX1_goThrough 262 = .ok (.getfield 88, 3) := by decide +kernel
theorem dX1_goThrough_265 : decode cX1_goThrough 265 = .ok (.astore 4, 2) := by decide +kernel
theorem dX1_goThrough_267 : decode cX1_goThrough 267 = .ok (.goto (-257), 3) := by decide +kernel
theorem dX1_goThrough_270 : decode cX1_goThrough 270 = .ok (.return_, 1) := by decide +kernel
theorem dX1_goOverIf_0 : decode cX1_goOverIf 0 = .ok (.aload_n 0, 1) := by decide +kernel
theorem dX1_goOverIf_1 : decode cX1_goOverIf 1 = .ok (.getfield 9, 3) := by decide +kernel
theorem dX1_goOverIf_4 : decode cX1_goOverIf 4 = .ok (.iconst 0, 1) := by decide +kernel
theorem dX1_goOverIf_5 : decode cX1_goOverIf 5 = .ok (.aload_n 0, 1) := by decide +kernel
theorem dX1_goOverIf_6 : decode cX1_goOverIf 6 = .ok (.getfield 17, 3) := by decide +kernel
theorem dX1_goOverIf_9 : decode cX1_goOverIf 9 = .ok (.iload_n 3, 1) := by decide +kernel
theorem dX1_goOverIf_10 : decode cX1_goOverIf 10 = .ok (.aaload, 1) := by decide +kernel
theorem dX1_goOverIf_11 : decode cX1_goOverIf 11 = .ok (.iconst 0, 1) := by decide +kernel
theorem dX1_goOverIf_12 : decode cX1_goOverIf 12 = .ok (.bipush 26, 2) := by decide +kernel
theorem dX1_goOverIf_14 : decode cX1_goOverIf 14 = .ok (.invokestatic 91, 3) := by decide +kernel
theorem dX1_goOverIf_17 : decode cX1_goOverIf 17 = .ok (.aload_n 0, 1) := by decide +kernel
theorem dX1_goOverIf_18 : decode cX1_goOverIf 18 = .ok (.aload_n 1, 1) := by decide +kernel
theorem dX1_goOverIf_19 : decode cX1_goOverIf 19 = .ok (.getfield 97, 3) := by decide +kernel
theorem dX1_goOverIf_22 : decode cX1_goOverIf 22 = .ok (.iload_n 2, 1) := by decide +kernel
theorem dX1_goOverIf_23 : decode cX1_goOverIf 23 = .ok (.iload_n 3, 1) := by decide +kernel
theorem dX1_goOverIf_24 : decode cX1_goOverIf 24 = .ok (.iconst 1, 1) := by decide +kernel
theorem dX1_goOverIf_25 : decode cX1_goOverIf 25 = .ok (.iadd, 1) := by decide +kernel
theorem dX1_goOverIf_26 : decode cX1_goOverIf 26 = .ok (.invokevirtual 50, 3) := by decide +kernel
theorem dX1_goOverIf_29 : decode cX1_goOverIf 29 = .ok (.aload_n 0, 1) := by decide +kernel
theorem dX1_goOverIf_30 : decode cX1_goOverIf 30 = .ok (.getfield 9, 3) := by decide +kernel
theorem dX1_goOverIf_33 : decode cX1_goOverIf 33 = .ok (.iconst 0, 1) := by decide +kernel
theorem dX1_goOverIf_34 : decode cX1_goOverIf 34 = .ok (.aload_n 0, 1) := by decide +kernel
theorem dX1_goOverIf_35 : decode cX1_goOverIf 35 = .ok (.getfield 20, 3) := by decide +kernel
theorem dX1_goOverIf_38 : decode cX1_goOverIf 38 = .ok (.iload_n 3, 1) := by decide +kernel
theorem dX1_goOverIf_39 : decode cX1_goOverIf 39 = .ok (.aaload, 1) := by decide +kernel
theorem dX1_goOverIf_40 : decode cX1_goOverIf 40 = .ok (.iconst 0, 1) := by decide +kernel
theorem dX1_goOverIf_41 : decode cX1_goOverIf 41 = .ok (.bipush 26, 2) := by decide +kernel
theorem dX1_goOverIf_43 : decode cX1_goOverIf 43 = .ok (.invokestatic 91, 3) := by decide +kernel
theorem dX1_goOverIf_46 : decode cX1_goOverIf 46 = .ok (.aload_n 0, 1) := by decide +kernel
theorem dX1_goOverIf_47 : decode cX1_goOverIf 47 = .ok (.getfield 17, 3) := by decide +kernel
theorem dX1_goOverIf_50 : decode cX1_goOverIf 50 = .ok (.iload_n 3, 1) := by decide +kernel
theorem dX1_goOverIf_51 : decode cX1_goOverIf 51 = .ok (.aaload, 1) := by decide +kernel
theorem dX1_goOverIf_52 : decode cX1_goOverIf 52 = .ok (.iconst 0, 1) := by decide +kernel
theorem dX1_goOverIf_53 : decode cX1_goOverIf 53 = .ok (.aload_n 0, 1) := by decide +kernel
theorem dX1_goOverIf_54 : decode cX1_goOverIf 54 = .ok (.getfield 9, 3) := by decide +kernel
theorem dX1_goOverIf_57 : decode cX1_goOverIf 57 = .ok (.iconst 0, 1) := by decide +kernel
theorem dX1_goOverIf_58 : decode cX1_goOverIf 58 = .ok (.bipush 26, 2) := by decide +kernel
theorem dX1_goOverIf_60 : decode cX1_goOverIf 60 = .ok (.invokestatic 91, 3) := by decide +kernel
theorem dX1_goOverIf_63 : decode cX1_goOverIf 63 = .ok (.aload_n 0, 1) := by decide +kernel
theorem dX1_goOverIf_64 : decode cX1_goOverIf 64 = .ok (.aload_n 1, 1) := by decide +kernel
theorem dX1_goOverIf_65 : decode cX1_goOverIf 65 = .ok (.getfield 100, 3) := by decide +kernel
theorem dX1_goOverIf_68 : decode cX1_goOverIf 68 = .ok (.iload_n 2, 1) := by decide +kernel
theorem dX1_goOverIf_69 : decode cX1_goOverIf 69 = .ok (.iload_n 3, 1) := by decide +kernel
theorem dX1_goOverIf_70 : decode cX1_goOverIf 70 = .ok (.iconst 1, 1) := by decide +kernel
theorem dX1_goOverIf_71 : decode cX1_goOverIf 71 = .ok (.iadd, 1) := by decide +kernel
theorem dX1_goOverIf_72 : decode cX1_goOverIf 72 = .ok (.invokevirtual 50, 3) := by decide +kernel
theorem dX1_goOverIf_75 : decode cX1_goOverIf 75 = .ok (.aload_n 0, 1) := by decide +kernel
theorem dX1_goOverIf_76 : decode cX1_goOverIf 76 = .ok (.getfield 9, 3) := by decide +kernel
theorem dX1_goOverIf_79 : decode cX1_goOverIf 79 = .ok (.aload_n 0, 1) := by decide +kernel
theorem dX1_goOverIf_80 : decode cX1_goOverIf 80 = .ok (.getfield 20, 3) := by decide +kernel
theorem dX1_goOverIf_83 : decode cX1_goOverIf 83 = .ok (.iload_n 3, 1) := by decide +kernel
theorem dX1_goOverIf_84 : decode cX1_goOverIf 84 = .ok (.aaload, 1) := by decide +kernel
theorem dX1_goOverIf_85 : decode cX1_goOverIf 85 = .ok (.invokestatic 103, 3) := by decide +kernel
theorem dX1_goOverIf_88 : decode cX1_goOverIf 88 = .ok (.pop, 1) := by decide +kernel
theorem dX1_goOverIf_89 : decode cX1_goOverIf 89 = .ok (.return_, 1) := by decide +kernel
theorem dX1_goOverWhile_0 : decode cX1_goOverWhile 0 = .ok (.iconst 1, 1) := by decide +kernel
theorem dX1_goOverWhile_1 : decode cX1_goOverWhile 1 = .ok (.istore 4, 2) := by decide +kernel
theorem dX1_goOverWhile_3 : decode cX1_goOverWhile 3 = .ok (.iconst 0, 1) := by decide +kernel
theorem dX1_goOverWhile_4 : decode cX1_goOverWhile 4 = .ok (.istore 5, 2) := by decide +kernel
theorem dX1_goOverWhile_6 : decode cX1_goOverWhile 6 = .ok (.iload 5, 2) := by decide +kernel
theorem dX1_goOverWhile_8 : decode cX1_goOverWhile 8 = .ok (.sipush 156, 3) := by decide +kernel
theorem dX1_goOverWhile_11 : decode cX1_goOverWhile 11 = .ok (.if_icmp .ge 81, 3) := by decide +kernel
theorem dX1_goOverWhile_14 : decode cX1_goOverWhile 14 = .ok (.iload 4, 2) := by decide +kernel
theorem dX1_goOverWhile_16 : decode cX1_goOverWhile 16 = .ok (.ifCond .eq 76, 3) := by decide +kernel
theorem dX1_goOverWhile_19 : decode cX1_goOverWhile 19 = .ok (.aload_n 0, 1) := by decide +kernel
theorem dX1_goOverWhile_20 : decode cX1_goOverWhile 20 = .ok (.getfield 9, 3) := by decide +kernel
theorem dX1_goOverWhile_23 : decode cX1_goOverWhile 23 = .ok (.iconst 0, 1) := by decide +kernel
theorem dX1_goOverWhile_24 : decode cX1_goOverWhile 24 = .ok (.aload_n 0, 1) := by decide +kernel
theorem dX1_goOverWhile_25 : decode cX1_goOverWhile 25 = .ok (.getfield 17, 3) := by decide +kernel
theorem dX1_goOverWhile_28 : decode cX1_goOverWhile 28 = .ok (.iload_n 3, 1) := by decide +kernel
theorem dX1_goOverWhile_29 : decode cX1_goOverWhile 29 = .ok (.aaload, 1) := by decide +kernel
theorem dX1_goOverWhile_30 : decode cX1_goOverWhile 30 = .ok (.iconst 0, 1) := by decide +kernel
theorem dX1_goOverWhile_31 : decode cX1_goOverWhile 31 = .ok (.bipush 26, 2) := by decide +kernel
theorem dX1_goOverWhile_33 : decode cX1_goOverWhile 33 = .ok (.invokestatic 91, 3) := by decide +kernel
theorem dX1_goOverWhile_36 : decode cX1_goOverWhile 36 = .ok (.aload_n 0, 1) := by decide +kernel
theorem dX1_goOverWhile_37 : decode cX1_goOverWhile 37 = .ok (.aload_n 1, 1) := by decide +kernel
theorem dX1_goOverWhile_38 : decode cX1_goOverWhile 38 = .ok (.getfield 97, 3) := by decide +kernel
theorem dX1_goOverWhile_41 : decode cX1_goOverWhile 41 = .ok (.iload_n 2, 1) := by decide +kernel
theorem dX1_goOverWhile_42 : decode cX1_goOverWhile 42 = .ok (.aload_n 0, 1) := by decide +kernel
theorem dX1_goOverWhile_43 : decode cX1_goOverWhile 43 = .ok (.aload_n 1, 1) := by decide +kernel
theorem dX1_goOverWhile_44 : decode cX1_goOverWhile 44 = .ok (.invokevirtual 62, 3) := by decide +kernel
theorem dX1_goOverWhile_47 : decode cX1_goOverWhile 47 = .ok (.ior, 1) := by decide +kernel
theorem dX1_goOverWhile_48 : decode cX1_goOverWhile 48 = .ok (.iload_n 3, 1) := by decide +kernel
theorem dX1_goOverWhile_49 : decode cX1_goOverWhile 49 = .ok (.iconst 1, 1) := by decide +kernel
theorem dX1_goOverWhile_50 : decode cX1_goOverWhile 50 = .ok (.iadd, 1) := by decide +kernel
theorem dX1_goOverWhile_51 : decode cX1_goOverWhile 51 = .ok (.invokevirtual 50, 3) := by decide +kernel
theorem dX1_goOverWhile_54 : decode cX1_goOverWhile 54 = .ok (.aload_n 0, 1) := by decide +kernel
theorem dX1_goOverWhile_55 : decode cX1_goOverWhile 55 = .ok (.getfield 17, 3) := by decide +kernel
theorem dX1_goOverWhile_58 : decode cX1_goOverWhile 58 = .ok (.iload_n 3, 1) := by decide +kernel
theorem dX1_goOverWhile_59 : decode cX1_goOverWhile 59 = .ok (.aaload, 1) := by decide +kernel
theorem dX1_goOverWhile_60 : decode cX1_goOverWhile 60 = .ok (.aload_n 0, 1) := by decide +kernel
theorem dX1_goOverWhile_61 : decode cX1_goOverWhile 61 = .ok (.getfield 9, 3) := by decide +kernel
theorem dX1_goOverWhile_64 : decode cX1_goOverWhile 64 = .ok (.invokestatic 103, 3) := by decide +kernel
theorem dX1_goOverWhile_67 : decode cX1_goOverWhile 67 = .ok (.istore 4, 2) := by decide +kernel
theorem dX1_goOverWhile_69 : decode cX1_goOverWhile 69 = .ok (.aload_n 0, 1) := by decide +kernel
theorem dX1_goOverWhile_70 : decode cX1_goOverWhile 70 = .ok (.getfield 17, 3) := by decide +kernel
theorem dX1_goOverWhile_73 : decode cX1_goOverWhile 73 = .ok (.iload_n 3, 1) := by decide +kernel
theorem dX1_goOverWhile_74 : decode cX1_goOverWhile 74 = .ok (.aaload, 1) := by decide +kernel
theorem dX1_goOverWhile_75 : decode cX1_goOverWhile 75 = .ok (.iconst 0, 1) := by decide +kernel
theorem dX1_goOverWhile_76 : decode cX1_goOverWhile 76 = .ok (.aload_n 0, 1) := by decide +kernel
theorem dX1_goOverWhile_77 : decode cX1_goOverWhile 77 = .ok (.getfield 9, 3) := by decide +kernel
theorem dX1_goOverWhile_80 : decode cX1_goOverWhile 80 = .ok (.iconst 0, 1) := by decide +kernel
theorem dX1_goOverWhile_81 : decode cX1_goOverWhile 81 = .ok (.bipush 26, 2) := by decide +kernel
theorem dX1_goOverWhile_83 : decode cX1_goOverWhile 83 = .ok (.invokestatic 91, 3) := by decide +kernel
theorem dX1_goOverWhile_86 : decode cX1_goOverWhile 86 = .ok (.iinc 5 1, 3) := by decide +kernel
theorem dX1_goOverWhile_89 : decode cX1_goOverWhile 89 = .ok (.goto (-83), 3) := by decide +kernel
theorem dX1_goOverWhile_92 : decode cX1_goOverWhile 92 = .ok (.return_, 1) := by decide +kernel
theorem dX1_joinInto_0 : decode cX1_joinInto 0 = .ok (.iconst 0, 1) := by decide +kernel
theorem dX1_joinInto_1 : decode cX1_joinInto 1 = .ok (.istore_n 2, 1) := by decide +kernel
theorem dX1_joinInto_2 : decode cX1_joinInto 2 = .ok (.iconst 0, 1) := by decide +kernel
theorem dX1_joinInto_3 : decode cX1_joinInto 3 = .ok (.istore_n 3, 1) := by decide +kernel
theorem dX1_joinInto_4 : decode cX1_joinInto 4 = .ok (.iload_n 3, 1) := by decide +kernel
theorem dX1_joinInto_5 : decode cX1_joinInto 5 = .ok (.bipush 26, 2) := by decide +kernel
theorem dX1_joinInto_7 : decode cX1_joinInto 7 = .ok (.if_icmp .ge 41, 3) := by decide +kernel
theorem dX1_joinInto_10 : decode cX1_joinInto 10 = .ok (.aload_n 0, 1) := by decide +kernel
theorem dX1_joinInto_11 : decode cX1_joinInto 11 = .ok (.iload_n 3, 1) := by decide +kernel
theorem dX1_joinInto_12 : decode cX1_joinInto 12 = .ok (.iaload, 1) := by decide +kernel
theorem dX1_joinInto_13 : decode cX1_joinInto 13 = .ok (.aload_n 1, 1) := by decide +kernel
theorem dX1_joinInto_14 : decode cX1_joinInto 14 = .ok (.iload_n 3, 1) := by decide +kernel
theorem dX1_joinInto_15 : decode cX1_joinInto 15 = .ok (.iaload, 1) := by decide +kernel
theorem dX1_joinInto_16 : decode cX1_joinInto 16 = .ok (.ior, 1) := by decide +kernel
theorem dX1_joinInto_17 : decode cX1_joinInto 17 = .ok (.istore 4, 2) := by decide +kernel
theorem dX1_joinInto_19 : decode cX1_joinInto 19 = .ok (.iload_n 2, 1) := by decide +kernel
theorem dX1_joinInto_20 : decode cX1_joinInto 20 = .ok (.ifCond .ne 11, 3) := by decide +kernel
theorem dX1_joinInto_23 : decode cX1_joinInto 23 = .ok (.iload 4, 2) := by decide +kernel
theorem dX1_joinInto_25 : decode cX1_joinInto 25 = .ok (.aload_n 0, 1) := by decide +kernel
theorem dX1_joinInto_26 : decode cX1_joinInto 26 = .ok (.iload_n 3, 1) := by decide +kernel
theorem dX1_joinInto_27 : decode cX1_joinInto 27 = .ok (.iaload, 1) := by decide +kernel
theorem dX1_joinInto_28 : decode cX1_joinInto 28 = .ok (.if_icmp .eq 7, 3) := by decide +kernel
theorem dX1_joinInto_31 : decode cX1_joinInto 31 = .ok (.iconst 1, 1) := by decide +kernel
theorem dX1_joinInto_32 : decode cX1_joinInto 32 = .ok (.goto 4, 3) := by decide +kernel
theorem dX1_joinInto_35 : decode cX1_joinInto 35 = .ok (.iconst 0, 1) := by decide +kernel
theorem dX1_joinInto_36 : decode cX1_joinInto 36 = .ok (.istore_n 2, 1) := by decide +kernel
theorem dX1_joinInto_37 : decode cX1_joinInto 37 = .ok (.aload_n 0, 1) := by decide +kernel
theorem dX1_joinInto_38 : decode cX1_joinInto 38 = .ok (.iload_n 3, 1) := by decide +kernel
theorem dX1_joinInto_39 : decode cX1_joinInto 39 = .ok (.iload 4, 2) := by decide +kernel
theorem dX1_joinInto_41 : decode cX1_joinInto 41 = .ok (.iastore, 1) := by decide +kernel
theorem dX1_joinInto_42 : decode cX1_joinInto 42 = .ok (.iinc 3 1, 3) := by decide +kernel
theorem dX1_joinInto_45 : decode cX1_joinInto 45 = .ok (.goto (-41), 3) := by decide +kernel
theorem dX1_joinInto_48 : decode cX1_joinInto 48 = .ok (.iload_n 2, 1) := by decide +kernel
theorem dX1_joinInto_49 : decode cX1_joinInto 49 = .ok (.ireturn, 1) := by decide +kernel
theorem dX1_set_0 : decode cX1_set 0 = .ok (.aload_n 0, 1) := by decide +kernel
theorem dX1_set_1 : decode cX1_set 1 = .ok (.getfield 31, 3) := by decide +kernel
theorem dX1_set_4 : decode cX1_set 4 = .ok (.iload_n 2, 1) := by decide +kernel
theorem dX1_set_5 : decode cX1_set 5 = .ok (.invokevirtual 35, 3) := by decide +kernel
theorem dX1_set_8 : decode cX1_set 8 = .ok (.iconst (-1), 1) := by decide +kernel
theorem dX1_set_9 : decode cX1_set 9 = .ok (.if_icmp .eq 20, 3) := by decide +kernel
theorem dX1_set_12 : decode cX1_set 12 = .ok (.aload_n 0, 1) := by decide +kernel
theorem dX1_set_13 : decode cX1_set 13 = .ok (.aload_n 1, 1) := by decide +kernel
theorem dX1_set_14 : decode cX1_set 14 = .ok (.iload_n 3, 1) := by decide +kernel
theorem dX1_set_15 : decode cX1_set 15 = .ok (.aload_n 0, 1) := by decide +kernel
theorem dX1_set_16 : decode cX1_set 16 = .ok (.getfield 31, 3) := by decide +kernel
theorem dX1_set_19 : decode cX1_set 19 = .ok (.iload_n 2, 1) := by decide +kernel
theorem dX1_set_20 : decode cX1_set 20 = .ok (.invokevirtual 35, 3) := by decide +kernel
theorem dX1_set_23 : decode cX1_set 23 = .ok (.invokevirtual 72, 3) := by decide +kernel
theorem dX1_set_26 : decode cX1_set 26 = .ok (.goto 20, 3) := by decide +kernel
theorem dX1_set_29 : decode cX1_set 29 = .ok (.iload_n 2, 1) := by decide +kernel
theorem dX1_set_30 : decode cX1_set 30 = .ok (.ifCond .lt 16, 3) := by decide +kernel
theorem dX1_set_33 : decode cX1_set 33 = .ok (.iload_n 2, 1) := by decide +kernel
theorem dX1_set_34 : decode cX1_set 34 = .ok (.bipush 26, 2) := by decide +kernel
theorem dX1_set_36 : decode cX1_set 36 = .ok (.if_icmp .ge 10, 3) := by decide +kernel
theorem dX1_set_39 : decode cX1_set 39 = .ok (.aload_n 0, 1) := by decide +kernel
theorem dX1_set_40 : decode cX1_set 40 = .ok (.getfield 9, 3) := by decide +kernel
theorem dX1_set_43 : decode cX1_set 43 = .ok (.iload_n 2, 1) := by decide +kernel
theorem dX1_set_44 : decode cX1_set 44 = .ok (.iload_n 3, 1) := by decide +kernel
theorem dX1_set_45 : decode cX1_set 45 = .ok (.iastore, 1) := by decide +kernel
theorem dX1_set_46 : decode cX1_set 46 = .ok (.return_, 1) := by decide +kernel
theorem dX1_demand_0 : decode cX1_demand 0 = .ok (.aload_n 0, 1) := by decide +kernel
theorem dX1_demand_1 : decode cX1_demand 1 = .ok (.getfield 23, 3) := by decide +kernel
theorem dX1_demand_4 : decode cX1_demand 4 = .ok (.iload_n 2, 1) := by decide +kernel
theorem dX1_demand_5 : decode cX1_demand 5 = .ok (.iload_n 3, 1) := by decide +kernel
theorem dX1_demand_6 : decode cX1_demand 6 = .ok (.invokevirtual 107, 3) := by decide +kernel
theorem dX1_demand_9 : decode cX1_demand 9 = .ok (.ifCond .ne 19, 3) := by decide +kernel
theorem dX1_demand_12 : decode cX1_demand 12 = .ok (.aload_n 0, 1) := by decide +kernel
theorem dX1_demand_13 : decode cX1_demand 13 = .ok (.aload_n 1, 1) := by decide +kernel
theorem dX1_demand_14 : decode cX1_demand 14 = .ok (.getfield 111, 3) := by decide +kernel
theorem dX1_demand_17 : decode cX1_demand 17 = .ok (.putfield 27, 3) := by decide +kernel
theorem dX1_demand_20 : decode cX1_demand 20 = .ok (.new 112, 3) := by decide +kernel
theorem dX1_demand_23 : decode cX1_demand 23 = .ok (.dup, 1) := by decide +kernel
theorem dX1_demand_24 : decode cX1_demand 24 = .ok (.invokespecial 114, 3) := by decide +kernel
theorem dX1_demand_27 : decode cX1_demand 27 = .ok (.athrow, 1) := by decide +kernel
theorem dX1_demand_28 : decode cX1_demand 28 = .ok (.return_, 1) := by decide +kernel
theorem dX1_shadeOf_0 : decode cX1_shadeOf 0 = .ok (.iconst 0, 1) := by decide +kernel
theorem dX1_shadeOf_1 : decode cX1_shadeOf 1 = .ok (.istore_n 2, 1) := by decide +kernel
theorem dX1_shadeOf_2 : decode cX1_shadeOf 2 = .ok (.aload_n 1, 1) := by decide +kernel
theorem dX1_shadeOf_3 : decode cX1_shadeOf 3 = .ok (.getfield 115, 3) := by decide +kernel
theorem dX1_shadeOf_6 : decode cX1_shadeOf 6 = .ok (.istore_n 3, 1) := by decide +kernel
theorem dX1_shadeOf_7 : decode cX1_shadeOf 7 = .ok (.iload_n 3, 1) := by decide +kernel
theorem dX1_shadeOf_8 : decode cX1_shadeOf 8 = .ok (.aload_n 1, 1) := by decide +kernel
theorem dX1_shadeOf_9 : decode cX1_shadeOf 9 = .ok (.getfield 118, 3) := by decide +kernel
theorem dX1_shadeOf_12 : decode cX1_shadeOf 12 = .ok (.if_icmp .ge 87, 3) := by decide +kernel
theorem dX1_shadeOf_15 : decode cX1_shadeOf 15 = .ok (.aload_n 0, 1) := by decide +kernel
theorem dX1_shadeOf_16 : decode cX1_shadeOf 16 = .ok (.getfield 31, 3) := by decide +kernel
theorem dX1_shadeOf_19 : decode cX1_shadeOf 19 = .ok (.iload_n 3, 1) := by decide +kernel
theorem dX1_shadeOf_20 : decode cX1_shadeOf 20 = .ok (.invokevirtual 121, 3) := by decide +kernel
theorem dX1_shadeOf_23 : decode cX1_shadeOf 23 = .ok (.istore 4, 2) := by decide +kernel
theorem dX1_shadeOf_25 : decode cX1_shadeOf 25 = .ok (.aload_n 0, 1) := by decide +kernel
theorem dX1_shadeOf_26 : decode cX1_shadeOf 26 = .ok (.getfield 31, 3) := by decide +kernel
theorem dX1_shadeOf_29 : decode cX1_shadeOf 29 = .ok (.iload_n 3, 1) := by decide +kernel
theorem dX1_shadeOf_30 : decode cX1_shadeOf 30 = .ok (.invokevirtual 124, 3) := by decide +kernel
theorem dX1_shadeOf_33 : decode cX1_shadeOf 33 = .ok (.iconst 1, 1) := by decide +kernel
theorem dX1_shadeOf_34 : decode cX1_shadeOf 34 = .ok (.if_icmp .ne 28, 3) := by decide +kernel
theorem dX1_shadeOf_37 : decode cX1_shadeOf 37 = .ok (.iload 4, 2) := by decide +kernel
theorem dX1_shadeOf_39 : decode cX1_shadeOf 39 = .ok (.ifCond .lt 23, 3) := by decide +kernel
theorem dX1_shadeOf_42 : decode cX1_shadeOf 42 = .ok (.iload 4, 2) := by decide +kernel
theorem dX1_shadeOf_44 : decode cX1_shadeOf 44 = .ok (.bipush 26, 2) := by decide +kernel
theorem dX1_shadeOf_46 : decode cX1_shadeOf 46 = .ok (.if_icmp .ge 16, 3) := by decide +kernel
theorem dX1_shadeOf_49 : decode cX1_shadeOf 49 = .ok (.iload_n 2, 1) := by decide +kernel
theorem dX1_shadeOf_50 : decode cX1_shadeOf 50 = .ok (.aload_n 0, 1) := by decide +kernel
theorem dX1_shadeOf_51 : decode cX1_shadeOf 51 = .ok (.getfield 9, 3) := by decide +kernel
theorem dX1_shadeOf_54 : decode cX1_shadeOf 54 = .ok (.iload 4, 2) := by decide +kernel
theorem dX1_shadeOf_56 : decode cX1_shadeOf 56 = .ok (.iaload, 1) := by decide +kernel
theorem dX1_shadeOf_57 : decode cX1_shadeOf 57 = .ok (.ior, 1) := by decide +kernel
theorem dX1_shadeOf_58 : decode cX1_shadeOf 58 = .ok (.istore_n 2, 1) := by decide +kernel
theorem dX1_shadeOf_59 : decode cX1_shadeOf 59 = .ok (.goto 34, 3) := by decide +kernel
theorem dX1_shadeOf_62 : decode cX1_shadeOf 62 = .ok (.aload_n 0, 1) := by decide +kernel
theorem dX1_shadeOf_63 : decode cX1_shadeOf 63 = .ok (.getfield 31, 3) := by decide +kernel
theorem dX1_shadeOf_66 : decode cX1_shadeOf 66 = .ok (.iload_n 3, 1) := by decide +kernel
theorem dX1_shadeOf_67 : decode cX1_shadeOf 67 = .ok (.invokevirtual 124, 3) := by decide +kernel
theorem dX1_shadeOf_70 : decode cX1_shadeOf 70 = .ok (.iconst 3, 1) := by decide +kernel
theorem dX1_shadeOf_71 : decode cX1_shadeOf 71 = .ok (.if_icmp .ne 22, 3) := by decide +kernel
theorem dX1_shadeOf_74 : decode cX1_shadeOf 74 = .ok (.iload_n 2, 1) := by decide +kernel
theorem dX1_shadeOf_75 : decode cX1_shadeOf 75 = .ok (.aload_n 0, 1) := by decide +kernel
theorem dX1_shadeOf_76 : decode cX1_shadeOf 76 = .ok (.getfield 23, 3) := by decide +kernel
theorem dX1_shadeOf_79 : decode cX1_shadeOf 79 = .ok (.aload_n 0, 1) := by decide +kernel
theorem dX1_shadeOf_80 : decode cX1_shadeOf 80 = .ok (.getfield 31, 3) := by decide +kernel
theorem dX1_shadeOf_83 : decode cX1_shadeOf 83 = .ok (.iload 4, 2) := by decide +kernel
theorem dX1_shadeOf_85 : decode cX1_shadeOf 85 = .ok (.invokevirtual 69, 3) := by decide +kernel
theorem dX1_shadeOf_88 : decode cX1_shadeOf 88 = .ok (.invokevirtual 41, 3) := by decide +kernel
theorem dX1_shadeOf_91 : decode cX1_shadeOf 91 = .ok (.ior, 1) := by decide +kernel
theorem dX1_shadeOf_92 : decode cX1_shadeOf 92 = .ok (.istore_n 2, 1) := by decide +kernel
theorem dX1_shadeOf_93 : decode cX1_shadeOf 93 = .ok (.iinc 3 1, 3) := by decide +kernel
theorem dX1_shadeOf_96 : decode cX1_shadeOf 96 = .ok (.goto (-89), 3) := by decide +kernel
theorem dX1_shadeOf_99 : decode cX1_shadeOf 99 = .ok (.iload_n 2, 1) := by decide +kernel
theorem dX1_shadeOf_100 : decode cX1_shadeOf 100 = .ok (.ireturn, 1) := by decide +kernel
theorem dX2_init_0 : decode cX2_init 0 = .ok (.aload_n 0, 1) := by decide +kernel
theorem dX2_init_1 : decode cX2_init 1 = .ok (.invokespecial 3, 3) := by decide +kernel
theorem dX2_init_4 : decode cX2_init 4 = .ok (.aload_n 0, 1) := by decide +kernel
theorem dX2_init_5 : decode cX2_init 5 = .ok (.iload_n 1, 1) := by decide +kernel
theorem dX2_init_6 : decode cX2_init 6 = .ok (.putfield 9, 3) := by decide +kernel
theorem dX2_init_9 : decode cX2_init 9 = .ok (.aload_n 0, 1) := by decide +kernel
theorem dX2_init_10 : decode cX2_init 10 = .ok (.iload_n 1, 1) := by decide +kernel
theorem dX2_init_11 : decode cX2_init 11 = .ok (.newarray .int, 2) := by decide +kernel
theorem dX2_init_13 : decode cX2_init 13 = .ok (.putfield 15, 3) := by decide +kernel
theorem dX2_init_16 : decode cX2_init 16 = .ok (.iconst 0, 1) := by decide +kernel
theorem dX2_init_17 : decode cX2_init 17 = .ok (.istore_n 2, 1) := by decide +kernel
theorem dX2_init_18 : decode cX2_init 18 = .ok (.iload_n 2, 1) := by decide +kernel
theorem dX2_init_19 : decode cX2_init 19 = .ok (.iload_n 1, 1) := by decide +kernel
theorem dX2_init_20 : decode cX2_init 20 = .ok (.if_icmp .ge 18, 3) := by decide +kernel
theorem dX2_init_23 : decode cX2_init 23 = .ok (.aload_n 0, 1) := by decide +kernel
theorem dX2_init_24 : decode cX2_init 24 = .ok (.getfield 15, 3) := by decide +kernel
theorem dX2_init_27 : decode cX2_init 27 = .ok (.iload_n 2, 1) := by decide +kernel
theorem dX2_init_28 : decode cX2_init 28 = .ok (.iconst 1, 1) := by decide +kernel
theorem dX2_init_29 : decode cX2_init 29 = .ok (.iload_n 2, 1) := by decide +kernel
theorem dX2_init_30 : decode cX2_init 30 = .ok (.ishl, 1) := by decide +kernel
theorem dX2_init_31 : decode cX2_init 31 = .ok (.iastore, 1) := by decide +kernel
theorem dX2_init_32 : decode cX2_init 32 = .ok (.iinc 2 1, 3) := by decide +kernel
theorem dX2_init_35 : decode cX2_init 35 = .ok (.goto (-17), 3) := by decide +kernel
theorem dX2_init_38 : decode cX2_init 38 = .ok (.return_, 1) := by decide +kernel
theorem dX2_size_0 : decode cX2_size 0 = .ok (.aload_n 0, 1) := by decide +kernel
theorem dX2_size_1 : decode cX2_size 1 = .ok (.getfield 9, 3) := by decide +kernel
theorem dX2_size_4 : decode cX2_size 4 = .ok (.ireturn, 1) := by decide +kernel
theorem dX2_has_0 : decode cX2_has 0 = .ok (.iload_n 1, 1) := by decide +kernel
theorem dX2_has_1 : decode cX2_has 1 = .ok (.ifCond .lt 15, 3) := by decide +kernel
theorem dX2_has_4 : decode cX2_has 4 = .ok (.iload_n 1, 1) := by decide +kernel
theorem dX2_has_5 : decode cX2_has 5 = .ok (.aload_n 0, 1) := by decide +kernel
theorem dX2_has_6 : decode cX2_has 6 = .ok (.getfield 9, 3) := by decide +kernel
theorem dX2_has_9 : decode cX2_has 9 = .ok (.if_icmp .ge 7, 3) := by decide +kernel
theorem dX2_has_12 : decode cX2_has 12 = .ok (.iconst 1, 1) := by decide +kernel
theorem dX2_has_13 : decode cX2_has 13 = .ok (.goto 4, 3) := by decide +kernel
theorem dX2_has_16 : decode cX2_has 16 = .ok (.iconst 0, 1) := by decide +kernel
theorem dX2_has_17 : decode cX2_has 17 = .ok (.ireturn, 1) := by decide +kernel
theorem dX2_isSealed_0 : decode cX2_isSealed 0 = .ok (.aload_n 0, 1) := by decide +kernel
theorem dX2_isSealed_1 : decode cX2_isSealed 1 = .ok (.getfield 19, 3) := by decide +kernel
theorem dX2_isSealed_4 : decode cX2_isSealed 4 = .ok (.ireturn, 1) := by decide +kernel
theorem dX2_bottom_0 : decode cX2_bottom 0 = .ok (.aload_n 0, 1) := by decide +kernel
theorem dX2_bottom_1 : decode cX2_bottom 1 = .ok (.getfield 23, 3) := by decide +kernel
theorem dX2_bottom_4 : decode cX2_bottom 4 = .ok (.ireturn, 1) := by decide +kernel
theorem dX2_leads_0 : decode cX2_leads 0 = .ok (.aload_n 0, 1) := by decide +kernel
theorem dX2_leads_1 : decode cX2_leads 1 = .ok (.iload_n 1, 1) := by decide +kernel
theorem dX2_leads_2 : decode cX2_leads 2 = .ok (.invokevirtual 26, 3) := by decide +kernel
theorem dX2_leads_5 : decode cX2_leads 5 = .ok (.ifCond .eq 29, 3) := by decide +kernel
theorem dX2_leads_8 : decode cX2_leads 8 = .ok (.aload_n 0, 1) := by decide +kernel
theorem dX2_leads_9 : decode cX2_leads 9 = .ok (.iload_n 2, 1) := by decide +kernel
theorem dX2_leads_10 : decode cX2_leads 10 = .ok (.invokevirtual 26, 3) := by decide +kernel
theorem dX2_leads_13 : decode cX2_leads 13 = .ok (.ifCond .eq 21, 3) := by decide +kernel
theorem dX2_leads_16 : decode cX2_leads 16 = .ok (.aload_n 0, 1) := by decide +kernel
theorem dX2_leads_17 : decode cX2_leads 17 = .ok (.getfield 15, 3) := by decide +kernel
theorem dX2_leads_20 : decode cX2_leads 20 = .ok (.iload_n 1, 1) := by decide +kernel
theorem dX2_leads_21 : decode cX2_leads 21 = .ok (.iaload, 1) := by decide +kernel
theorem dX2_leads_22 : decode cX2_leads 22 = .ok (.iload_n 2, 1) := by decide +kernel
theorem dX2_leads_23 : decode cX2_leads 23 = .ok (.ishr, 1) := by decide +kernel
theorem dX2_leads_24 : decode cX2_leads 24 = .ok (.iconst 1, 1) := by decide +kernel
theorem dX2_leads_25 : decode cX2_leads 25 = .ok (.iand, 1) := by decide +kernel
theorem dX2_leads_26 : decode cX2_leads 26 = .ok (.iconst 1, 1) := by decide +kernel
theorem dX2_leads_27 : decode cX2_leads 27 = .ok (.if_icmp .ne 7, 3) := by decide +kernel
theorem dX2_leads_30 : decode cX2_leads 30 = .ok (.iconst 1, 1) := by decide +kernel
theorem dX2_leads_31 : decode cX2_leads 31 = .ok (.goto 4, 3) := by decide +kernel
theorem dX2_leads_34 : decode cX2_leads 34 = .ok (.iconst 0, 1) := by decide +kernel
theorem dX2_leads_35 : decode cX2_leads 35 = .ok (.ireturn, 1) := by decide +kernel
theorem dX2_put_0 : decode cX2_put 0 = .ok (.aload_n 0, 1) := by decide +kernel
theorem dX2_put_1 : decode cX2_put 1 = .ok (.iload_n 1, 1) := by decide +kernel
theorem dX2_put_2 : decode cX2_put 2 = .ok (.invokevirtual 26, 3) := by decide +kernel
theorem dX2_put_5 : decode cX2_put 5 = .ok (.ifCond .eq 11, 3) := by decide +kernel
theorem dX2_put_8 : decode cX2_put 8 = .ok (.aload_n 0, 1) := by decide +kernel
theorem dX2_put_9 : decode cX2_put 9 = .ok (.iload_n 2, 1) := by decide +kernel
theorem dX2_put_10 : decode cX2_put 10 = .ok (.invokevirtual 26, 3) := by decide +kernel
theorem dX2_put_13 : decode cX2_put 13 = .ok (.ifCond .ne 4, 3) := by decide +kernel
theorem dX2_put_16 : decode cX2_put 16 = .ok (.return_, 1) := by decide +kernel
theorem dX2_put_17 : decode cX2_put 17 = .ok (.aload_n 0, 1) := by decide +kernel
theorem dX2_put_18 : decode cX2_put 18 = .ok (.getfield 15, 3) := by decide +kernel
theorem dX2_put_21 : decode cX2_put 21 = .ok (.iload_n 2, 1) := by decide +kernel
theorem dX2_put_22 : decode cX2_put 22 = .ok (.iaload, 1) := by decide +kernel
theorem dX2_put_23 : decode cX2_put 23 = .ok (.istore_n 3, 1) := by decide +kernel
theorem dX2_put_24 : decode cX2_put 24 = .ok (.iconst 0, 1) := by decide +kernel
theorem dX2_put_25 : decode cX2_put 25 = .ok (.istore 4, 2) := by decide +kernel
theorem dX2_put_27 : decode cX2_put 27 = .ok (.iload 4, 2) := by decide +kernel
theorem dX2_put_29 : decode cX2_put 29 = .ok (.aload_n 0, 1) := by decide +kernel
theorem dX2_put_30 : decode cX2_put 30 = .ok (.getfield 9, 3) := by decide +kernel
theorem dX2_put_33 : decode cX2_put 33 = .ok (.if_icmp .ge 30, 3) := by decide +kernel
theorem dX2_put_36 : decode cX2_put 36 = .ok (.aload_n 0, 1) := by decide +kernel
theorem dX2_put_37 : decode cX2_put 37 = .ok (.iload 4, 2) := by decide +kernel
theorem dX2_put_39 : decode cX2_put 39 = .ok (.iload_n 1, 1) := by decide +kernel
theorem dX2_put_40 : decode cX2_put 40 = .ok (.invokevirtual 30, 3) := by decide +kernel
theorem dX2_put_43 : decode cX2_put 43 = .ok (.ifCond .eq 14, 3) := by decide +kernel
theorem dX2_put_46 : decode cX2_put 46 = .ok (.aload_n 0, 1) := by decide +kernel
theorem dX2_put_47 : decode cX2_put 47 = .ok (.getfield 15, 3) := by decide +kernel
theorem dX2_put_50 : decode cX2_put 50 = .ok (.iload 4, 2) := by decide +kernel
theorem dX2_put_52 : decode cX2_put 52 = .ok (.dup2, 1) := by decide +kernel
theorem dX2_put_53 : decode cX2_put 53 = .ok (.iaload, 1) := by decide +kernel
theorem dX2_put_54 : decode cX2_put 54 = .ok (.iload_n 3, 1) := by decide +kernel
theorem dX2_put_55 : decode cX2_put 55 = .ok (.ior, 1) := by decide +kernel
theorem dX2_put_56 : decode cX2_put 56 = .ok (.iastore, 1) := by decide +kernel
theorem dX2_put_57 : decode cX2_put 57 = .ok (.iinc 4 1, 3) := by decide +kernel
theorem dX2_put_60 : decode cX2_put 60 = .ok (.goto (-33), 3) := by decide +kernel
theorem dX2_put_63 : decode cX2_put 63 = .ok (.return_, 1) := by decide +kernel
theorem dX2_pairs_0 : decode cX2_pairs 0 = .ok (.iconst 0, 1) := by decide +kernel
theorem dX2_pairs_1 : decode cX2_pairs 1 = .ok (.istore_n 1, 1) := by decide +kernel
theorem dX2_pairs_2 : decode cX2_pairs 2 = .ok (.iconst 0, 1) := by decide +kernel
theorem dX2_pairs_3 : decode cX2_pairs 3 = .ok (.istore_n 2, 1) := by decide +kernel
theorem dX2_pairs_4 : decode cX2_pairs 4 = .ok (.iload_n 2, 1) := by decide +kernel
theorem dX2_pairs_5 : decode cX2_pairs 5 = .ok (.aload_n 0, 1) := by decide +kernel
theorem dX2_pairs_6 : decode cX2_pairs 6 = .ok (.getfield 9, 3) := by decide +kernel
theorem dX2_pairs_9 : decode cX2_pairs 9 = .ok (.if_icmp .ge 21, 3) := by decide +kernel
theorem dX2_pairs_12 : decode cX2_pairs 12 = .ok (.iload_n 1, 1) := by decide +kernel
theorem dX2_pairs_13 : decode cX2_pairs 13 = .ok (.aload_n 0, 1) := by decide +kernel
theorem dX2_pairs_14 : decode cX2_pairs 14 = .ok (.getfield 15, 3) := by decide +kernel
theorem dX2_pairs_17 : decode cX2_pairs 17 = .ok (.iload_n 2, 1) := by decide +kernel
theorem dX2_pairs_18 : decode cX2_pairs 18 = .ok (.iaload, 1) := by decide +kernel
theorem dX2_pairs_19 : decode cX2_pairs 19 = .ok (.invokestatic 34, 3) := by decide +kernel
theorem dX2_pairs_22 : decode cX2_pairs 22 = .ok (.iadd, 1) := by decide +kernel
theorem dX2_pairs_23 : decode cX2_pairs 23 = .ok (.istore_n 1, 1) := by decide +kernel
theorem dX2_pairs_24 : decode cX2_pairs 24 = .ok (.iinc 2 1, 3) := by decide +kernel
theorem dX2_pairs_27 : decode cX2_pairs 27 = .ok (.goto (-23), 3) := by decide +kernel
theorem dX2_pairs_30 : decode cX2_pairs 30 = .ok (.iload_n 1, 1) := by decide +kernel
theorem dX2_pairs_31 : decode cX2_pairs 31 = .ok (.ireturn, 1) := by decide +kernel
theorem dX2_join_0 : decode cX2_join 0 = .ok (.iconst 0, 1) := by decide +kernel
theorem dX2_join_1 : decode cX2_join 1 = .ok (.istore_n 3, 1) := by decide +kernel
theorem dX2_join_2 : decode cX2_join 2 = .ok (.iload_n 3, 1) := by decide +kernel
theorem dX2_join_3 : decode cX2_join 3 = .ok (.aload_n 0, 1) := by decide +kernel
theorem dX2_join_4 : decode cX2_join 4 = .ok (.getfield 9, 3) := by decide +kernel
theorem dX2_join_7 : decode cX2_join 7 = .ok (.if_icmp .ge 39, 3) := by decide +kernel
theorem dX2_join_10 : decode cX2_join 10 = .ok (.aload_n 0, 1) := by decide +kernel
theorem dX2_join_11 : decode cX2_join 11 = .ok (.iload_n 1, 1) := by decide +kernel
theorem dX2_join_12 : decode cX2_join 12 = .ok (.iload_n 3, 1) := by decide +kernel
theorem dX2_join_13 : decode cX2_join 13 = .ok (.invokevirtual 30, 3) := by decide +kernel
theorem dX2_join_16 : decode cX2_join 16 = .ok (.ifCond .eq 24, 3) := by decide +kernel
theorem dX2_join_19 : decode cX2_join 19 = .ok (.aload_n 0, 1) := by decide +kernel
theorem dX2_join_20 : decode cX2_join 20 = .ok (.iload_n 2, 1) := by decide +kernel
theorem dX2_join_21 : decode cX2_join 21 = .ok (.iload_n 3, 1) := by decide +kernel
theorem dX2_join_22 : decode cX2_join 22 = .ok (.invokevirtual 30, 3) := by decide +kernel
theorem dX2_join_25 : decode cX2_join 25 = .ok (.ifCond .eq 15, 3) := by decide +kernel
theorem dX2_join_28 : decode cX2_join 28 = .ok (.aload_n 0, 1) := by decide +kernel
theorem dX2_join_29 : decode cX2_join 29 = .ok (.iload_n 3, 1) := by decide +kernel
theorem dX2_join_30 : decode cX2_join 30 = .ok (.iload_n 1, 1) := by decide +kernel
theorem dX2_join_31 : decode cX2_join 31 = .ok (.iload_n 2, 1) := by decide +kernel
theorem dX2_join_32 : decode cX2_join 32 = .ok (.invokevirtual 40, 3) := by decide +kernel
theorem dX2_join_35 : decode cX2_join 35 = .ok (.ifCond .eq 5, 3) := by decide +kernel
theorem dX2_join_38 : decode cX2_join 38 = .ok (.iload_n 3, 1) := by decide +kernel
theorem dX2_join_39 : decode cX2_join 39 = .ok (.ireturn, 1) := by decide +kernel
theorem dX2_join_40 : decode cX2_join 40 = .ok (.iinc 3 1, 3) := by decide +kernel
theorem dX2_join_43 : decode cX2_join 43 = .ok (.goto (-41), 3) := by decide +kernel
theorem dX2_join_46 : decode cX2_join 46 = .ok (.iconst (-1), 1) := by decide +kernel
theorem dX2_join_47 : decode cX2_join 47 = .ok (.ireturn, 1) := by decide +kernel
theorem dX2_isLeastAbove_0 : decode cX2_isLeastAbove 0 = .ok (.iconst 0, 1) := by decide +kernel
theorem dX2_isLeastAbove_1 : decode cX2_isLeastAbove 1 = .ok (.istore 4, 2) := by decide +kernel
theorem dX2_isLeastAbove_3 : decode cX2_isLeastAbove 3 = .ok (.iload 4, 2) := by decide +kernel
theorem dX2_isLeastAbove_5 : decode cX2_isLeastAbove 5 = .ok (.aload_n 0, 1) := by decide +kernel
theorem dX2_isLeastAbove_6 : decode cX2_isLeastAbove 6 = .ok (.getfield 9, 3) := by decide +kernel
theorem dX2_isLeastAbove_9 : decode cX2_isLeastAbove 9 = .ok (.if_icmp .ge 41, 3) := by decide +kernel
theorem dX2_isLeastAbove_12 : decode cX2_isLeastAbove 12 = .ok (.aload_n 0, 1) := by decide +kernel
theorem dX2_isLeastAbove_13 : decode cX2_isLeastAbove 13 = .ok (.iload_n 2, 1) := by decide +kernel
theorem dX2_isLeastAbove_14 : decode cX2_isLeastAbove 14 = .ok (.iload 4, 2) := by decide +kernel
theorem dX2_isLeastAbove_16 : decode cX2_isLeastAbove 16 = .ok (.invokevirtual 30, 3) := by decide +kernel
theorem dX2_isLeastAbove_19 : decode cX2_isLeastAbove 19 = .ok (.ifCond .eq 25, 3) := by decide +kernel
theorem dX2_isLeastAbove_22 : decode cX2_isLeastAbove 22 = .ok (.aload_n 0, 1) := by decide +kernel
theorem dX2_isLeastAbove_23 : decode cX2_isLeastAbove 23 = .ok (.iload_n 3, 1) := by decide +kernel
theorem dX2_isLeastAbove_24 : decode cX2_isLeastAbove 24 = .ok (.iload 4, 2) := by decide +kernel
theorem dX2_isLeastAbove_26 : decode cX2_isLeastAbove 26 = .ok (.invokevirtual 30, 3) := by decide +kernel
theorem dX2_isLeastAbove_29 : decode cX2_isLeastAbove 29 = .ok (.ifCond .eq 15, 3) := by decide +kernel
theorem dX2_isLeastAbove_32 : decode cX2_isLeastAbove 32 = .ok (.aload_n 0, 1) := by decide +kernel
theorem dX2_isLeastAbove_33 : decode cX2_isLeastAbove 33 = .ok (.iload_n 1, 1) := by decide +kernel
theorem dX2_isLeastAbove_34 : decode cX2_isLeastAbove 34 = .ok (.iload 4, 2) := by decide +kernel
theorem dX2_isLeastAbove_36 : decode cX2_isLeastAbove 36 = .ok (.invokevirtual 30, 3) := by decide +kernel
theorem dX2_isLeastAbove_39 : decode cX2_isLeastAbove 39 = .ok (.ifCond .ne 5, 3) := by decide +kernel
theorem dX2_isLeastAbove_42 : decode cX2_isLeastAbove 42 = .ok (.iconst 0, 1) := by decide +kernel
theorem dX2_isLeastAbove_43 : decode cX2_isLeastAbove 43 = .ok (.ireturn, 1) := by decide +kernel
theorem dX2_isLeastAbove_44 : decode cX2_isLeastAbove 44 = .ok (.iinc 4 1, 3) := by decide +kernel
theorem dX2_isLeastAbove_47 : decode cX2_isLeastAbove 47 = .ok (.goto (-44), 3) := by decide +kernel
theorem dX2_isLeastAbove_50 : decode cX2_isLeastAbove 50 = .ok (.iconst 1, 1) := by decide +kernel
theorem dX2_isLeastAbove_51 : decode cX2_isLeastAbove 51 = .ok (.ireturn, 1) := by decide +kernel
theorem dX2_meet_0 : decode cX2_meet 0 = .ok (.iconst 0, 1) := by decide +kernel
theorem dX2_meet_1 : decode cX2_meet 1 = .ok (.istore_n 3, 1) := by decide +kernel
theorem dX2_meet_2 : decode cX2_meet 2 = .ok (.iload_n 3, 1) := by decide +kernel
theorem dX2_meet_3 : decode cX2_meet 3 = .ok (.aload_n 0, 1) := by decide +kernel
theorem dX2_meet_4 : decode cX2_meet 4 = .ok (.getfield 9, 3) := by decide +kernel
theorem dX2_meet_7 : decode cX2_meet 7 = .ok (.if_icmp .ge 39, 3) := by decide +kernel
theorem dX2_meet_10 : decode cX2_meet 10 = .ok (.aload_n 0, 1) := by decide +kernel
theorem dX2_meet_11 : decode cX2_meet 11 = .ok (.iload_n 3, 1) := by decide +kernel
theorem dX2_meet_12 : decode cX2_meet 12 = .ok (.iload_n 1, 1) := by decide +kernel
theorem dX2_meet_13 : decode cX2_meet 13 = .ok (.invokevirtual 30, 3) := by decide +kernel
theorem dX2_meet_16 : decode cX2_meet 16 = .ok (.ifCond .eq 24, 3) := by decide +kernel
theorem dX2_meet_19 : decode cX2_meet 19 = .ok (.aload_n 0, 1) := by decide +kernel
theorem dX2_meet_20 : decode cX2_meet 20 = .ok (.iload_n 3, 1) := by decide +kernel
theorem dX2_meet_21 : decode cX2_meet 21 = .ok (.iload_n 2, 1) := by decide +kernel
theorem dX2_meet_22 : decode cX2_meet 22 = .ok (.invokevirtual 30, 3) := by decide +kernel
theorem dX2_meet_25 : decode cX2_meet 25 = .ok (.ifCond .eq 15, 3) := by decide +kernel
theorem dX2_meet_28 : decode cX2_meet 28 = .ok (.aload_n 0, 1) := by decide +kernel
theorem dX2_meet_29 : decode cX2_meet 29 = .ok (.iload_n 3, 1) := by decide +kernel
theorem dX2_meet_30 : decode cX2_meet 30 = .ok (.iload_n 1, 1) := by decide +kernel
theorem dX2_meet_31 : decode cX2_meet 31 = .ok (.iload_n 2, 1) := by decide +kernel
theorem dX2_meet_32 : decode cX2_meet 32 = .ok (.invokevirtual 44, 3) := by decide +kernel
theorem dX2_meet_35 : decode cX2_meet 35 = .ok (.ifCond .eq 5, 3) := by decide +kernel
theorem dX2_meet_38 : decode cX2_meet 38 = .ok (.iload_n 3, 1) := by decide +kernel
theorem dX2_meet_39 : decode cX2_meet 39 = .ok (.ireturn, 1) := by decide +kernel
theorem dX2_meet_40 : decode cX2_meet 40 = .ok (.iinc 3 1, 3) := by decide +kernel
theorem dX2_meet_43 : decode cX2_meet 43 = .ok (.goto (-41), 3) := by decide +kernel
theorem dX2_meet_46 : decode cX2_meet 46 = .ok (.iconst (-1), 1) := by decide +kernel
theorem dX2_meet_47 : decode cX2_meet 47 = .ok (.ireturn, 1) := by decide +kernel
theorem dX2_isGreatestUnder_0 : decode cX2_isGreatestUnder 0 = .ok (.iconst 0, 1) := by decide +kernel
theorem dX2_isGreatestUnder_1 : decode cX2_isGreatestUnder 1 = .ok (.istore 4, 2) := by decide +kernel
theorem dX2_isGreatestUnder_3 : decode cX2_isGreatestUnder 3 = .ok (.iload 4, 2) := by decide +kernel
theorem dX2_isGreatestUnder_5 : decode cX2_isGreatestUnder 5 = .ok (.aload_n 0, 1) := by decide +kernel
theorem dX2_isGreatestUnder_6 : decode cX2_isGreatestUnder 6 = .ok (.getfield 9, 3) := by decide +kernel
theorem dX2_isGreatestUnder_9 : decode cX2_isGreatestUnder 9 = .ok (.if_icmp .ge 41, 3) := by decide +kernel
theorem dX2_isGreatestUnder_12 : decode cX2_isGreatestUnder 12 = .ok (.aload_n 0, 1) := by decide +kernel
theorem dX2_isGreatestUnder_13 : decode cX2_isGreatestUnder 13 = .ok (.iload 4, 2) := by decide +kernel
theorem dX2_isGreatestUnder_15 : decode cX2_isGreatestUnder 15 = .ok (.iload_n 2, 1) := by decide +kernel
theorem dX2_isGreatestUnder_16 : decode cX2_isGreatestUnder 16 = .ok (.invokevirtual 30, 3) := by decide +kernel
theorem dX2_isGreatestUnder_19 : decode cX2_isGreatestUnder 19 = .ok (.ifCond .eq 25, 3) := by decide +kernel
theorem dX2_isGreatestUnder_22 : decode cX2_isGreatestUnder 22 = .ok (.aload_n 0, 1) := by decide +kernel
theorem dX2_isGreatestUnder_23 : decode cX2_isGreatestUnder 23 = .ok (.iload 4, 2) := by decide +kernel
theorem dX2_isGreatestUnder_25 : decode cX2_isGreatestUnder 25 = .ok (.iload_n 3, 1) := by decide +kernel
theorem dX2_isGreatestUnder_26 : decode cX2_isGreatestUnder 26 = .ok (.invokevirtual 30, 3) := by decide +kernel
theorem dX2_isGreatestUnder_29 : decode cX2_isGreatestUnder 29 = .ok (.ifCond .eq 15, 3) := by decide +kernel
theorem dX2_isGreatestUnder_32 : decode cX2_isGreatestUnder 32 = .ok (.aload_n 0, 1) := by decide +kernel
theorem dX2_isGreatestUnder_33 : decode cX2_isGreatestUnder 33 = .ok (.iload 4, 2) := by decide +kernel
theorem dX2_isGreatestUnder_35 : decode cX2_isGreatestUnder 35 = .ok (.iload_n 1, 1) := by decide +kernel
theorem dX2_isGreatestUnder_36 : decode cX2_isGreatestUnder 36 = .ok (.invokevirtual 30, 3) := by decide +kernel
theorem dX2_isGreatestUnder_39 : decode cX2_isGreatestUnder 39 = .ok (.ifCond .ne 5, 3) := by decide +kernel
theorem dX2_isGreatestUnder_42 : decode cX2_isGreatestUnder 42 = .ok (.iconst 0, 1) := by decide +kernel
theorem dX2_isGreatestUnder_43 : decode cX2_isGreatestUnder 43 = .ok (.ireturn, 1) := by decide +kernel
theorem dX2_isGreatestUnder_44 : decode cX2_isGreatestUnder 44 = .ok (.iinc 4 1, 3) := by decide +kernel
theorem dX2_isGreatestUnder_47 : decode cX2_isGreatestUnder 47 = .ok (.goto (-44), 3) := by decide +kernel
theorem dX2_isGreatestUnder_50 : decode cX2_isGreatestUnder 50 = .ok (.iconst 1, 1) := by decide +kernel
theorem dX2_isGreatestUnder_51 : decode cX2_isGreatestUnder 51 = .ok (.ireturn, 1) := by decide +kernel
theorem dX2_unfitPair_0 : decode cX2_unfitPair 0 = .ok (.iconst (-1), 1) := by decide +kernel
theorem dX2_unfitPair_1 : decode cX2_unfitPair 1 = .ok (.istore_n 1, 1) := by decide +kernel
theorem dX2_unfitPair_2 : decode cX2_unfitPair 2 = .ok (.iconst (-1), 1) := by decide +kernel
theorem dX2_unfitPair_3 : decode cX2_unfitPair 3 = .ok (.istore_n 2, 1) := by decide +kernel
theorem dX2_unfitPair_4 : decode cX2_unfitPair 4 = .ok (.aload_n 0, 1) := by decide +kernel
theorem dX2_unfitPair_5 : decode cX2_unfitPair 5 = .ok (.getfield 9, 3) := by decide +kernel
theorem dX2_unfitPair_8 : decode cX2_unfitPair 8 = .ok (.iconst 1, 1) := by decide +kernel
theorem dX2_unfitPair_9 : decode cX2_unfitPair 9 = .ok (.isub, 1) := by decide +kernel
theorem dX2_unfitPair_10 : decode cX2_unfitPair 10 = .ok (.istore_n 3, 1) := by decide +kernel
theorem dX2_unfitPair_11 : decode cX2_unfitPair 11 = .ok (.iload_n 3, 1) := by decide +kernel
theorem dX2_unfitPair_12 : decode cX2_unfitPair 12 = .ok (.ifCond .lt 87, 3) := by decide +kernel
theorem dX2_unfitPair_15 : decode cX2_unfitPair 15 = .ok (.aload_n 0, 1) := by decide +kernel
theorem dX2_unfitPair_16 : decode cX2_unfitPair 16 = .ok (.getfield 9, 3) := by decide +kernel
theorem dX2_unfitPair_19 : decode cX2_unfitPair 19 = .ok (.iconst 1, 1) := by decide +kernel
theorem dX2_unfitPair_20 : decode cX2_unfitPair 20 = .ok (.isub, 1) := by decide +kernel
theorem dX2_unfitPair_21 : decode cX2_unfitPair 21 = .ok (.istore 4, 2) := by decide +kernel
theorem dX2_unfitPair_23 : decode cX2_unfitPair 23 = .ok (.iload 4, 2) := by decide +kernel
theorem dX2_unfitPair_25 : decode cX2_unfitPair 25 = .ok (.iload_n 3, 1) := by decide +kernel
theorem dX2_unfitPair_26 : decode cX2_unfitPair 26 = .ok (.if_icmp .le 67, 3) := by decide +kernel
theorem dX2_unfitPair_29 : decode cX2_unfitPair 29 = .ok (.aload_n 0, 1) := by decide +kernel
theorem dX2_unfitPair_30 : decode cX2_unfitPair 30 = .ok (.iload_n 3, 1) := by decide +kernel
theorem dX2_unfitPair_31 : decode cX2_unfitPair 31 = .ok (.iload 4, 2) := by decide +kernel
theorem dX2_unfitPair_33 : decode cX2_unfitPair 33 = .ok (.invokevirtual 30, 3) := by decide +kernel
theorem dX2_unfitPair_36 : decode cX2_unfitPair 36 = .ok (.ifCond .eq 21, 3) := by decide +kernel
theorem dX2_unfitPair_39 : decode cX2_unfitPair 39 = .ok (.aload_n 0, 1) := by decide +kernel
theorem dX2_unfitPair_40 : decode cX2_unfitPair 40 = .ok (.iload 4, 2) := by decide +kernel
theorem dX2_unfitPair_42 : decode cX2_unfitPair 42 = .ok (.iload_n 3, 1) := by decide +kernel
theorem dX2_unfitPair_43 : decode cX2_unfitPair 43 = .ok (.invokevirtual 30, 3) := by decide +kernel
theorem dX2_unfitPair_46 : decode cX2_unfitPair 46 = .ok (.ifCond .eq 11, 3) := by decide +kernel
theorem dX2_unfitPair_49 : decode cX2_unfitPair 49 = .ok (.bipush 10, 2) := by decide +kernel
theorem dX2_unfitPair_51 : decode cX2_unfitPair 51 = .ok (.iload_n 3, 1) := by decide +kernel
theorem dX2_unfitPair_52 : decode cX2_unfitPair 52 = .ok (.imul, 1) := by decide +kernel
theorem dX2_unfitPair_53 : decode cX2_unfitPair 53 = .ok (.iload 4, 2) := by decide +kernel
theorem dX2_unfitPair_55 : decode cX2_unfitPair 55 = .ok (.iadd, 1) := by decide +kernel
theorem dX2_unfitPair_56 : decode cX2_unfitPair 56 = .ok (.istore_n 1, 1) := by decide +kernel
theorem dX2_unfitPair_57 : decode cX2_unfitPair 57 = .ok (.aload_n 0, 1) := by decide +kernel
theorem dX2_unfitPair_58 : decode cX2_unfitPair 58 = .ok (.iload_n 3, 1) := by decide +kernel
theorem dX2_unfitPair_59 : decode cX2_unfitPair 59 = .ok (.iload 4, 2) := by decide +kernel
theorem dX2_unfitPair_61 : decode cX2_unfitPair 61 = .ok (.invokevirtual 47, 3) := by decide +kernel
theorem dX2_unfitPair_64 : decode cX2_unfitPair 64 = .ok (.iconst (-1), 1) := by decide +kernel
theorem dX2_unfitPair_65 : decode cX2_unfitPair 65 = .ok (.if_icmp .eq 14, 3) := by decide +kernel
theorem dX2_unfitPair_68 : decode cX2_unfitPair 68 = .ok (.aload_n 0, 1) := by decide +kernel
theorem dX2_unfitPair_69 : decode cX2_unfitPair 69 = .ok (.iload_n 3, 1) := by decide +kernel
theorem dX2_unfitPair_70 : decode cX2_unfitPair 70 = .ok (.iload 4, 2) := by decide +kernel
theorem dX2_unfitPair_72 : decode cX2_unfitPair 72 = .ok (.invokevirtual 51, 3) := by decide +kernel
theorem dX2_unfitPair_75 : decode cX2_unfitPair 75 = .ok (.iconst (-1), 1) := by decide +kernel
theorem dX2_unfitPair_76 : decode cX2_unfitPair 76 = .ok (.if_icmp .ne 11, 3) := by decide +kernel
theorem dX2_unfitPair_79 : decode cX2_unfitPair 79 = .ok (.bipush 10, 2) := by decide +kernel
theorem dX2_unfitPair_81 : decode cX2_unfitPair 81 = .ok (.iload_n 3, 1) := by decide +kernel
theorem dX2_unfitPair_82 : decode cX2_unfitPair 82 = .ok (.imul, 1) := by decide +kernel
theorem dX2_unfitPair_83 : decode cX2_unfitPair 83 = .ok (.iload 4, 2) := by decide +kernel
theorem dX2_unfitPair_85 : decode cX2_unfitPair 85 = .ok (.iadd, 1) := by decide +kernel
theorem dX2_unfitPair_86 : decode cX2_unfitPair 86 = .ok (.istore_n 2, 1) := by decide +kernel
theorem dX2_unfitPair_87 : decode cX2_unfitPair 87 = .ok (.iinc 4 (-1), 3) := by decide +kernel
theorem dX2_unfitPair_90 : decode cX2_unfitPair 90 = .ok (.goto (-67), 3) := by decide +kernel
theorem dX2_unfitPair_93 : decode cX2_unfitPair 93 = .ok (.iinc 3 (-1), 3) := by decide +kernel
theorem dX2_unfitPair_96 : decode cX2_unfitPair 96 = .ok (.goto (-85), 3) := by decide +kernel
theorem dX2_unfitPair_99 : decode cX2_unfitPair 99 = .ok (.iload_n 1, 1) := by decide +kernel
theorem dX2_unfitPair_100 : decode cX2_unfitPair 100 = .ok (.iconst (-1), 1) := by decide +kernel
theorem dX2_unfitPair_101 : decode cX2_unfitPair 101 = .ok (.if_icmp .eq 7, 3) := by decide +kernel
theorem dX2_unfitPair_104 : decode cX2_unfitPair 104 = .ok (.iload_n 1, 1) := by decide +kernel
theorem dX2_unfitPair_105 : decode cX2_unfitPair 105 = .ok (.goto 4, 3) := by decide +kernel
theorem dX2_unfitPair_108 : decode cX2_unfitPair 108 = .ok (.iload_n 2, 1) := by decide +kernel
theorem dX2_unfitPair_109 : decode cX2_unfitPair 109 = .ok (.ireturn, 1) := by decide +kernel
theorem dX2_close_0 : decode cX2_close 0 = .ok (.aload_n 0, 1) := by decide +kernel
theorem dX2_close_1 : decode cX2_close 1 = .ok (.iconst 1, 1) := by decide +kernel
theorem dX2_close_2 : decode cX2_close 2 = .ok (.putfield 19, 3) := by decide +kernel
theorem dX2_close_5 : decode cX2_close 5 = .ok (.iconst 0, 1) := by decide +kernel
theorem dX2_close_6 : decode cX2_close 6 = .ok (.istore_n 1, 1) := by decide +kernel
theorem dX2_close_7 : decode cX2_close 7 = .ok (.iload_n 1, 1) := by decide +kernel
theorem dX2_close_8 : decode cX2_close 8 = .ok (.aload_n 0, 1) := by decide +kernel
theorem dX2_close_9 : decode cX2_close 9 = .ok (.getfield 9, 3) := by decide +kernel
theorem dX2_close_12 : decode cX2_close 12 = .ok (.if_icmp .ge 30, 3) := by decide +kernel
theorem dX2_close_15 : decode cX2_close 15 = .ok (.aload_n 0, 1) := by decide +kernel
theorem dX2_close_16 : decode cX2_close 16 = .ok (.getfield 15, 3) := by decide +kernel
theorem dX2_close_19 : decode cX2_close 19 = .ok (.iload_n 1, 1) := by decide +kernel
theorem dX2_close_20 : decode cX2_close 20 = .ok (.iaload, 1) := by decide +kernel
theorem dX2_close_21 : decode cX2_close 21 = .ok (.invokestatic 34, 3) := by decide +kernel
theorem dX2_close_24 : decode cX2_close 24 = .ok (.aload_n 0, 1) := by decide +kernel
theorem dX2_close_25 : decode cX2_close 25 = .ok (.getfield 9, 3) := by decide +kernel
theorem dX2_close_28 : decode cX2_close 28 = .ok (.if_icmp .ne 8, 3) := by decide +kernel
theorem dX2_close_31 : decode cX2_close 31 = .ok (.aload_n 0, 1) := by decide +kernel
theorem dX2_close_32 : decode cX2_close 32 = .ok (.iload_n 1, 1) := by decide +kernel
theorem dX2_close_33 : decode cX2_close 33 = .ok (.putfield 23, 3) := by decide +kernel
theorem dX2_close_36 : decode cX2_close 36 = .ok (.iinc 1 1, 3) := by decide +kernel
theorem dX2_close_39 : decode cX2_close 39 = .ok (.goto (-32), 3) := by decide +kernel
theorem dX2_close_42 : decode cX2_close 42 = .ok (.return_, 1) := by decide +kernel
theorem dX2_shade_0 : decode cX2_shade 0 = .ok (.aload_n 0, 1) := by decide +kernel
theorem dX2_shade_1 : decode cX2_shade 1 = .ok (.iload_n 1, 1) := by decide +kernel
theorem dX2_shade_2 : decode cX2_shade 2 = .ok (.invokevirtual 26, 3) := by decide +kernel
theorem dX2_shade_5 : decode cX2_shade 5 = .ok (.ifCond .eq 23, 3) := by decide +kernel
theorem dX2_shade_8 : decode cX2_shade 8 = .ok (.aload_n 0, 1) := by decide +kernel
theorem dX2_shade_9 : decode cX2_shade 9 = .ok (.getfield 15, 3) := by decide +kernel
theorem dX2_shade_12 : decode cX2_shade 12 = .ok (.iload_n 1, 1) := by decide +kernel
theorem dX2_shade_13 : decode cX2_shade 13 = .ok (.iaload, 1) := by decide +kernel
theorem dX2_shade_14 : decode cX2_shade 14 = .ok (.iconst (-1), 1) := by decide +kernel
theorem dX2_shade_15 : decode cX2_shade 15 = .ok (.ixor, 1) := by decide +kernel
theorem dX2_shade_16 : decode cX2_shade 16 = .ok (.iconst 1, 1) := by decide +kernel
theorem dX2_shade_17 : decode cX2_shade 17 = .ok (.aload_n 0, 1) := by decide +kernel
theorem dX2_shade_18 : decode cX2_shade 18 = .ok (.getfield 9, 3) := by decide +kernel
theorem dX2_shade_21 : decode cX2_shade 21 = .ok (.ishl, 1) := by decide +kernel
theorem dX2_shade_22 : decode cX2_shade 22 = .ok (.iconst 1, 1) := by decide +kernel
theorem dX2_shade_23 : decode cX2_shade 23 = .ok (.isub, 1) := by decide +kernel
theorem dX2_shade_24 : decode cX2_shade 24 = .ok (.iand, 1) := by decide +kernel
theorem dX2_shade_25 : decode cX2_shade 25 = .ok (.goto 4, 3) := by decide +kernel
theorem dX2_shade_28 : decode cX2_shade 28 = .ok (.iconst 0, 1) := by decide +kernel
theorem dX2_shade_29 : decode cX2_shade 29 = .ok (.ireturn, 1) := by decide +kernel
theorem dX2_fits_0 : decode cX2_fits 0 = .ok (.aload_n 0, 1) := by decide +kernel
theorem dX2_fits_1 : decode cX2_fits 1 = .ok (.iload_n 2, 1) := by decide +kernel
theorem dX2_fits_2 : decode cX2_fits 2 = .ok (.invokevirtual 26, 3) := by decide +kernel
theorem dX2_fits_5 : decode cX2_fits 5 = .ok (.ifCond .eq 19, 3) := by decide +kernel
theorem dX2_fits_8 : decode cX2_fits 8 = .ok (.iload_n 1, 1) := by decide +kernel
theorem dX2_fits_9 : decode cX2_fits 9 = .ok (.iload_n 2, 1) := by decide +kernel
theorem dX2_fits_10 : decode cX2_fits 10 = .ok (.ishr, 1) := by decide +kernel
theorem dX2_fits_11 : decode cX2_fits 11 = .ok (.iconst 1, 1) := by decide +kernel
theorem dX2_fits_12 : decode cX2_fits 12 = .ok (.iand, 1) := by decide +kernel
theorem dX2_fits_13 : decode cX2_fits 13 = .ok (.ifCond .ne 7, 3) := by decide +kernel
theorem dX2_fits_16 : decode cX2_fits 16 = .ok (.iconst 1, 1) := by decide +kernel
theorem dX2_fits_17 : decode cX2_fits 17 = .ok (.goto 16, 3) := by decide +kernel
theorem dX2_fits_20 : decode cX2_fits 20 = .ok (.iconst 0, 1) := by decide +kernel
theorem dX2_fits_21 : decode cX2_fits 21 = .ok (.goto 12, 3) := by decide +kernel
theorem dX2_fits_24 : decode cX2_fits 24 = .ok (.iload_n 1, 1) := by decide +kernel
theorem dX2_fits_25 : decode cX2_fits 25 = .ok (.ifCond .ne 7, 3) := by decide +kernel
theorem dX2_fits_28 : decode cX2_fits 28 = .ok (.iconst 1, 1) := by decide +kernel
theorem dX2_fits_29 : decode cX2_fits 29 = .ok (.goto 4, 3) := by decide +kernel
theorem dX2_fits_32 : decode cX2_fits 32 = .ok (.iconst 0, 1) := by decide +kernel
theorem dX2_fits_33 : decode cX2_fits 33 = .ok (.ireturn, 1) := by decide +kernel
theorem dX2_labelOf_0 : decode cX2_labelOf 0 = .ok (.iconst 0, 1) := by decide +kernel
theorem dX2_labelOf_1 : decode cX2_labelOf 1 = .ok (.istore_n 2, 1) := by decide +kernel
theorem dX2_labelOf_2 : decode cX2_labelOf 2 = .ok (.iload_n 2, 1) := by decide +kernel
theorem dX2_labelOf_3 : decode cX2_labelOf 3 = .ok (.aload_n 0, 1) := by decide +kernel
theorem dX2_labelOf_4 : decode cX2_labelOf 4 = .ok (.getfield 9, 3) := by decide +kernel
theorem dX2_labelOf_7 : decode cX2_labelOf 7 = .ok (.if_icmp .ge 20, 3) := by decide +kernel
theorem dX2_labelOf_10 : decode cX2_labelOf 10 = .ok (.aload_n 0, 1) := by decide +kernel
theorem dX2_labelOf_11 : decode cX2_labelOf 11 = .ok (.iload_n 2, 1) := by decide +kernel
theorem dX2_labelOf_12 : decode cX2_labelOf 12 = .ok (.invokevirtual 54, 3) := by decide +kernel
theorem dX2_labelOf_15 : decode cX2_labelOf 15 = .ok (.iload_n 1, 1) := by decide +kernel
theorem dX2_labelOf_16 : decode cX2_labelOf 16 = .ok (.if_icmp .ne 5, 3) := by decide +kernel
theorem dX2_labelOf_19 : decode cX2_labelOf 19 = .ok (.iload_n 2, 1) := by decide +kernel
theorem dX2_labelOf_20 : decode cX2_labelOf 20 = .ok (.ireturn, 1) := by decide +kernel
theorem dX2_labelOf_21 : decode cX2_labelOf 21 = .ok (.iinc 2 1, 3) := by decide +kernel
theorem dX2_labelOf_24 : decode cX2_labelOf 24 = .ok (.goto (-22), 3) := by decide +kernel
theorem dX2_labelOf_27 : decode cX2_labelOf 27 = .ok (.aload_n 0, 1) := by decide +kernel
theorem dX2_labelOf_28 : decode cX2_labelOf 28 = .ok (.getfield 23, 3) := by decide +kernel
theorem dX2_labelOf_31 : decode cX2_labelOf 31 = .ok (.ireturn, 1) := by decide +kernel
theorem dX3_init_0 : decode cX3_init 0 = .ok (.aload_n 0, 1) := by decide +kernel
theorem dX3_init_1 : decode cX3_init 1 = .ok (.invokespecial 3, 3) := by decide +kernel
theorem dX3_init_4 : decode cX3_init 4 = .ok (.aload_n 0, 1) := by decide +kernel
theorem dX3_init_5 : decode cX3_init 5 = .ok (.sipush 234, 3) := by decide +kernel
theorem dX3_init_8 : decode cX3_init 8 = .ok (.newarray .int, 2) := by decide +kernel
theorem dX3_init_10 : decode cX3_init 10 = .ok (.putfield 11, 3) := by decide +kernel
theorem dX3_init_13 : decode cX3_init 13 = .ok (.aload_n 0, 1) := by decide +kernel
theorem dX3_init_14 : decode cX3_init 14 = .ok (.bipush 30, 2) := by decide +kernel
theorem dX3_init_16 : decode cX3_init 16 = .ok (.newarray .int, 2) := by decide +kernel
theorem dX3_init_18 : decode cX3_init 18 = .ok (.putfield 15, 3) := by decide +kernel
theorem dX3_init_21 : decode cX3_init 21 = .ok (.aload_n 0, 1) := by decide +kernel
theorem dX3_init_22 : decode cX3_init 22 = .ok (.bipush 120, 2) := by decide +kernel
theorem dX3_init_24 : decode cX3_init 24 = .ok (.newarray .int, 2) := by decide +kernel
theorem dX3_init_26 : decode cX3_init 26 = .ok (.putfield 18, 3) := by decide +kernel
theorem dX3_init_29 : decode cX3_init 29 = .ok (.aload_n 0, 1) := by decide +kernel
theorem dX3_init_30 : decode cX3_init 30 = .ok (.bipush 6, 2) := by decide +kernel
theorem dX3_init_32 : decode cX3_init 32 = .ok (.newarray .int, 2) := by decide +kernel
theorem dX3_init_34 : decode cX3_init 34 = .ok (.putfield 21, 3) := by decide +kernel
theorem dX3_init_37 : decode cX3_init 37 = .ok (.aload_n 0, 1) := by decide +kernel
theorem dX3_init_38 : decode cX3_init 38 = .ok (.bipush 6, 2) := by decide +kernel
theorem dX3_init_40 : decode cX3_init 40 = .ok (.newarray .int, 2) := by decide +kernel
theorem dX3_init_42 : decode cX3_init 42 = .ok (.putfield 24, 3) := by decide +kernel
theorem dX3_init_45 : decode cX3_init 45 = .ok (.aload_n 0, 1) := by decide +kernel
theorem dX3_init_46 : decode cX3_init 46 = .ok (.bipush 120, 2) := by decide +kernel
theorem dX3_init_48 : decode cX3_init 48 = .ok (.newarray .int, 2) := by decide +kernel
theorem dX3_init_50 : decode cX3_init 50 = .ok (.putfield 27, 3) := by decide +kernel
theorem dX3_init_53 : decode cX3_init 53 = .ok (.aload_n 0, 1) := by decide +kernel
theorem dX3_init_54 : decode cX3_init 54 = .ok (.bipush 6, 2) := by decide +kernel
theorem dX3_init_56 : decode cX3_init 56 = .ok (.newarray .int, 2) := by decide +kernel
theorem dX3_init_58 : decode cX3_init 58 = .ok (.putfield 30, 3) := by decide +kernel
theorem dX3_init_61 : decode cX3_init 61 = .ok (.aload_n 0, 1) := by decide +kernel
theorem dX3_init_62 : decode cX3_init 62 = .ok (.iconst 0, 1) := by decide +kernel
theorem dX3_init_63 : decode cX3_init 63 = .ok (.putfield 33, 3) := by decide +kernel
theorem dX3_init_66 : decode cX3_init 66 = .ok (.return_, 1) := by decide +kernel
theorem dX3_isMark_0 : decode cX3_isMark 0 = .ok (.iload_n 0, 1) := by decide +kernel
theorem dX3_isMark_1 : decode cX3_isMark 1 = .ok (.ifCond .lt 13, 3) := by decide +kernel
theorem dX3_isMark_4 : decode cX3_isMark 4 = .ok (.iload_n 0, 1) := by decide +kernel
theorem dX3_isMark_5 : decode cX3_isMark 5 = .ok (.bipush 6, 2) := by decide +kernel
theorem dX3_isMark_7 : decode cX3_isMark 7 = .ok (.if_icmp .ge 7, 3) := by decide +kernel
theorem dX3_isMark_10 : decode cX3_isMark 10 = .ok (.iconst 1, 1) := by decide +kernel
theorem dX3_isMark_11 : decode cX3_isMark 11 = .ok (.goto 4, 3) := by decide +kernel
theorem dX3_isMark_14 : decode cX3_isMark 14 = .ok (.iconst 0, 1) := by decide +kernel
theorem dX3_isMark_15 : decode cX3_isMark 15 = .ok (.ireturn, 1) := by decide +kernel
theorem dX3_isCell_0 : decode cX3_isCell 0 = .ok (.iload_n 0, 1) := by decide +kernel
theorem dX3_isCell_1 : decode cX3_isCell 1 = .ok (.ifCond .lt 14, 3) := by decide +kernel
theorem dX3_isCell_4 : decode cX3_isCell 4 = .ok (.iload_n 0, 1) := by decide +kernel
theorem dX3_isCell_5 : decode cX3_isCell 5 = .ok (.sipush 234, 3) := by decide +kernel
theorem dX3_isCell_8 : decode cX3_isCell 8 = .ok (.if_icmp .ge 7, 3) := by decide +kernel
theorem dX3_isCell_11 : decode cX3_isCell 11 = .ok (.iconst 1, 1) := by decide +kernel
theorem dX3_isCell_12 : decode cX3_isCell 12 = .ok (.goto 4, 3) := by decide +kernel
theorem dX3_isCell_15 : decode cX3_isCell 15 = .ok (.iconst 0, 1) := by decide +kernel
theorem dX3_isCell_16 : decode cX3_isCell 16 = .ok (.ireturn, 1) := by decide +kernel
theorem dX3_cell_0 : decode cX3_cell 0 = .ok (.iload_n 1, 1) := by decide +kernel
theorem dX3_cell_1 : decode cX3_cell 1 = .ok (.ifCond .lt 19, 3) := by decide +kernel
theorem dX3_cell_4 : decode cX3_cell 4 = .ok (.iload_n 1, 1) := by decide +kernel
theorem dX3_cell_5 : decode cX3_cell 5 = .ok (.sipush 234, 3) := by decide +kernel
theorem dX3_cell_8 : decode cX3_cell 8 = .ok (.if_icmp .ge 12, 3) := by decide +kernel
theorem dX3_cell_11 : decode cX3_cell 11 = .ok (.aload_n 0, 1) := by decide +kernel
theorem dX3_cell_12 : decode cX3_cell 12 = .ok (.getfield 11, 3) := by decide +kernel
theorem dX3_cell_15 : decode cX3_cell 15 = .ok (.iload_n 1, 1) := by decide +kernel
theorem dX3_cell_16 : decode cX3_cell 16 = .ok (.iaload, 1) := by decide +kernel
theorem dX3_cell_17 : decode cX3_cell 17 = .ok (.goto 4, 3) := by decide +kernel
theorem dX3_cell_20 : decode cX3_cell 20 = .ok (.iconst 0, 1) := by decide +kernel
theorem dX3_cell_21 : decode cX3_cell 21 = .ok (.ireturn, 1) := by decide +kernel
theorem dX3_setCell_0 : decode cX3_setCell 0 = .ok (.iload_n 1, 1) := by decide +kernel
theorem dX3_setCell_1 : decode cX3_setCell 1 = .ok (.ifCond .lt 17, 3) := by decide +kernel
theorem dX3_setCell_4 : decode cX3_setCell 4 = .ok (.iload_n 1, 1) := by decide +kernel
theorem dX3_setCell_5 : decode cX3_setCell 5 = .ok (.sipush 234, 3) := by decide +kernel
theorem dX3_setCell_8 : decode cX3_setCell 8 = .ok (.if_icmp .ge 10, 3) := by decide +kernel
theorem dX3_setCell_11 : decode cX3_setCell 11 = .ok (.aload_n 0, 1) := by decide +kernel
theorem dX3_setCell_12 : decode cX3_setCell 12 = .ok (.getfield 11, 3) := by decide +kernel
theorem dX3_setCell_15 : decode cX3_setCell 15 = .ok (.iload_n 1, 1) := by decide +kernel
theorem dX3_setCell_16 : decode cX3_setCell 16 = .ok (.iload_n 2, 1) := by decide +kernel
theorem dX3_setCell_17 : decode cX3_setCell 17 = .ok (.iastore, 1) := by decide +kernel
theorem dX3_setCell_18 : decode cX3_setCell 18 = .ok (.return_, 1) := by decide +kernel
theorem dX3_fed_0 : decode cX3_fed 0 = .ok (.iload_n 1, 1) := by decide +kernel
theorem dX3_fed_1 : decode cX3_fed 1 = .ok (.invokestatic 37, 3) := by decide +kernel
theorem dX3_fed_4 : decode cX3_fed 4 = .ok (.ifCond .eq 12, 3) := by decide +kernel
theorem dX3_fed_7 : decode cX3_fed 7 = .ok (.aload_n 0, 1) := by decide +kernel
theorem dX3_fed_8 : decode cX3_fed 8 = .ok (.getfield 21, 3) := by decide +kernel
theorem dX3_fed_11 : decode cX3_fed 11 = .ok (.iload_n 1, 1) := by decide +kernel
theorem dX3_fed_12 : decode cX3_fed 12 = .ok (.iaload, 1) := by decide +kernel
theorem dX3_fed_13 : decode cX3_fed 13 = .ok (.goto 4, 3) := by decide +kernel
theorem dX3_fed_16 : decode cX3_fed 16 = .ok (.iconst 0, 1) := by decide +kernel
theorem dX3_fed_17 : decode cX3_fed 17 = .ok (.ireturn, 1) := by decide +kernel
theorem dX3_addInput_0 : decode cX3_addInput 0 = .ok (.iload_n 1, 1) := by decide +kernel
theorem dX3_addInput_1 : decode cX3_addInput 1 = .ok (.invokestatic 37, 3) := by decide +kernel
theorem dX3_addInput_4 : decode cX3_addInput 4 = .ok (.ifCond .eq 41, 3) := by decide +kernel
theorem dX3_addInput_7 : decode cX3_addInput 7 = .ok (.aload_n 0, 1) := by decide +kernel
theorem dX3_addInput_8 : decode cX3_addInput 8 = .ok (.getfield 21, 3) := by decide +kernel
theorem dX3_addInput_11 : decode cX3_addInput 11 = .ok (.iload_n 1, 1) := by decide +kernel
theorem dX3_addInput_12 : decode cX3_addInput 12 = .ok (.iaload, 1) := by decide +kernel
theorem dX3_addInput_13 : decode cX3_addInput 13 = .ok (.bipush 20, 2) := by decide +kernel
theorem dX3_addInput_15 : decode cX3_addInput 15 = .ok (.if_icmp .ge 30, 3) := by decide +kernel
theorem dX3_addInput_18 : decode cX3_addInput 18 = .ok (.aload_n 0, 1) := by decide +kernel
theorem dX3_addInput_19 : decode cX3_addInput 19 = .ok (.getfield 18, 3) := by decide +kernel
theorem dX3_addInput_22 : decode cX3_addInput 22 = .ok (.iload_n 1, 1) := by decide +kernel
theorem dX3_addInput_23 : decode cX3_addInput 23 = .ok (.bipush 20, 2) := by decide +kernel
theorem dX3_addInput_25 : decode cX3_addInput 25 = .ok (.imul, 1) := by decide +kernel
theorem dX3_addInput_26 : decode cX3_addInput 26 = .ok (.aload_n 0, 1) := by decide +kernel
theorem dX3_addInput_27 : decode cX3_addInput 27 = .ok (.getfield 21, 3) := by decide +kernel
theorem dX3_addInput_30 : decode cX3_addInput 30 = .ok (.iload_n 1, 1) := by decide +kernel
theorem dX3_addInput_31 : decode cX3_addInput 31 = .ok (.iaload, 1) := by decide +kernel
theorem dX3_addInput_32 : decode cX3_addInput 32 = .ok (.iadd, 1) := by decide +kernel
theorem dX3_addInput_33 : decode cX3_addInput 33 = .ok (.iload_n 2, 1) := by decide +kernel
theorem dX3_addInput_34 : decode cX3_addInput 34 = .ok (.iastore, 1) := by decide +kernel
theorem dX3_addInput_35 : decode cX3_addInput 35 = .ok (.aload_n 0, 1) := by decide +kernel
theorem dX3_addInput_36 : decode cX3_addInput 36 = .ok (.getfield 21, 3) := by decide +kernel
theorem dX3_addInput_39 : decode cX3_addInput 39 = .ok (.iload_n 1, 1) := by decide +kernel
theorem dX3_addInput_40 : decode cX3_addInput 40 = .ok (.dup2, 1) := by decide +kernel
theorem dX3_addInput_41 : decode cX3_addInput 41 = .ok (.iaload, 1) := by decide +kernel
theorem dX3_addInput_42 : decode cX3_addInput 42 = .ok (.iconst 1, 1) := by decide +kernel
theorem dX3_addInput_43 : decode cX3_addInput 43 = .ok (.iadd, 1) := by decide +kernel
theorem dX3_addInput_44 : decode cX3_addInput 44 = .ok (.iastore, 1) := by decide +kernel
theorem dX3_addInput_45 : decode cX3_addInput 45 = .ok (.return_, 1) := by decide +kernel
theorem dX3_emptyInput_0 : decode cX3_emptyInput 0 = .ok (.iload_n 1, 1) := by decide +kernel
theorem dX3_emptyInput_1 : decode cX3_emptyInput 1 = .ok (.invokestatic 37, 3) := by decide +kernel
theorem dX3_emptyInput_4 : decode cX3_emptyInput 4 = .ok (.ifCond .eq 10, 3) := by decide +kernel
theorem dX3_emptyInput_7 : decode cX3_emptyInput 7 = .ok (.aload_n 0, 1) := by decide +kernel
theorem dX3_emptyInput_8 : decode cX3_emptyInput 8 = .ok (.getfield 21, 3) := by decide +kernel
theorem dX3_emptyInput_11 : decode cX3_emptyInput 11 = .ok (.iload_n 1, 1) := by decide +kernel
theorem dX3_emptyInput_12 : decode cX3_emptyInput 12 = .ok (.iconst 0, 1) := by decide +kernel
theorem dX3_emptyInput_13 : decode cX3_emptyInput 13 = .ok (.iastore, 1) := by decide +kernel
theorem dX3_emptyInput_14 : decode cX3_emptyInput 14 = .ok (.return_, 1) := by decide +kernel
theorem dX3_written_0 : decode cX3_written 0 = .ok (.iload_n 1, 1) := by decide +kernel
theorem dX3_written_1 : decode cX3_written 1 = .ok (.invokestatic 37, 3) := by decide +kernel
theorem dX3_written_4 : decode cX3_written 4 = .ok (.ifCond .eq 12, 3) := by decide +kernel
theorem dX3_written_7 : decode cX3_written 7 = .ok (.aload_n 0, 1) := by decide +kernel
theorem dX3_written_8 : decode cX3_written 8 = .ok (.getfield 30, 3) := by decide +kernel
theorem dX3_written_11 : decode cX3_written 11 = .ok (.iload_n 1, 1) := by decide +kernel
theorem dX3_written_12 : decode cX3_written 12 = .ok (.iaload, 1) := by decide +kernel
theorem dX3_written_13 : decode cX3_written 13 = .ok (.goto 4, 3) := by decide +kernel
theorem dX3_written_16 : decode cX3_written 16 = .ok (.iconst 0, 1) := by decide +kernel
theorem dX3_written_17 : decode cX3_written 17 = .ok (.ireturn, 1) := by decide +kernel
theorem dX3_numberPut_0 : decode cX3_numberPut 0 = .ok (.iload_n 2, 1) := by decide +kernel
theorem dX3_numberPut_1 : decode cX3_numberPut 1 = .ok (.ifCond .lt 26, 3) := by decide +kernel
theorem dX3_numberPut_4 : decode cX3_numberPut 4 = .ok (.iload_n 2, 1) := by decide +kernel
theorem dX3_numberPut_5 : decode cX3_numberPut 5 = .ok (.aload_n 0, 1) := by decide +kernel
theorem dX3_numberPut_6 : decode cX3_numberPut 6 = .ok (.iload_n 1, 1) := by decide +kernel
theorem dX3_numberPut_7 : decode cX3_numberPut 7 = .ok (.invokevirtual 41, 3) := by decide +kernel
theorem dX3_numberPut_10 : decode cX3_numberPut 10 = .ok (.if_icmp .ge 17, 3) := by decide +kernel
theorem dX3_numberPut_13 : decode cX3_numberPut 13 = .ok (.aload_n 0, 1) := by decide +kernel
theorem dX3_numberPut_14 : decode cX3_numberPut 14 = .ok (.getfield 27, 3) := by decide +kernel
theorem dX3_numberPut_17 : decode cX3_numberPut 17 = .ok (.iload_n 1, 1) := by decide +kernel
theorem dX3_numberPut_18 : decode cX3_numberPut 18 = .ok (.bipush 20, 2) := by decide +kernel
theorem dX3_numberPut_20 : decode cX3_numberPut 20 = .ok (.imul, 1) := by decide +kernel
theorem dX3_numberPut_21 : decode cX3_numberPut 21 = .ok (.iload_n 2, 1) := by decide +kernel
theorem dX3_numberPut_22 : decode cX3_numberPut 22 = .ok (.iadd, 1) := by decide +kernel
theorem dX3_numberPut_23 : decode cX3_numberPut 23 = .ok (.iaload, 1) := by decide +kernel
theorem dX3_numberPut_24 : decode cX3_numberPut 24 = .ok (.goto 4, 3) := by decide +kernel
theorem dX3_numberPut_27 : decode cX3_numberPut 27 = .ok (.iconst 0, 1) := by decide +kernel
theorem dX3_numberPut_28 : decode cX3_numberPut 28 = .ok (.ireturn, 1) := by decide +kernel
theorem dX3_fuelTaken_0 : decode cX3_fuelTaken 0 = .ok (.aload_n 0, 1) := by decide +kernel
theorem dX3_fuelTaken_1 : decode cX3_fuelTaken 1 = .ok (.getfield 44, 3) := by decide +kernel
theorem dX3_fuelTaken_4 : decode cX3_fuelTaken 4 = .ok (.ireturn, 1) := by decide +kernel
theorem dX3_ending_0 : decode cX3_ending 0 = .ok (.aload_n 0, 1) := by decide +kernel
theorem dX3_ending_1 : decode cX3_ending 1 = .ok (.getfield 33, 3) := by decide +kernel
theorem dX3_ending_4 : decode cX3_ending 4 = .ok (.ireturn, 1) := by decide +kernel
theorem dX3_start_0 : decode cX3_start 0 = .ok (.aload_n 0, 1) := by decide +kernel
theorem dX3_start_1 : decode cX3_start 1 = .ok (.getfield 11, 3) := by decide +kernel
theorem dX3_start_4 : decode cX3_start 4 = .ok (.iconst 0, 1) := by decide +kernel
theorem dX3_start_5 : decode cX3_start 5 = .ok (.invokestatic 47, 3) := by decide +kernel
theorem dX3_start_8 : decode cX3_start 8 = .ok (.aload_n 0, 1) := by decide +kernel
theorem dX3_start_9 : decode cX3_start 9 = .ok (.getfield 24, 3) := by decide +kernel
theorem dX3_start_12 : decode cX3_start 12 = .ok (.iconst 0, 1) := by decide +kernel
theorem dX3_start_13 : decode cX3_start 13 = .ok (.invokestatic 47, 3) := by decide +kernel
theorem dX3_start_16 : decode cX3_start 16 = .ok (.aload_n 0, 1) := by decide +kernel
theorem dX3_start_17 : decode cX3_start 17 = .ok (.getfield 30, 3) := by decide +kernel
theorem dX3_start_20 : decode cX3_start 20 = .ok (.iconst 0, 1) := by decide +kernel
theorem dX3_start_21 : decode cX3_start 21 = .ok (.invokestatic 47, 3) := by decide +kernel
theorem dX3_start_24 : decode cX3_start 24 = .ok (.aload_n 0, 1) := by decide +kernel
theorem dX3_start_25 : decode cX3_start 25 = .ok (.iconst 0, 1) := by decide +kernel
theorem dX3_start_26 : decode cX3_start 26 = .ok (.putfield 53, 3) := by decide +kernel
theorem dX3_start_29 : decode cX3_start 29 = .ok (.aload_n 0, 1) := by decide +kernel
theorem dX3_start_30 : decode cX3_start 30 = .ok (.iload_n 1, 1) := by decide +kernel
theorem dX3_start_31 : decode cX3_start 31 = .ok (.putfield 56, 3) := by decide +kernel
theorem dX3_start_34 : decode cX3_start 34 = .ok (.aload_n 0, 1) := by decide +kernel
theorem dX3_start_35 : decode cX3_start 35 = .ok (.iconst 0, 1) := by decide +kernel
theorem dX3_start_36 : decode cX3_start 36 = .ok (.putfield 44, 3) := by decide +kernel
theorem dX3_start_39 : decode cX3_start 39 = .ok (.aload_n 0, 1) := by decide +kernel
theorem dX3_start_40 : decode cX3_start 40 = .ok (.iconst (-1), 1) := by decide +kernel
theorem dX3_start_41 : decode cX3_start 41 = .ok (.putfield 33, 3) := by decide +kernel
theorem dX3_start_44 : decode cX3_start 44 = .ok (.return_, 1) := by decide +kernel
theorem dX3_goesOn_0 : decode cX3_goesOn 0 = .ok (.aload_n 0, 1) := by decide +kernel
theorem dX3_goesOn_1 : decode cX3_goesOn 1 = .ok (.getfield 33, 3) := by decide +kernel
theorem dX3_goesOn_4 : decode cX3_goesOn 4 = .ok (.iconst (-1), 1) := by decide +kernel
theorem dX3_goesOn_5 : decode cX3_goesOn 5 = .ok (.if_icmp .ne 7, 3) := by decide +kernel
theorem dX3_goesOn_8 : decode cX3_goesOn 8 = .ok (.iconst 1, 1) := by decide +kernel
theorem dX3_goesOn_9 : decode cX3_goesOn 9 = .ok (.goto 4, 3) := by decide +kernel
theorem dX3_goesOn_12 : decode cX3_goesOn 12 = .ok (.iconst 0, 1) := by decide +kernel
theorem dX3_goesOn_13 : decode cX3_goesOn 13 = .ok (.ireturn, 1) := by decide +kernel
theorem dX3_finish_0 : decode cX3_finish 0 = .ok (.aload_n 0, 1) := by decide +kernel
theorem dX3_finish_1 : decode cX3_finish 1 = .ok (.invokevirtual 59, 3) := by decide +kernel
theorem dX3_finish_4 : decode cX3_finish 4 = .ok (.ifCond .eq 8, 3) := by decide +kernel
theorem dX3_finish_7 : decode cX3_finish 7 = .ok (.aload_n 0, 1) := by decide +kernel
theorem dX3_finish_8 : decode cX3_finish 8 = .ok (.iconst 0, 1) := by decide +kernel
theorem dX3_finish_9 : decode cX3_finish 9 = .ok (.putfield 33, 3) := by decide +kernel
theorem dX3_finish_12 : decode cX3_finish 12 = .ok (.return_, 1) := by decide +kernel
theorem dX3_burns_0 : decode cX3_burns 0 = .ok (.aload_n 0, 1) := by decide +kernel
theorem dX3_burns_1 : decode cX3_burns 1 = .ok (.getfield 44, 3) := by decide +kernel
theorem dX3_burns_4 : decode cX3_burns 4 = .ok (.aload_n 0, 1) := by decide +kernel
theorem dX3_burns_5 : decode cX3_burns 5 = .ok (.getfield 56, 3) := by decide +kernel
theorem dX3_burns_8 : decode cX3_burns 8 = .ok (.if_icmp .lt 10, 3) := by decide +kernel
theorem dX3_burns_11 : decode cX3_burns 11 = .ok (.aload_n 0, 1) := by decide +kernel
theorem dX3_burns_12 : decode cX3_burns 12 = .ok (.iconst 3, 1) := by decide +kernel
theorem dX3_burns_13 : decode cX3_burns 13 = .ok (.putfield 33, 3) := by decide +kernel
theorem dX3_burns_16 : decode cX3_burns 16 = .ok (.iconst 0, 1) := by decide +kernel
theorem dX3_burns_17 : decode cX3_burns 17 = .ok (.ireturn, 1) := by decide +kernel
theorem dX3_burns_18 : decode cX3_burns 18 = .ok (.aload_n 0, 1) := by decide +kernel
theorem dX3_burns_19 : decode cX3_burns 19 = .ok (.dup, 1) := by decide +kernel
theorem dX3_burns_20 : decode cX3_burns 20 = .ok (.getfield 44, 3) := by decide +kernel
theorem dX3_burns_23 : decode cX3_burns 23 = .ok (.iconst 1, 1) := by decide +kernel
theorem dX3_burns_24 : decode cX3_burns 24 = .ok (.iadd, 1) := by decide +kernel
theorem dX3_burns_25 : decode cX3_burns 25 = .ok (.putfield 44, 3) := by decide +kernel
theorem dX3_burns_28 : decode cX3_burns 28 = .ok (.iconst 1, 1) := by decide +kernel
theorem dX3_burns_29 : decode cX3_burns 29 = .ok (.ireturn, 1) := by decide +kernel
theorem dX3_pop_0 : decode cX3_pop 0 = .ok (.aload_n 0, 1) := by decide +kernel
theorem dX3_pop_1 : decode cX3_pop 1 = .ok (.getfield 53, 3) := by decide +kernel
theorem dX3_pop_4 : decode cX3_pop 4 = .ok (.ifCond .gt 5, 3) := by decide +kernel
theorem dX3_pop_7 : decode cX3_pop 7 = .ok (.iconst 0, 1) := by decide +kernel
theorem dX3_pop_8 : decode cX3_pop 8 = .ok (.ireturn, 1) := by decide +kernel
theorem dX3_pop_9 : decode cX3_pop 9 = .ok (.aload_n 0, 1) := by decide +kernel
theorem dX3_pop_10 : decode cX3_pop 10 = .ok (.dup, 1) := by decide +kernel
theorem dX3_pop_11 : decode cX3_pop 11 = .ok (.getfield 53, 3) := by decide +kernel
theorem dX3_pop_14 : decode cX3_pop 14 = .ok (.iconst 1, 1) := by decide +kernel
theorem dX3_pop_15 : decode cX3_pop 15 = .ok (.isub, 1) := by decide +kernel
theorem dX3_pop_16 : decode cX3_pop 16 = .ok (.putfield 53, 3) := by decide +kernel
theorem dX3_pop_19 : decode cX3_pop 19 = .ok (.aload_n 0, 1) := by decide +kernel
theorem dX3_pop_20 : decode cX3_pop 20 = .ok (.getfield 15, 3) := by decide +kernel
theorem dX3_pop_23 : decode cX3_pop 23 = .ok (.aload_n 0, 1) := by decide +kernel
theorem dX3_pop_24 : decode cX3_pop 24 = .ok (.getfield 53, 3) := by decide +kernel
theorem dX3_pop_27 : decode cX3_pop 27 = .ok (.iaload, 1) := by decide +kernel
theorem dX3_pop_28 : decode cX3_pop 28 = .ok (.ireturn, 1) := by decide +kernel
theorem dX3_push_0 : decode cX3_push 0 = .ok (.aload_n 0, 1) := by decide +kernel
theorem dX3_push_1 : decode cX3_push 1 = .ok (.getfield 53, 3) := by decide +kernel
theorem dX3_push_4 : decode cX3_push 4 = .ok (.bipush 30, 2) := by decide +kernel
theorem dX3_push_6 : decode cX3_push 6 = .ok (.if_icmp .ge 23, 3) := by decide +kernel
theorem dX3_push_9 : decode cX3_push 9 = .ok (.aload_n 0, 1) := by decide +kernel
theorem dX3_push_10 : decode cX3_push 10 = .ok (.getfield 15, 3) := by decide +kernel
theorem dX3_push_13 : decode cX3_push 13 = .ok (.aload_n 0, 1) := by decide +kernel
theorem dX3_push_14 : decode cX3_push 14 = .ok (.getfield 53, 3) := by decide +kernel
theorem dX3_push_17 : decode cX3_push 17 = .ok (.iload_n 1, 1) := by decide +kernel
theorem dX3_push_18 : decode cX3_push 18 = .ok (.iastore, 1) := by decide +kernel
theorem dX3_push_19 : decode cX3_push 19 = .ok (.aload_n 0, 1) := by decide +kernel
theorem dX3_push_20 : decode cX3_push 20 = .ok (.dup, 1) := by decide +kernel
theorem dX3_push_21 : decode cX3_push 21 = .ok (.getfield 53, 3) := by decide +kernel
theorem dX3_push_24 : decode cX3_push 24 = .ok (.iconst 1, 1) := by decide +kernel
theorem dX3_push_25 : decode cX3_push 25 = .ok (.iadd, 1) := by decide +kernel
theorem dX3_push_26 : decode cX3_push 26 = .ok (.putfield 53, 3) := by decide +kernel
theorem dX3_push_29 : decode cX3_push 29 = .ok (.return_, 1) := by decide +kernel
theorem dX3_goOver_0 : decode cX3_goOver 0 = .ok (.iconst 0, 1) := by decide +kernel
theorem dX3_goOver_1 : decode cX3_goOver 1 = .ok (.istore_n 2, 1) := by decide +kernel
theorem dX3_goOver_2 : decode cX3_goOver 2 = .ok (.iconst 0, 1) := by decide +kernel
theorem dX3_goOver_3 : decode cX3_goOver 3 = .ok (.istore_n 3, 1) := by decide +kernel
theorem dX3_goOver_4 : decode cX3_goOver 4 = .ok (.iload_n 3, 1) := by decide +kernel
theorem dX3_goOver_5 : decode cX3_goOver 5 = .ok (.sipush 600, 3) := by decide +kernel
theorem dX3_goOver_8 : decode cX3_goOver 8 = .ok (.if_icmp .gt 39, 3) := by decide +kernel
theorem dX3_goOver_11 : decode cX3_goOver 11 = .ok (.aload_n 0, 1) := by decide +kernel
theorem dX3_goOver_12 : decode cX3_goOver 12 = .ok (.invokevirtual 59, 3) := by decide +kernel
theorem dX3_goOver_15 : decode cX3_goOver 15 = .ok (.ifCond .eq 32, 3) := by decide +kernel
theorem dX3_goOver_18 : decode cX3_goOver 18 = .ok (.aload_n 0, 1) := by decide +kernel
theorem dX3_goOver_19 : decode cX3_goOver 19 = .ok (.invokevirtual 63, 3) := by decide +kernel
theorem dX3_goOver_22 : decode cX3_goOver 22 = .ok (.ifCond .eq 25, 3) := by decide +kernel
theorem dX3_goOver_25 : decode cX3_goOver 25 = .ok (.aload_n 0, 1) := by decide +kernel
theorem dX3_goOver_26 : decode cX3_goOver 26 = .ok (.aload_n 1, 1) := by decide +kernel
theorem dX3_goOver_27 : decode cX3_goOver 27 = .ok (.iload_n 2, 1) := by decide +kernel
theorem dX3_goOver_28 : decode cX3_goOver 28 = .ok (.invokevirtual 66, 3) := by decide +kernel
theorem dX3_goOver_31 : decode cX3_goOver 31 = .ok (.aload_n 1, 1) := by decide +kernel
theorem dX3_goOver_32 : decode cX3_goOver 32 = .ok (.iload_n 2, 1) := by decide +kernel
theorem dX3_goOver_33 : decode cX3_goOver 33 = .ok (.invokevirtual 71, 3) := by decide +kernel
theorem dX3_goOver_36 : decode cX3_goOver 36 = .ok (.iload_n 2, 1) := by decide +kernel
theorem dX3_goOver_37 : decode cX3_goOver 37 = .ok (.invokevirtual 74, 3) := by decide +kernel
theorem dX3_goOver_40 : decode cX3_goOver 40 = .ok (.istore_n 2, 1) := by decide +kernel
theorem dX3_goOver_41 : decode cX3_goOver 41 = .ok (.iinc 3 1, 3) := by decide +kernel
theorem dX3_goOver_44 : decode cX3_goOver 44 = .ok (.goto (-40), 3) := by decide +kernel
theorem dX3_goOver_47 : decode cX3_goOver 47 = .ok (.return_, 1) := by decide +kernel
theorem dX3_step_0 : decode cX3_step 0 = .ok (.iload_n 1, 1) := by decide +kernel
theorem dX3_step_1 : decode cX3_step 1 = .ok (.tableswitch 58 11 15 #[35, 50, 58, 58, 52], 35) := by decide +kernel
theorem dX3_step_36 : decode cX3_step 36 = .ok (.aload_n 0, 1) := by decide +kernel
theorem dX3_step_37 : decode cX3_step 37 = .ok (.invokevirtual 78, 3) := by decide +kernel
theorem dX3_step_40 : decode cX3_step 40 = .ok (.ifCond .ne 7, 3) := by decide +kernel
theorem dX3_step_43 : decode cX3_step 43 = .ok (.iload_n 2, 1) := by decide +kernel
theorem dX3_step_44 : decode cX3_step 44 = .ok (.goto 6, 3) := by decide +kernel
theorem dX3_step_47 : decode cX3_step 47 = .ok (.iload_n 3, 1) := by decide +kernel
theorem dX3_step_48 : decode cX3_step 48 = .ok (.iconst 1, 1) := by decide +kernel
theorem dX3_step_49 : decode cX3_step 49 = .ok (.iadd, 1) := by decide +kernel
theorem dX3_step_50 : decode cX3_step 50 = .ok (.ireturn, 1) := by decide +kernel
theorem dX3_step_51 : decode cX3_step 51 = .ok (.iload_n 2, 1) := by decide +kernel
theorem dX3_step_52 : decode cX3_step 52 = .ok (.ireturn, 1) := by decide +kernel
theorem dX3_step_53 : decode cX3_step 53 = .ok (.aload_n 0, 1) := by decide +kernel
theorem dX3_step_54 : decode cX3_step 54 = .ok (.invokevirtual 82, 3) := by decide +kernel
theorem dX3_step_57 : decode cX3_step 57 = .ok (.iload_n 3, 1) := by decide +kernel
theorem dX3_step_58 : decode cX3_step 58 = .ok (.ireturn, 1) := by decide +kernel
theorem dX3_step_59 : decode cX3_step 59 = .ok (.aload_n 0, 1) := by decide +kernel
theorem dX3_step_60 : decode cX3_step 60 = .ok (.iload_n 1, 1) := by decide +kernel
theorem dX3_step_61 : decode cX3_step 61 = .ok (.iload_n 2, 1) := by decide +kernel
theorem dX3_step_62 : decode cX3_step 62 = .ok (.invokevirtual 85, 3) := by decide +kernel
theorem dX3_step_65 : decode cX3_step 65 = .ok (.iload_n 3, 1) := by decide +kernel
theorem dX3_step_66 : decode cX3_step 66 = .ok (.iconst 1, 1) := by decide +kernel
theorem dX3_step_67 : decode cX3_step 67 = .ok (.iadd, 1) := by decide +kernel
theorem dX3_step_68 : decode cX3_step 68 = .ok (.ireturn, 1) := by decide +kernel
theorem dX3_perform_0 : decode cX3_perform 0 = .ok (.iload_n 1, 1) := by decide +kernel
theorem dX3_perform_1 : decode cX3_perform 1 = .ok (.tableswitch 159 0 14 #[75, 83, 95, 107, 119, 159, 159, 159, 159, 159, 159, 159, 159, 135, 147], 75) := by decide +kernel
theorem dX3_perform_76 : decode cX3_perform 76 = .ok (.aload_n 0, 1) := by decide +kernel
theorem dX3_perform_77 : decode cX3_perform 77 = .ok (.iload_n 2, 1) := by decide +kernel
theorem dX3_perform_78 : decode cX3_perform 78 = .ok (.invokevirtual 89, 3) := by decide +kernel
theorem dX3_perform_81 : decode cX3_perform 81 = .ok (.goto 92, 3) := by decide +kernel
theorem dX3_perform_84 : decode cX3_perform 84 = .ok (.aload_n 0, 1) := by decide +kernel
theorem dX3_perform_85 : decode cX3_perform 85 = .ok (.aload_n 0, 1) := by decide +kernel
theorem dX3_perform_86 : decode cX3_perform 86 = .ok (.iload_n 2, 1) := by decide +kernel
theorem dX3_perform_87 : decode cX3_perform 87 = .ok (.invokevirtual 93, 3) := by decide +kernel
theorem dX3_perform_90 : decode cX3_perform 90 = .ok (.invokevirtual 89, 3) := by decide +kernel
theorem dX3_perform_93 : decode cX3_perform 93 = .ok (.goto 80, 3) := by decide +kernel
theorem dX3_perform_96 : decode cX3_perform 96 = .ok (.aload_n 0, 1) := by decide +kernel
theorem dX3_perform_97 : decode cX3_perform 97 = .ok (.iload_n 2, 1) := by decide +kernel
theorem dX3_perform_98 : decode cX3_perform 98 = .ok (.aload_n 0, 1) := by decide +kernel
theorem dX3_perform_99 : decode cX3_perform 99 = .ok (.invokevirtual 78, 3) := by decide +kernel
theorem dX3_perform_102 : decode cX3_perform 102 = .ok (.invokevirtual 96, 3) := by decide +kernel
theorem dX3_perform_105 : decode cX3_perform 105 = .ok (.goto 68, 3) := by decide +kernel
theorem dX3_perform_108 : decode cX3_perform 108 = .ok (.aload_n 0, 1) := by decide +kernel
theorem dX3_perform_109 : decode cX3_perform 109 = .ok (.iload_n 2, 1) := by decide +kernel
theorem dX3_perform_110 : decode cX3_perform 110 = .ok (.aload_n 0, 1) := by decide +kernel
theorem dX3_perform_111 : decode cX3_perform 111 = .ok (.invokevirtual 78, 3) := by decide +kernel
theorem dX3_perform_114 : decode cX3_perform 114 = .ok (.invokevirtual 99, 3) := by decide +kernel
theorem dX3_perform_117 : decode cX3_perform 117 = .ok (.goto 56, 3) := by decide +kernel
theorem dX3_perform_120 : decode cX3_perform 120 = .ok (.aload_n 0, 1) := by decide +kernel
theorem dX3_perform_121 : decode cX3_perform 121 = .ok (.iload_n 2, 1) := by decide +kernel
theorem dX3_perform_122 : decode cX3_perform 122 = .ok (.aload_n 0, 1) := by decide +kernel
theorem dX3_perform_123 : decode cX3_perform 123 = .ok (.invokevirtual 78, 3) := by decide +kernel
theorem dX3_perform_126 : decode cX3_perform 126 = .ok (.aload_n 0, 1) := by decide +kernel
theorem dX3_perform_127 : decode cX3_perform 127 = .ok (.invokevirtual 78, 3) := by decide +kernel
theorem dX3_perform_130 : decode cX3_perform 130 = .ok (.invokevirtual 102, 3) := by decide +kernel
theorem dX3_perform_133 : decode cX3_perform 133 = .ok (.goto 40, 3) := by decide +kernel
theorem dX3_perform_136 : decode cX3_perform 136 = .ok (.aload_n 0, 1) := by decide +kernel
theorem dX3_perform_137 : decode cX3_perform 137 = .ok (.aload_n 0, 1) := by decide +kernel
theorem dX3_perform_138 : decode cX3_perform 138 = .ok (.iload_n 2, 1) := by decide +kernel
theorem dX3_perform_139 : decode cX3_perform 139 = .ok (.invokevirtual 106, 3) := by decide +kernel
theorem dX3_perform_142 : decode cX3_perform 142 = .ok (.invokevirtual 89, 3) := by decide +kernel
theorem dX3_perform_145 : decode cX3_perform 145 = .ok (.goto 28, 3) := by decide +kernel
theorem dX3_perform_148 : decode cX3_perform 148 = .ok (.aload_n 0, 1) := by decide +kernel
theorem dX3_perform_149 : decode cX3_perform 149 = .ok (.iload_n 2, 1) := by decide +kernel
theorem dX3_perform_150 : decode cX3_perform 150 = .ok (.aload_n 0, 1) := by decide +kernel
theorem dX3_perform_151 : decode cX3_perform 151 = .ok (.invokevirtual 78, 3) := by decide +kernel
theorem dX3_perform_154 : decode cX3_perform 154 = .ok (.invokevirtual 109, 3) := by decide +kernel
theorem dX3_perform_157 : decode cX3_perform 157 = .ok (.goto 16, 3) := by decide +kernel
theorem dX3_perform_160 : decode cX3_perform 160 = .ok (.aload_n 0, 1) := by decide +kernel
theorem dX3_perform_161 : decode cX3_perform 161 = .ok (.iload_n 1, 1) := by decide +kernel
theorem dX3_perform_162 : decode cX3_perform 162 = .ok (.aload_n 0, 1) := by decide +kernel
theorem dX3_perform_163 : decode cX3_perform 163 = .ok (.invokevirtual 78, 3) := by decide +kernel
theorem dX3_perform_166 : decode cX3_perform 166 = .ok (.aload_n 0, 1) := by decide +kernel
theorem dX3_perform_167 : decode cX3_perform 167 = .ok (.invokevirtual 78, 3) := by decide +kernel
theorem dX3_perform_170 : decode cX3_perform 170 = .ok (.invokevirtual 112, 3) := by decide +kernel
theorem dX3_perform_173 : decode cX3_perform 173 = .ok (.return_, 1) := by decide +kernel
theorem dX3_getFromRow_0 : decode cX3_getFromRow 0 = .ok (.iload_n 2, 1) := by decide +kernel
theorem dX3_getFromRow_1 : decode cX3_getFromRow 1 = .ok (.ifCond .lt 9, 3) := by decide +kernel
theorem dX3_getFromRow_4 : decode cX3_getFromRow 4 = .ok (.iload_n 2, 1) := by decide +kernel
theorem dX3_getFromRow_5 : decode cX3_getFromRow 5 = .ok (.bipush 8, 2) := by decide +kernel
theorem dX3_getFromRow_7 : decode cX3_getFromRow 7 = .ok (.if_icmp .lt 11, 3) := by decide +kernel
theorem dX3_getFromRow_10 : decode cX3_getFromRow 10 = .ok (.aload_n 0, 1) := by decide +kernel
theorem dX3_getFromRow_11 : decode cX3_getFromRow 11 = .ok (.iconst 2, 1) := by decide +kernel
theorem dX3_getFromRow_12 : decode cX3_getFromRow 12 = .ok (.putfield 33, 3) := by decide +kernel
theorem dX3_getFromRow_15 : decode cX3_getFromRow 15 = .ok (.goto 20, 3) := by decide +kernel
theorem dX3_getFromRow_18 : decode cX3_getFromRow 18 = .ok (.aload_n 0, 1) := by decide +kernel
theorem dX3_getFromRow_19 : decode cX3_getFromRow 19 = .ok (.aload_n 0, 1) := by decide +kernel
theorem dX3_getFromRow_20 : decode cX3_getFromRow 20 = .ok (.bipush 26, 2) := by decide +kernel
theorem dX3_getFromRow_22 : decode cX3_getFromRow 22 = .ok (.iload_n 1, 1) := by decide +kernel
theorem dX3_getFromRow_23 : decode cX3_getFromRow 23 = .ok (.bipush 8, 2) := by decide +kernel
theorem dX3_getFromRow_25 : decode cX3_getFromRow 25 = .ok (.imul, 1) := by decide +kernel
theorem dX3_getFromRow_26 : decode cX3_getFromRow 26 = .ok (.iadd, 1) := by decide +kernel
theorem dX3_getFromRow_27 : decode cX3_getFromRow 27 = .ok (.iload_n 2, 1) := by decide +kernel
theorem dX3_getFromRow_28 : decode cX3_getFromRow 28 = .ok (.iadd, 1) := by decide +kernel
theorem dX3_getFromRow_29 : decode cX3_getFromRow 29 = .ok (.invokevirtual 93, 3) := by decide +kernel
theorem dX3_getFromRow_32 : decode cX3_getFromRow 32 = .ok (.invokevirtual 89, 3) := by decide +kernel
theorem dX3_getFromRow_35 : decode cX3_getFromRow 35 = .ok (.return_, 1) := by decide +kernel
theorem dX3_setInRow_0 : decode cX3_setInRow 0 = .ok (.iload_n 3, 1) := by decide +kernel
theorem dX3_setInRow_1 : decode cX3_setInRow 1 = .ok (.ifCond .lt 9, 3) := by decide +kernel
theorem dX3_setInRow_4 : decode cX3_setInRow 4 = .ok (.iload_n 3, 1) := by decide +kernel
theorem dX3_setInRow_5 : decode cX3_setInRow 5 = .ok (.bipush 8, 2) := by decide +kernel
theorem dX3_setInRow_7 : decode cX3_setInRow 7 = .ok (.if_icmp .lt 11, 3) := by decide +kernel
theorem dX3_setInRow_10 : decode cX3_setInRow 10 = .ok (.aload_n 0, 1) := by decide +kernel
theorem dX3_setInRow_11 : decode cX3_setInRow 11 = .ok (.iconst 2, 1) := by decide +kernel
theorem dX3_setInRow_12 : decode cX3_setInRow 12 = .ok (.putfield 33, 3) := by decide +kernel
theorem dX3_setInRow_15 : decode cX3_setInRow 15 = .ok (.goto 17, 3) := by decide +kernel
theorem dX3_setInRow_18 : decode cX3_setInRow 18 = .ok (.aload_n 0, 1) := by decide +kernel
theorem dX3_setInRow_19 : decode cX3_setInRow 19 = .ok (.bipush 26, 2) := by decide +kernel
theorem dX3_setInRow_21 : decode cX3_setInRow 21 = .ok (.iload_n 1, 1) := by decide +kernel
theorem dX3_setInRow_22 : decode cX3_setInRow 22 = .ok (.bipush 8, 2) := by decide +kernel
theorem dX3_setInRow_24 : decode cX3_setInRow 24 = .ok (.imul, 1) := by decide +kernel
theorem dX3_setInRow_25 : decode cX3_setInRow 25 = .ok (.iadd, 1) := by decide +kernel
theorem dX3_setInRow_26 : decode cX3_setInRow 26 = .ok (.iload_n 3, 1) := by decide +kernel
theorem dX3_setInRow_27 : decode cX3_setInRow 27 = .ok (.iadd, 1) := by decide +kernel
theorem dX3_setInRow_28 : decode cX3_setInRow 28 = .ok (.iload_n 2, 1) := by decide +kernel
theorem dX3_setInRow_29 : decode cX3_setInRow 29 = .ok (.invokevirtual 96, 3) := by decide +kernel
theorem dX3_setInRow_32 : decode cX3_setInRow 32 = .ok (.return_, 1) := by decide +kernel
theorem dX3_nextInput_0 : decode cX3_nextInput 0 = .ok (.iload_n 1, 1) := by decide +kernel
theorem dX3_nextInput_1 : decode cX3_nextInput 1 = .ok (.invokestatic 37, 3) := by decide +kernel
theorem dX3_nextInput_4 : decode cX3_nextInput 4 = .ok (.ifCond .eq 18, 3) := by decide +kernel
theorem dX3_nextInput_7 : decode cX3_nextInput 7 = .ok (.aload_n 0, 1) := by decide +kernel
theorem dX3_nextInput_8 : decode cX3_nextInput 8 = .ok (.getfield 24, 3) := by decide +kernel
theorem dX3_nextInput_11 : decode cX3_nextInput 11 = .ok (.iload_n 1, 1) := by decide +kernel
theorem dX3_nextInput_12 : decode cX3_nextInput 12 = .ok (.iaload, 1) := by decide +kernel
theorem dX3_nextInput_13 : decode cX3_nextInput 13 = .ok (.aload_n 0, 1) := by decide +kernel
theorem dX3_nextInput_14 : decode cX3_nextInput 14 = .ok (.getfield 21, 3) := by decide +kernel
theorem dX3_nextInput_17 : decode cX3_nextInput 17 = .ok (.iload_n 1, 1) := by decide +kernel
theorem dX3_nextInput_18 : decode cX3_nextInput 18 = .ok (.iaload, 1) := by decide +kernel
theorem dX3_nextInput_19 : decode cX3_nextInput 19 = .ok (.if_icmp .lt 5, 3) := by decide +kernel
theorem dX3_nextInput_22 : decode cX3_nextInput 22 = .ok (.iconst 0, 1) := by decide +kernel
theorem dX3_nextInput_23 : decode cX3_nextInput 23 = .ok (.ireturn, 1) := by decide +kernel
theorem dX3_nextInput_24 : decode cX3_nextInput 24 = .ok (.aload_n 0, 1) := by decide +kernel
theorem dX3_nextInput_25 : decode cX3_nextInput 25 = .ok (.getfield 18, 3) := by decide +kernel
theorem dX3_nextInput_28 : decode cX3_nextInput 28 = .ok (.iload_n 1, 1) := by decide +kernel
theorem dX3_nextInput_29 : decode cX3_nextInput 29 = .ok (.bipush 20, 2) := by decide +kernel
theorem dX3_nextInput_31 : decode cX3_nextInput 31 = .ok (.imul, 1) := by decide +kernel
theorem dX3_nextInput_32 : decode cX3_nextInput 32 = .ok (.aload_n 0, 1) := by decide +kernel
theorem dX3_nextInput_33 : decode cX3_nextInput 33 = .ok (.getfield 24, 3) := by decide +kernel
theorem dX3_nextInput_36 : decode cX3_nextInput 36 = .ok (.iload_n 1, 1) := by decide +kernel
theorem dX3_nextInput_37 : decode cX3_nextInput 37 = .ok (.iaload, 1) := by decide +kernel
theorem dX3_nextInput_38 : decode cX3_nextInput 38 = .ok (.iadd, 1) := by decide +kernel
theorem dX3_nextInput_39 : decode cX3_nextInput 39 = .ok (.iaload, 1) := by decide +kernel
theorem dX3_nextInput_40 : decode cX3_nextInput 40 = .ok (.istore_n 2, 1) := by decide +kernel
theorem dX3_nextInput_41 : decode cX3_nextInput 41 = .ok (.aload_n 0, 1) := by decide +kernel
theorem dX3_nextInput_42 : decode cX3_nextInput 42 = .ok (.getfield 24, 3) := by decide +kernel
theorem dX3_nextInput_45 : decode cX3_nextInput 45 = .ok (.iload_n 1, 1) := by decide +kernel
theorem dX3_nextInput_46 : decode cX3_nextInput 46 = .ok (.dup2, 1) := by decide +kernel
theorem dX3_nextInput_47 : decode cX3_nextInput 47 = .ok (.iaload, 1) := by decide +kernel
theorem dX3_nextInput_48 : decode cX3_nextInput 48 = .ok (.iconst 1, 1) := by decide +kernel
theorem dX3_nextInput_49 : decode cX3_nextInput 49 = .ok (.iadd, 1) := by decide +kernel
theorem dX3_nextInput_50 : decode cX3_nextInput 50 = .ok (.iastore, 1) := by decide +kernel
theorem dX3_nextInput_51 : decode cX3_nextInput 51 = .ok (.iload_n 2, 1) := by decide +kernel
theorem dX3_nextInput_52 : decode cX3_nextInput 52 = .ok (.ireturn, 1) := by decide +kernel
theorem dX3_write_0 : decode cX3_write 0 = .ok (.iload_n 1, 1) := by decide +kernel
theorem dX3_write_1 : decode cX3_write 1 = .ok (.invokestatic 37, 3) := by decide +kernel
theorem dX3_write_4 : decode cX3_write 4 = .ok (.ifCond .eq 14, 3) := by decide +kernel
theorem dX3_write_7 : decode cX3_write 7 = .ok (.aload_n 0, 1) := by decide +kernel
theorem dX3_write_8 : decode cX3_write 8 = .ok (.getfield 30, 3) := by decide +kernel
theorem dX3_write_11 : decode cX3_write 11 = .ok (.iload_n 1, 1) := by decide +kernel
theorem dX3_write_12 : decode cX3_write 12 = .ok (.iaload, 1) := by decide +kernel
theorem dX3_write_13 : decode cX3_write 13 = .ok (.bipush 20, 2) := by decide +kernel
theorem dX3_write_15 : decode cX3_write 15 = .ok (.if_icmp .lt 11, 3) := by decide +kernel
theorem dX3_write_18 : decode cX3_write 18 = .ok (.aload_n 0, 1) := by decide +kernel
theorem dX3_write_19 : decode cX3_write 19 = .ok (.iconst 4, 1) := by decide +kernel
theorem dX3_write_20 : decode cX3_write 20 = .ok (.putfield 33, 3) := by decide +kernel
theorem dX3_write_23 : decode cX3_write 23 = .ok (.goto 30, 3) := by decide +kernel
theorem dX3_write_26 : decode cX3_write 26 = .ok (.aload_n 0, 1) := by decide +kernel
theorem dX3_write_27 : decode cX3_write 27 = .ok (.getfield 27, 3) := by decide +kernel
theorem dX3_write_30 : decode cX3_write 30 = .ok (.iload_n 1, 1) := by decide +kernel
theorem dX3_write_31 : decode cX3_write 31 = .ok (.bipush 20, 2) := by decide +kernel
theorem dX3_write_33 : decode cX3_write 33 = .ok (.imul, 1) := by decide +kernel
theorem dX3_write_34 : decode cX3_write 34 = .ok (.aload_n 0, 1) := by decide +kernel
theorem dX3_write_35 : decode cX3_write 35 = .ok (.getfield 30, 3) := by decide +kernel
theorem dX3_write_38 : decode cX3_write 38 = .ok (.iload_n 1, 1) := by decide +kernel
theorem dX3_write_39 : decode cX3_write 39 = .ok (.iaload, 1) := by decide +kernel
theorem dX3_write_40 : decode cX3_write 40 = .ok (.iadd, 1) := by decide +kernel
theorem dX3_write_41 : decode cX3_write 41 = .ok (.iload_n 2, 1) := by decide +kernel
theorem dX3_write_42 : decode cX3_write 42 = .ok (.iastore, 1) := by decide +kernel
theorem dX3_write_43 : decode cX3_write 43 = .ok (.aload_n 0, 1) := by decide +kernel
theorem dX3_write_44 : decode cX3_write 44 = .ok (.getfield 30, 3) := by decide +kernel
theorem dX3_write_47 : decode cX3_write 47 = .ok (.iload_n 1, 1) := by decide +kernel
theorem dX3_write_48 : decode cX3_write 48 = .ok (.dup2, 1) := by decide +kernel
theorem dX3_write_49 : decode cX3_write 49 = .ok (.iaload, 1) := by decide +kernel
theorem dX3_write_50 : decode cX3_write 50 = .ok (.iconst 1, 1) := by decide +kernel
theorem dX3_write_51 : decode cX3_write 51 = .ok (.iadd, 1) := by decide +kernel
theorem dX3_write_52 : decode cX3_write 52 = .ok (.iastore, 1) := by decide +kernel
theorem dX3_write_53 : decode cX3_write 53 = .ok (.return_, 1) := by decide +kernel
theorem dX3_reckon_0 : decode cX3_reckon 0 = .ok (.iload_n 1, 1) := by decide +kernel
theorem dX3_reckon_1 : decode cX3_reckon 1 = .ok (.tableswitch 109 5 10 #[39, 49, 59, 109, 69, 89], 39) := by decide +kernel
theorem dX3_reckon_40 : decode cX3_reckon 40 = .ok (.aload_n 0, 1) := by decide +kernel
theorem dX3_reckon_41 : decode cX3_reckon 41 = .ok (.iload_n 3, 1) := by decide +kernel
theorem dX3_reckon_42 : decode cX3_reckon 42 = .ok (.iload_n 2, 1) := by decide +kernel
theorem dX3_reckon_43 : decode cX3_reckon 43 = .ok (.iadd, 1) := by decide +kernel
theorem dX3_reckon_44 : decode cX3_reckon 44 = .ok (.invokevirtual 89, 3) := by decide +kernel
theorem dX3_reckon_47 : decode cX3_reckon 47 = .ok (.goto 82, 3) := by decide +kernel
theorem dX3_reckon_50 : decode cX3_reckon 50 = .ok (.aload_n 0, 1) := by decide +kernel
theorem dX3_reckon_51 : decode cX3_reckon 51 = .ok (.iload_n 3, 1) := by decide +kernel
theorem dX3_reckon_52 : decode cX3_reckon 52 = .ok (.iload_n 2, 1) := by decide +kernel
theorem dX3_reckon_53 : decode cX3_reckon 53 = .ok (.isub, 1) := by decide +kernel
theorem dX3_reckon_54 : decode cX3_reckon 54 = .ok (.invokevirtual 89, 3) := by decide +kernel
theorem dX3_reckon_57 : decode cX3_reckon 57 = .ok (.goto 72, 3) := by decide +kernel
theorem dX3_reckon_60 : decode cX3_reckon 60 = .ok (.aload_n 0, 1) := by decide +kernel
theorem dX3_reckon_61 : decode cX3_reckon 61 = .ok (.iload_n 3, 1) := by decide +kernel
theorem dX3_reckon_62 : decode cX3_reckon 62 = .ok (.iload_n 2, 1) := by decide +kernel
theorem dX3_reckon_63 : decode cX3_reckon 63 = .ok (.imul, 1) := by decide +kernel
theorem dX3_reckon_64 : decode cX3_reckon 64 = .ok (.invokevirtual 89, 3) := by decide +kernel
theorem dX3_reckon_67 : decode cX3_reckon 67 = .ok (.goto 62, 3) := by decide +kernel
theorem dX3_reckon_70 : decode cX3_reckon 70 = .ok (.aload_n 0, 1) := by decide +kernel
theorem dX3_reckon_71 : decode cX3_reckon 71 = .ok (.iload_n 3, 1) := by decide +kernel
theorem dX3_reckon_72 : decode cX3_reckon 72 = .ok (.iload_n 2, 1) := by decide +kernel
theorem dX3_reckon_73 : decode cX3_reckon 73 = .ok (.if_icmp .ge 7, 3) := by decide +kernel
theorem dX3_reckon_76 : decode cX3_reckon 76 = .ok (.iconst 1, 1) := by decide +kernel
theorem dX3_reckon_77 : decode cX3_reckon 77 = .ok (.goto 4, 3) := by decide +kernel
theorem dX3_reckon_80 : decode cX3_reckon 80 = .ok (.iconst 0, 1) := by decide +kernel
theorem dX3_reckon_81 : decode cX3_reckon 81 = .ok (.invokestatic 115, 3) := by decide +kernel
theorem dX3_reckon_84 : decode cX3_reckon 84 = .ok (.invokevirtual 89, 3) := by decide +kernel
theorem dX3_reckon_87 : decode cX3_reckon 87 = .ok (.goto 42, 3) := by decide +kernel
theorem dX3_reckon_90 : decode cX3_reckon 90 = .ok (.aload_n 0, 1) := by decide +kernel
theorem dX3_reckon_91 : decode cX3_reckon 91 = .ok (.iload_n 3, 1) := by decide +kernel
theorem dX3_reckon_92 : decode cX3_reckon 92 = .ok (.iload_n 2, 1) := by decide +kernel
theorem dX3_reckon_93 : decode cX3_reckon 93 = .ok (.if_icmp .ne 7, 3) := by decide +kernel
theorem dX3_reckon_96 : decode cX3_reckon 96 = .ok (.iconst 1, 1) := by decide +kernel
theorem dX3_reckon_97 : decode cX3_reckon 97 = .ok (.goto 4, 3) := by decide +kernel
theorem dX3_reckon_100 : decode cX3_reckon 100 = .ok (.iconst 0, 1) := by decide +kernel
theorem dX3_reckon_101 : decode cX3_reckon 101 = .ok (.invokestatic 115, 3) := by decide +kernel
theorem dX3_reckon_104 : decode cX3_reckon 104 = .ok (.invokevirtual 89, 3) := by decide +kernel
theorem dX3_reckon_107 : decode cX3_reckon 107 = .ok (.goto 22, 3) := by decide +kernel
theorem dX3_reckon_110 : decode cX3_reckon 110 = .ok (.iload_n 2, 1) := by decide +kernel
theorem dX3_reckon_111 : decode cX3_reckon 111 = .ok (.ifCond .ne 11, 3) := by decide +kernel
theorem dX3_reckon_114 : decode cX3_reckon 114 = .ok (.aload_n 0, 1) := by decide +kernel
theorem dX3_reckon_115 : decode cX3_reckon 115 = .ok (.iconst 1, 1) := by decide +kernel
theorem dX3_reckon_116 : decode cX3_reckon 116 = .ok (.putfield 33, 3) := by decide +kernel
theorem dX3_reckon_119 : decode cX3_reckon 119 = .ok (.goto 10, 3) := by decide +kernel
theorem dX3_reckon_122 : decode cX3_reckon 122 = .ok (.aload_n 0, 1) := by decide +kernel
theorem dX3_reckon_123 : decode cX3_reckon 123 = .ok (.iload_n 3, 1) := by decide +kernel
theorem dX3_reckon_124 : decode cX3_reckon 124 = .ok (.iload_n 2, 1) := by decide +kernel
theorem dX3_reckon_125 : decode cX3_reckon 125 = .ok (.idiv, 1) := by decide +kernel
theorem dX3_reckon_126 : decode cX3_reckon 126 = .ok (.invokevirtual 89, 3) := by decide +kernel
theorem dX3_reckon_129 : decode cX3_reckon 129 = .ok (.return_, 1) := by decide +kernel
theorem dX4_init_0 : decode cX4_init 0 = .ok (.aload_n 0, 1) := by decide +kernel
theorem dX4_init_1 : decode cX4_init 1 = .ok (.invokespecial 3, 3) := by decide +kernel
theorem dX4_init_4 : decode cX4_init 4 = .ok (.aload_n 0, 1) := by decide +kernel
theorem dX4_init_5 : decode cX4_init 5 = .ok (.bipush 26, 2) := by decide +kernel
theorem dX4_init_7 : decode cX4_init 7 = .ok (.anewarray 9, 3) := by decide +kernel
theorem dX4_init_10 : decode cX4_init 10 = .ok (.putfield 11, 3) := by decide +kernel
theorem dX4_init_13 : decode cX4_init 13 = .ok (.aload_n 0, 1) := by decide +kernel
theorem dX4_init_14 : decode cX4_init 14 = .ok (.bipush 52, 2) := by decide +kernel
theorem dX4_init_16 : decode cX4_init 16 = .ok (.newarray .int, 2) := by decide +kernel
theorem dX4_init_18 : decode cX4_init 18 = .ok (.putfield 17, 3) := by decide +kernel
theorem dX4_init_21 : decode cX4_init 21 = .ok (.aload_n 0, 1) := by decide +kernel
theorem dX4_init_22 : decode cX4_init 22 = .ok (.sipush 240, 3) := by decide +kernel
theorem dX4_init_25 : decode cX4_init 25 = .ok (.newarray .int, 2) := by decide +kernel
theorem dX4_init_27 : decode cX4_init 27 = .ok (.putfield 21, 3) := by decide +kernel
theorem dX4_init_30 : decode cX4_init 30 = .ok (.aload_n 0, 1) := by decide +kernel
theorem dX4_init_31 : decode cX4_init 31 = .ok (.sipush 240, 3) := by decide +kernel
theorem dX4_init_34 : decode cX4_init 34 = .ok (.newarray .int, 2) := by decide +kernel
theorem dX4_init_36 : decode cX4_init 36 = .ok (.putfield 24, 3) := by decide +kernel
theorem dX4_init_39 : decode cX4_init 39 = .ok (.return_, 1) := by decide +kernel
theorem dX4_size_0 : decode cX4_size 0 = .ok (.aload_n 0, 1) := by decide +kernel
theorem dX4_size_1 : decode cX4_size 1 = .ok (.getfield 27, 3) := by decide +kernel
theorem dX4_size_4 : decode cX4_size 4 = .ok (.ireturn, 1) := by decide +kernel
theorem dX4_empty_0 : decode cX4_empty 0 = .ok (.aload_n 0, 1) := by decide +kernel
theorem dX4_empty_1 : decode cX4_empty 1 = .ok (.iconst 0, 1) := by decide +kernel
theorem dX4_empty_2 : decode cX4_empty 2 = .ok (.putfield 27, 3) := by decide +kernel
theorem dX4_empty_5 : decode cX4_empty 5 = .ok (.aload_n 0, 1) := by decide +kernel
theorem dX4_empty_6 : decode cX4_empty 6 = .ok (.aconst_null, 1) := by decide +kernel
theorem dX4_empty_7 : decode cX4_empty 7 = .ok (.putfield 31, 3) := by decide +kernel
theorem dX4_empty_10 : decode cX4_empty 10 = .ok (.iconst 0, 1) := by decide +kernel
theorem dX4_empty_11 : decode cX4_empty 11 = .ok (.istore_n 1, 1) := by decide +kernel
theorem dX4_empty_12 : decode cX4_empty 12 = .ok (.iload_n 1, 1) := by decide +kernel
theorem dX4_empty_13 : decode cX4_empty 13 = .ok (.bipush 26, 2) := by decide +kernel
theorem dX4_empty_15 : decode cX4_empty 15 = .ok (.if_icmp .ge 16, 3) := by decide +kernel
theorem dX4_empty_18 : decode cX4_empty 18 = .ok (.aload_n 0, 1) := by decide +kernel
theorem dX4_empty_19 : decode cX4_empty 19 = .ok (.getfield 11, 3) := by decide +kernel
theorem dX4_empty_22 : decode cX4_empty 22 = .ok (.iload_n 1, 1) := by decide +kernel
theorem dX4_empty_23 : decode cX4_empty 23 = .ok (.aconst_null, 1) := by decide +kernel
theorem dX4_empty_24 : decode cX4_empty 24 = .ok (.aastore, 1) := by decide +kernel
theorem dX4_empty_25 : decode cX4_empty 25 = .ok (.iinc 1 1, 3) := by decide +kernel
theorem dX4_empty_28 : decode cX4_empty 28 = .ok (.goto (-16), 3) := by decide +kernel
theorem dX4_empty_31 : decode cX4_empty 31 = .ok (.aload_n 0, 1) := by decide +kernel
theorem dX4_empty_32 : decode cX4_empty 32 = .ok (.getfield 17, 3) := by decide +kernel
theorem dX4_empty_35 : decode cX4_empty 35 = .ok (.iconst (-1), 1) := by decide +kernel
theorem dX4_empty_36 : decode cX4_empty 36 = .ok (.invokestatic 35, 3) := by decide +kernel
theorem dX4_empty_39 : decode cX4_empty 39 = .ok (.return_, 1) := by decide +kernel
theorem dX4_add_0 : decode cX4_add 0 = .ok (.aload_n 0, 1) := by decide +kernel
theorem dX4_add_1 : decode cX4_add 1 = .ok (.getfield 27, 3) := by decide +kernel
theorem dX4_add_4 : decode cX4_add 4 = .ok (.sipush 240, 3) := by decide +kernel
theorem dX4_add_7 : decode cX4_add 7 = .ok (.if_icmp .ge 33, 3) := by decide +kernel
theorem dX4_add_10 : decode cX4_add 10 = .ok (.aload_n 0, 1) := by decide +kernel
theorem dX4_add_11 : decode cX4_add 11 = .ok (.getfield 21, 3) := by decide +kernel
theorem dX4_add_14 : decode cX4_add 14 = .ok (.aload_n 0, 1) := by decide +kernel
theorem dX4_add_15 : decode cX4_add 15 = .ok (.getfield 27, 3) := by decide +kernel
theorem dX4_add_18 : decode cX4_add 18 = .ok (.iload_n 1, 1) := by decide +kernel
theorem dX4_add_19 : decode cX4_add 19 = .ok (.iastore, 1) := by decide +kernel
theorem dX4_add_20 : decode cX4_add 20 = .ok (.aload_n 0, 1) := by decide +kernel
theorem dX4_add_21 : decode cX4_add 21 = .ok (.getfield 24, 3) := by decide +kernel
theorem dX4_add_24 : decode cX4_add 24 = .ok (.aload_n 0, 1) := by decide +kernel
theorem dX4_add_25 : decode cX4_add 25 = .ok (.getfield 27, 3) := by decide +kernel
theorem dX4_add_28 : decode cX4_add 28 = .ok (.iload_n 2, 1) := by decide +kernel
theorem dX4_add_29 : decode cX4_add 29 = .ok (.iastore, 1) := by decide +kernel
theorem dX4_add_30 : decode cX4_add 30 = .ok (.aload_n 0, 1) := by decide +kernel
theorem dX4_add_31 : decode cX4_add 31 = .ok (.dup, 1) := by decide +kernel
theorem dX4_add_32 : decode cX4_add 32 = .ok (.getfield 27, 3) := by decide +kernel
theorem dX4_add_35 : decode cX4_add 35 = .ok (.iconst 1, 1) := by decide +kernel
theorem dX4_add_36 : decode cX4_add 36 = .ok (.iadd, 1) := by decide +kernel
theorem dX4_add_37 : decode cX4_add 37 = .ok (.putfield 27, 3) := by decide +kernel
theorem dX4_add_40 : decode cX4_add 40 = .ok (.return_, 1) := by decide +kernel
theorem dX4_operation_0 : decode cX4_operation 0 = .ok (.iload_n 1, 1) := by decide +kernel
theorem dX4_operation_1 : decode cX4_operation 1 = .ok (.ifCond .lt 20, 3) := by decide +kernel
theorem dX4_operation_4 : decode cX4_operation 4 = .ok (.iload_n 1, 1) := by decide +kernel
theorem dX4_operation_5 : decode cX4_operation 5 = .ok (.aload_n 0, 1) := by decide +kernel
theorem dX4_operation_6 : decode cX4_operation 6 = .ok (.getfield 27, 3) := by decide +kernel
theorem dX4_operation_9 : decode cX4_operation 9 = .ok (.if_icmp .ge 12, 3) := by decide +kernel
theorem dX4_operation_12 : decode cX4_operation 12 = .ok (.aload_n 0, 1) := by decide +kernel
theorem dX4_operation_13 : decode cX4_operation 13 = .ok (.getfield 21, 3) := by decide +kernel
theorem dX4_operation_16 : decode cX4_operation 16 = .ok (.iload_n 1, 1) := by decide +kernel
theorem dX4_operation_17 : decode cX4_operation 17 = .ok (.iaload, 1) := by decide +kernel
theorem dX4_operation_18 : decode cX4_operation 18 = .ok (.goto 4, 3) := by decide +kernel
theorem dX4_operation_21 : decode cX4_operation 21 = .ok (.iconst 0, 1) := by decide +kernel
theorem dX4_operation_22 : decode cX4_operation 22 = .ok (.ireturn, 1) := by decide +kernel
theorem dX4_argument_0 : decode cX4_argument 0 = .ok (.iload_n 1, 1) := by decide +kernel
theorem dX4_argument_1 : decode cX4_argument 1 = .ok (.ifCond .lt 20, 3) := by decide +kernel
theorem dX4_argument_4 : decode cX4_argument 4 = .ok (.iload_n 1, 1) := by decide +kernel
theorem dX4_argument_5 : decode cX4_argument 5 = .ok (.aload_n 0, 1) := by decide +kernel
theorem dX4_argument_6 : decode cX4_argument 6 = .ok (.getfield 27, 3) := by decide +kernel
theorem dX4_argument_9 : decode cX4_argument 9 = .ok (.if_icmp .ge 12, 3) := by decide +kernel
theorem dX4_argument_12 : decode cX4_argument 12 = .ok (.aload_n 0, 1) := by decide +kernel
theorem dX4_argument_13 : decode cX4_argument 13 = .ok (.getfield 24, 3) := by decide +kernel
theorem dX4_argument_16 : decode cX4_argument 16 = .ok (.iload_n 1, 1) := by decide +kernel
theorem dX4_argument_17 : decode cX4_argument 17 = .ok (.iaload, 1) := by decide +kernel
theorem dX4_argument_18 : decode cX4_argument 18 = .ok (.goto 4, 3) := by decide +kernel
theorem dX4_argument_21 : decode cX4_argument 21 = .ok (.iconst 0, 1) := by decide +kernel
theorem dX4_argument_22 : decode cX4_argument 22 = .ok (.ireturn, 1) := by decide +kernel
theorem dX4_setMark_0 : decode cX4_setMark 0 = .ok (.iload_n 1, 1) := by decide +kernel
theorem dX4_setMark_1 : decode cX4_setMark 1 = .ok (.ifCond .lt 16, 3) := by decide +kernel
theorem dX4_setMark_4 : decode cX4_setMark 4 = .ok (.iload_n 1, 1) := by decide +kernel
theorem dX4_setMark_5 : decode cX4_setMark 5 = .ok (.bipush 52, 2) := by decide +kernel
theorem dX4_setMark_7 : decode cX4_setMark 7 = .ok (.if_icmp .ge 10, 3) := by decide +kernel
theorem dX4_setMark_10 : decode cX4_setMark 10 = .ok (.aload_n 0, 1) := by decide +kernel
theorem dX4_setMark_11 : decode cX4_setMark 11 = .ok (.getfield 17, 3) := by decide +kernel
theorem dX4_setMark_14 : decode cX4_setMark 14 = .ok (.iload_n 1, 1) := by decide +kernel
theorem dX4_setMark_15 : decode cX4_setMark 15 = .ok (.iload_n 2, 1) := by decide +kernel
theorem dX4_setMark_16 : decode cX4_setMark 16 = .ok (.iastore, 1) := by decide +kernel
theorem dX4_setMark_17 : decode cX4_setMark 17 = .ok (.return_, 1) := by decide +kernel
theorem dX4_copyMarks_0 : decode cX4_copyMarks 0 = .ok (.aload_n 0, 1) := by decide +kernel
theorem dX4_copyMarks_1 : decode cX4_copyMarks 1 = .ok (.getfield 17, 3) := by decide +kernel
theorem dX4_copyMarks_4 : decode cX4_copyMarks 4 = .ok (.iconst 0, 1) := by decide +kernel
theorem dX4_copyMarks_5 : decode cX4_copyMarks 5 = .ok (.aload_n 1, 1) := by decide +kernel
theorem dX4_copyMarks_6 : decode cX4_copyMarks 6 = .ok (.iconst 0, 1) := by decide +kernel
theorem dX4_copyMarks_7 : decode cX4_copyMarks 7 = .ok (.aload_n 0, 1) := by decide +kernel
theorem dX4_copyMarks_8 : decode cX4_copyMarks 8 = .ok (.getfield 17, 3) := by decide +kernel
theorem dX4_copyMarks_11 : decode cX4_copyMarks 11 = .ok (.arraylength, 1) := by decide +kernel
theorem dX4_copyMarks_12 : decode cX4_copyMarks 12 = .ok (.aload_n 1, 1) := by decide +kernel
theorem dX4_copyMarks_13 : decode cX4_copyMarks 13 = .ok (.arraylength, 1) := by decide +kernel
theorem dX4_copyMarks_14 : decode cX4_copyMarks 14 = .ok (.invokestatic 41, 3) := by decide +kernel
theorem dX4_copyMarks_17 : decode cX4_copyMarks 17 = .ok (.invokestatic 47, 3) := by decide +kernel
theorem dX4_copyMarks_20 : decode cX4_copyMarks 20 = .ok (.return_, 1) := by decide +kernel
theorem dX4_variableMark_0 : decode cX4_variableMark 0 = .ok (.iload_n 1, 1) := by decide +kernel
theorem dX4_variableMark_1 : decode cX4_variableMark 1 = .ok (.ifCond .lt 18, 3) := by decide +kernel
theorem dX4_variableMark_4 : decode cX4_variableMark 4 = .ok (.iload_n 1, 1) := by decide +kernel
theorem dX4_variableMark_5 : decode cX4_variableMark 5 = .ok (.bipush 26, 2) := by decide +kernel
theorem dX4_variableMark_7 : decode cX4_variableMark 7 = .ok (.if_icmp .ge 12, 3) := by decide +kernel
theorem dX4_variableMark_10 : decode cX4_variableMark 10 = .ok (.aload_n 0, 1) := by decide +kernel
theorem dX4_variableMark_11 : decode cX4_variableMark 11 = .ok (.getfield 17, 3) := by decide +kernel
theorem dX4_variableMark_14 : decode cX4_variableMark 14 = .ok (.iload_n 1, 1) := by decide +kernel
theorem dX4_variableMark_15 : decode cX4_variableMark 15 = .ok (.iaload, 1) := by decide +kernel
theorem dX4_variableMark_16 : decode cX4_variableMark 16 = .ok (.goto 4, 3) := by decide +kernel
theorem dX4_variableMark_19 : decode cX4_variableMark 19 = .ok (.iconst (-1), 1) := by decide +kernel
theorem dX4_variableMark_20 : decode cX4_variableMark 20 = .ok (.ireturn, 1) := by decide +kernel
theorem dX4_rowMark_0 : decode cX4_rowMark 0 = .ok (.iload_n 1, 1) := by decide +kernel
theorem dX4_rowMark_1 : decode cX4_rowMark 1 = .ok (.ifCond .lt 21, 3) := by decide +kernel
theorem dX4_rowMark_4 : decode cX4_rowMark 4 = .ok (.iload_n 1, 1) := by decide +kernel
theorem dX4_rowMark_5 : decode cX4_rowMark 5 = .ok (.bipush 26, 2) := by decide +kernel
theorem dX4_rowMark_7 : decode cX4_rowMark 7 = .ok (.if_icmp .ge 15, 3) := by decide +kernel
theorem dX4_rowMark_10 : decode cX4_rowMark 10 = .ok (.aload_n 0, 1) := by decide +kernel
theorem dX4_rowMark_11 : decode cX4_rowMark 11 = .ok (.getfield 17, 3) := by decide +kernel
theorem dX4_rowMark_14 : decode cX4_rowMark 14 = .ok (.bipush 26, 2) := by decide +kernel
theorem dX4_rowMark_16 : decode cX4_rowMark 16 = .ok (.iload_n 1, 1) := by decide +kernel
theorem dX4_rowMark_17 : decode cX4_rowMark 17 = .ok (.iadd, 1) := by decide +kernel
theorem dX4_rowMark_18 : decode cX4_rowMark 18 = .ok (.iaload, 1) := by decide +kernel
theorem dX4_rowMark_19 : decode cX4_rowMark 19 = .ok (.goto 4, 3) := by decide +kernel
theorem dX4_rowMark_22 : decode cX4_rowMark 22 = .ok (.iconst (-1), 1) := by decide +kernel
theorem dX4_rowMark_23 : decode cX4_rowMark 23 = .ok (.ireturn, 1) := by decide +kernel
theorem dX4_setProc_0 : decode cX4_setProc 0 = .ok (.iload_n 1, 1) := by decide +kernel
theorem dX4_setProc_1 : decode cX4_setProc 1 = .ok (.ifCond .lt 16, 3) := by decide +kernel
theorem dX4_setProc_4 : decode cX4_setProc 4 = .ok (.iload_n 1, 1) := by decide +kernel
theorem dX4_setProc_5 : decode cX4_setProc 5 = .ok (.bipush 26, 2) := by decide +kernel
theorem dX4_setProc_7 : decode cX4_setProc 7 = .ok (.if_icmp .ge 10, 3) := by decide +kernel
theorem dX4_setProc_10 : decode cX4_setProc 10 = .ok (.aload_n 0, 1) := by decide +kernel
theorem dX4_setProc_11 : decode cX4_setProc 11 = .ok (.getfield 11, 3) := by decide +kernel
theorem dX4_setProc_14 : decode cX4_setProc 14 = .ok (.iload_n 1, 1) := by decide +kernel
theorem dX4_setProc_15 : decode cX4_setProc 15 = .ok (.aload_n 2, 1) := by decide +kernel
theorem dX4_setProc_16 : decode cX4_setProc 16 = .ok (.aastore, 1) := by decide +kernel
theorem dX4_setProc_17 : decode cX4_setProc 17 = .ok (.return_, 1) := by decide +kernel
theorem dX4_proc_0 : decode cX4_proc 0 = .ok (.iload_n 1, 1) := by decide +kernel
theorem dX4_proc_1 : decode cX4_proc 1 = .ok (.ifCond .lt 18, 3) := by decide +kernel
theorem dX4_proc_4 : decode cX4_proc 4 = .ok (.iload_n 1, 1) := by decide +kernel
theorem dX4_proc_5 : decode cX4_proc 5 = .ok (.bipush 26, 2) := by decide +kernel
theorem dX4_proc_7 : decode cX4_proc 7 = .ok (.if_icmp .ge 12, 3) := by decide +kernel
theorem dX4_proc_10 : decode cX4_proc 10 = .ok (.aload_n 0, 1) := by decide +kernel
theorem dX4_proc_11 : decode cX4_proc 11 = .ok (.getfield 11, 3) := by decide +kernel
theorem dX4_proc_14 : decode cX4_proc 14 = .ok (.iload_n 1, 1) := by decide +kernel
theorem dX4_proc_15 : decode cX4_proc 15 = .ok (.aaload, 1) := by decide +kernel
theorem dX4_proc_16 : decode cX4_proc 16 = .ok (.goto 4, 3) := by decide +kernel
theorem dX4_proc_19 : decode cX4_proc 19 = .ok (.aconst_null, 1) := by decide +kernel
theorem dX4_proc_20 : decode cX4_proc 20 = .ok (.areturn, 1) := by decide +kernel
theorem dX5_init_0 : decode cX5_init 0 = .ok (.aload_n 0, 1) := by decide +kernel
theorem dX5_init_1 : decode cX5_init 1 = .ok (.invokespecial 3, 3) := by decide +kernel
theorem dX5_init_4 : decode cX5_init 4 = .ok (.aload_n 0, 1) := by decide +kernel
theorem dX5_init_5 : decode cX5_init 5 = .ok (.sipush 240, 3) := by decide +kernel
theorem dX5_init_8 : decode cX5_init 8 = .ok (.newarray .char, 2) := by decide +kernel
theorem dX5_init_10 : decode cX5_init 10 = .ok (.putfield 9, 3) := by decide +kernel
theorem dX5_init_13 : decode cX5_init 13 = .ok (.aload_n 0, 1) := by decide +kernel
theorem dX5_init_14 : decode cX5_init 14 = .ok (.sipush 241, 3) := by decide +kernel
theorem dX5_init_17 : decode cX5_init 17 = .ok (.newarray .int, 2) := by decide +kernel
theorem dX5_init_19 : decode cX5_init 19 = .ok (.putfield 15, 3) := by decide +kernel
theorem dX5_init_22 : decode cX5_init 22 = .ok (.aload_n 0, 1) := by decide +kernel
theorem dX5_init_23 : decode cX5_init 23 = .ok (.sipush 241, 3) := by decide +kernel
theorem dX5_init_26 : decode cX5_init 26 = .ok (.newarray .int, 2) := by decide +kernel
theorem dX5_init_28 : decode cX5_init 28 = .ok (.putfield 19, 3) := by decide +kernel
theorem dX5_init_31 : decode cX5_init 31 = .ok (.aload_n 0, 1) := by decide +kernel
theorem dX5_init_32 : decode cX5_init 32 = .ok (.sipush 241, 3) := by decide +kernel
theorem dX5_init_35 : decode cX5_init 35 = .ok (.newarray .int, 2) := by decide +kernel
theorem dX5_init_37 : decode cX5_init 37 = .ok (.putfield 22, 3) := by decide +kernel
theorem dX5_init_40 : decode cX5_init 40 = .ok (.aload_n 0, 1) := by decide +kernel
theorem dX5_init_41 : decode cX5_init 41 = .ok (.bipush 26, 2) := by decide +kernel
theorem dX5_init_43 : decode cX5_init 43 = .ok (.newarray .int, 2) := by decide +kernel
theorem dX5_init_45 : decode cX5_init 45 = .ok (.putfield 25, 3) := by decide +kernel
theorem dX5_init_48 : decode cX5_init 48 = .ok (.aload_n 0, 1) := by decide +kernel
theorem dX5_init_49 : decode cX5_init 49 = .ok (.aload_n 1, 1) := by decide +kernel
theorem dX5_init_50 : decode cX5_init 50 = .ok (.putfield 28, 3) := by decide +kernel
theorem dX5_init_53 : decode cX5_init 53 = .ok (.return_, 1) := by decide +kernel
theorem dX5_length_0 : decode cX5_length 0 = .ok (.aload_n 0, 1) := by decide +kernel
theorem dX5_length_1 : decode cX5_length 1 = .ok (.getfield 32, 3) := by decide +kernel
theorem dX5_length_4 : decode cX5_length 4 = .ok (.ireturn, 1) := by decide +kernel
theorem dX5_place_0 : decode cX5_place 0 = .ok (.aload_n 0, 1) := by decide +kernel
theorem dX5_place_1 : decode cX5_place 1 = .ok (.getfield 36, 3) := by decide +kernel
theorem dX5_place_4 : decode cX5_place 4 = .ok (.ireturn, 1) := by decide +kernel
theorem dX5_forget_0 : decode cX5_forget 0 = .ok (.aload_n 0, 1) := by decide +kernel
theorem dX5_forget_1 : decode cX5_forget 1 = .ok (.iconst 0, 1) := by decide +kernel
theorem dX5_forget_2 : decode cX5_forget 2 = .ok (.putfield 32, 3) := by decide +kernel
theorem dX5_forget_5 : decode cX5_forget 5 = .ok (.return_, 1) := by decide +kernel
theorem dX5_arePlain_0 : decode cX5_arePlain 0 = .ok (.iconst 0, 1) := by decide +kernel
theorem dX5_arePlain_1 : decode cX5_arePlain 1 = .ok (.istore_n 3, 1) := by decide +kernel
theorem dX5_arePlain_2 : decode cX5_arePlain 2 = .ok (.iload_n 3, 1) := by decide +kernel
theorem dX5_arePlain_3 : decode cX5_arePlain 3 = .ok (.iload_n 2, 1) := by decide +kernel
theorem dX5_arePlain_4 : decode cX5_arePlain 4 = .ok (.if_icmp .ge 41, 3) := by decide +kernel
theorem dX5_arePlain_7 : decode cX5_arePlain 7 = .ok (.lload_n 0, 1) := by decide +kernel
theorem dX5_arePlain_8 : decode cX5_arePlain 8 = .ok (.bipush 8, 2) := by decide +kernel
theorem dX5_arePlain_10 : decode cX5_arePlain 10 = .ok (.iload_n 3, 1) := by decide +kernel
theorem dX5_arePlain_11 : decode cX5_arePlain 11 = .ok (.imul, 1) := by decide +kernel
theorem dX5_arePlain_12 : decode cX5_arePlain 12 = .ok (.lshr, 1) := by decide +kernel
theorem dX5_arePlain_13 : decode cX5_arePlain 13 = .ok (.ldc2_w 39, 3) := by decide +kernel
theorem dX5_arePlain_16 : decode cX5_arePlain 16 = .ok (.land, 1) := by decide +kernel
theorem dX5_arePlain_17 : decode cX5_arePlain 17 = .ok (.lstore 4, 2) := by decide +kernel
theorem dX5_arePlain_19 : decode cX5_arePlain 19 = .ok (.lload 4, 2) := by decide +kernel
theorem dX5_arePlain_21 : decode cX5_arePlain 21 = .ok (.ldc2_w 41, 3) := by decide +kernel
theorem dX5_arePlain_24 : decode cX5_arePlain 24 = .ok (.lcmp, 1) := by decide +kernel
theorem dX5_arePlain_25 : decode cX5_arePlain 25 = .ok (.ifCond .lt 12, 3) := by decide +kernel
theorem dX5_arePlain_28 : decode cX5_arePlain 28 = .ok (.lload 4, 2) := by decide +kernel
theorem dX5_arePlain_30 : decode cX5_arePlain 30 = .ok (.ldc2_w 43, 3) := by decide +kernel
theorem dX5_arePlain_33 : decode cX5_arePlain 33 = .ok (.lcmp, 1) := by decide +kernel
theorem dX5_arePlain_34 : decode cX5_arePlain 34 = .ok (.ifCond .le 5, 3) := by decide +kernel
theorem dX5_arePlain_37 : decode cX5_arePlain 37 = .ok (.iconst 0, 1) := by decide +kernel
theorem dX5_arePlain_38 : decode cX5_arePlain 38 = .ok (.ireturn, 1) := by decide +kernel
theorem dX5_arePlain_39 : decode cX5_arePlain 39 = .ok (.iinc 3 1, 3) := by decide +kernel
theorem dX5_arePlain_42 : decode cX5_arePlain 42 = .ok (.goto (-40), 3) := by decide +kernel
theorem dX5_arePlain_45 : decode cX5_arePlain 45 = .ok (.iconst 1, 1) := by decide +kernel
theorem dX5_arePlain_46 : decode cX5_arePlain 46 = .ok (.ireturn, 1) := by decide +kernel
theorem dX5_addSigns_0 : decode cX5_addSigns 0 = .ok (.iload_n 3, 1) := by decide +kernel
theorem dX5_addSigns_1 : decode cX5_addSigns 1 = .ok (.iconst 1, 1) := by decide +kernel
theorem dX5_addSigns_2 : decode cX5_addSigns 2 = .ok (.isub, 1) := by decide +kernel
theorem dX5_addSigns_3 : decode cX5_addSigns 3 = .ok (.istore 4, 2) := by decide +kernel
theorem dX5_addSigns_5 : decode cX5_addSigns 5 = .ok (.iload 4, 2) := by decide +kernel
theorem dX5_addSigns_7 : decode cX5_addSigns 7 = .ok (.ifCond .lt 51, 3) := by decide +kernel
theorem dX5_addSigns_10 : decode cX5_addSigns 10 = .ok (.aload_n 0, 1) := by decide +kernel
theorem dX5_addSigns_11 : decode cX5_addSigns 11 = .ok (.getfield 32, 3) := by decide +kernel
theorem dX5_addSigns_14 : decode cX5_addSigns 14 = .ok (.sipush 240, 3) := by decide +kernel
theorem dX5_addSigns_17 : decode cX5_addSigns 17 = .ok (.if_icmp .ge 41, 3) := by decide +kernel
theorem dX5_addSigns_20 : decode cX5_addSigns 20 = .ok (.aload_n 0, 1) := by decide +kernel
theorem dX5_addSigns_21 : decode cX5_addSigns 21 = .ok (.getfield 9, 3) := by decide +kernel
theorem dX5_addSigns_24 : decode cX5_addSigns 24 = .ok (.aload_n 0, 1) := by decide +kernel
theorem dX5_addSigns_25 : decode cX5_addSigns 25 = .ok (.getfield 32, 3) := by decide +kernel
theorem dX5_addSigns_28 : decode cX5_addSigns 28 = .ok (.lload_n 1, 1) := by decide +kernel
theorem dX5_addSigns_29 : decode cX5_addSigns 29 = .ok (.bipush 8, 2) := by decide +kernel
theorem dX5_addSigns_31 : decode cX5_addSigns 31 = .ok (.iload 4, 2) := by decide +kernel
theorem dX5_addSigns_33 : decode cX5_addSigns 33 = .ok (.imul, 1) := by decide +kernel
theorem dX5_addSigns_34 : decode cX5_addSigns 34 = .ok (.lshr, 1) := by decide +kernel
theorem dX5_addSigns_35 : decode cX5_addSigns 35 = .ok (.ldc2_w 39, 3) := by decide +kernel
theorem dX5_addSigns_38 : decode cX5_addSigns 38 = .ok (.land, 1) := by decide +kernel
theorem dX5_addSigns_39 : decode cX5_addSigns 39 = .ok (.l2i, 1) := by decide +kernel
theorem dX5_addSigns_40 : decode cX5_addSigns 40 = .ok (.i2c, 1) := by decide +kernel
theorem dX5_addSigns_41 : decode cX5_addSigns 41 = .ok (.castore, 1) := by decide +kernel
theorem dX5_addSigns_42 : decode cX5_addSigns 42 = .ok (.aload_n 0, 1) := by decide +kernel
theorem dX5_addSigns_43 : decode cX5_addSigns 43 = .ok (.dup, 1) := by decide +kernel
theorem dX5_addSigns_44 : decode cX5_addSigns 44 = .ok (.getfield 32, 3) := by decide +kernel
theorem dX5_addSigns_47 : decode cX5_addSigns 47 = .ok (.iconst 1, 1) := by decide +kernel
theorem dX5_addSigns_48 : decode cX5_addSigns 48 = .ok (.iadd, 1) := by decide +kernel
theorem dX5_addSigns_49 : decode cX5_addSigns 49 = .ok (.putfield 32, 3) := by decide +kernel
theorem dX5_addSigns_52 : decode cX5_addSigns 52 = .ok (.iinc 4 (-1), 3) := by decide +kernel
theorem dX5_addSigns_55 : decode cX5_addSigns 55 = .ok (.goto (-50), 3) := by decide +kernel
theorem dX5_addSigns_58 : decode cX5_addSigns 58 = .ok (.return_, 1) := by decide +kernel
theorem dX5_read_0 : decode cX5_read 0 = .ok (.aload_n 0, 1) := by decide +kernel
theorem dX5_read_1 : decode cX5_read 1 = .ok (.aload_n 1, 1) := by decide +kernel
theorem dX5_read_2 : decode cX5_read 2 = .ok (.putfield 45, 3) := by decide +kernel
theorem dX5_read_5 : decode cX5_read 5 = .ok (.aload_n 0, 1) := by decide +kernel
theorem dX5_read_6 : decode cX5_read 6 = .ok (.getfield 45, 3) := by decide +kernel
theorem dX5_read_9 : decode cX5_read 9 = .ok (.invokevirtual 49, 3) := by decide +kernel
theorem dX5_read_12 : decode cX5_read 12 = .ok (.aload_n 0, 1) := by decide +kernel
theorem dX5_read_13 : decode cX5_read 13 = .ok (.getfield 25, 3) := by decide +kernel
theorem dX5_read_16 : decode cX5_read 16 = .ok (.iconst 0, 1) := by decide +kernel
theorem dX5_read_17 : decode cX5_read 17 = .ok (.invokestatic 54, 3) := by decide +kernel
theorem dX5_read_20 : decode cX5_read 20 = .ok (.aload_n 0, 1) := by decide +kernel
theorem dX5_read_21 : decode cX5_read 21 = .ok (.iconst 0, 1) := by decide +kernel
theorem dX5_read_22 : decode cX5_read 22 = .ok (.putfield 60, 3) := by decide +kernel
theorem dX5_read_25 : decode cX5_read 25 = .ok (.aload_n 0, 1) := by decide +kernel
theorem dX5_read_26 : decode cX5_read 26 = .ok (.invokevirtual 63, 3) := by decide +kernel
theorem dX5_read_29 : decode cX5_read 29 = .ok (.aload_n 0, 1) := by decide +kernel
theorem dX5_read_30 : decode cX5_read 30 = .ok (.iconst 0, 1) := by decide +kernel
theorem dX5_read_31 : decode cX5_read 31 = .ok (.invokevirtual 66, 3) := by decide +kernel
theorem dX5_read_34 : decode cX5_read 34 = .ok (.iconst 0, 1) := by decide +kernel
theorem dX5_read_35 : decode cX5_read 35 = .ok (.istore_n 2, 1) := by decide +kernel
theorem dX5_read_36 : decode cX5_read 36 = .ok (.iload_n 2, 1) := by decide +kernel
theorem dX5_read_37 : decode cX5_read 37 = .ok (.sipush 240, 3) := by decide +kernel
theorem dX5_read_40 : decode cX5_read 40 = .ok (.if_icmp .ge 31, 3) := by decide +kernel
theorem dX5_read_43 : decode cX5_read 43 = .ok (.aload_n 0, 1) := by decide +kernel
theorem dX5_read_44 : decode cX5_read 44 = .ok (.getfield 70, 3) := by decide +kernel
theorem dX5_read_47 : decode cX5_read 47 = .ok (.bipush 20, 2) := by decide +kernel
theorem dX5_read_49 : decode cX5_read 49 = .ok (.if_icmp .lt 22, 3) := by decide +kernel
theorem dX5_read_52 : decode cX5_read 52 = .ok (.aload_n 0, 1) := by decide +kernel
theorem dX5_read_53 : decode cX5_read 53 = .ok (.getfield 70, 3) := by decide +kernel
theorem dX5_read_56 : decode cX5_read 56 = .ok (.bipush 22, 2) := by decide +kernel
theorem dX5_read_58 : decode cX5_read 58 = .ok (.if_icmp .gt 13, 3) := by decide +kernel
theorem dX5_read_61 : decode cX5_read 61 = .ok (.aload_n 0, 1) := by decide +kernel
theorem dX5_read_62 : decode cX5_read 62 = .ok (.invokevirtual 73, 3) := by decide +kernel
theorem dX5_read_65 : decode cX5_read 65 = .ok (.iinc 2 1, 3) := by decide +kernel
theorem dX5_read_68 : decode cX5_read 68 = .ok (.goto (-32), 3) := by decide +kernel
theorem dX5_read_71 : decode cX5_read 71 = .ok (.aload_n 0, 1) := by decide +kernel
theorem dX5_read_72 : decode cX5_read 72 = .ok (.getfield 45, 3) := by decide +kernel
theorem dX5_read_75 : decode cX5_read 75 = .ok (.aload_n 0, 1) := by decide +kernel
theorem dX5_read_76 : decode cX5_read 76 = .ok (.iconst 0, 1) := by decide +kernel
theorem dX5_read_77 : decode cX5_read 77 = .ok (.invokevirtual 76, 3) := by decide +kernel
theorem dX5_read_80 : decode cX5_read 80 = .ok (.putfield 80, 3) := by decide +kernel
theorem dX5_read_83 : decode cX5_read 83 = .ok (.return_, 1) := by decide +kernel
theorem dX5_findTokens_0 : decode cX5_findTokens 0 = .ok (.aload_n 0, 1) := by decide +kernel
theorem dX5_findTokens_1 : decode cX5_findTokens 1 = .ok (.iconst 0, 1) := by decide +kernel
theorem dX5_findTokens_2 : decode cX5_findTokens 2 = .ok (.putfield 84, 3) := by decide +kernel
theorem dX5_findTokens_5 : decode cX5_findTokens 5 = .ok (.iconst 0, 1) := by decide +kernel
theorem dX5_findTokens_6 : decode cX5_findTokens 6 = .ok (.istore_n 1, 1) := by decide +kernel
theorem dX5_findTokens_7 : decode cX5_findTokens 7 = .ok (.iconst 0, 1) := by decide +kernel
theorem dX5_findTokens_8 : decode cX5_findTokens 8 = .ok (.istore_n 2, 1) := by decide +kernel
theorem dX5_findTokens_9 : decode cX5_findTokens 9 = .ok (.iload_n 2, 1) := by decide +kernel
theorem dX5_findTokens_10 : decode cX5_findTokens 10 = .ok (.sipush 240, 3) := by decide +kernel
theorem dX5_findTokens_13 : decode cX5_findTokens 13 = .ok (.if_icmp .ge 42, 3) := by decide +kernel
theorem dX5_findTokens_16 : decode cX5_findTokens 16 = .ok (.iload_n 1, 1) := by decide +kernel
theorem dX5_findTokens_17 : decode cX5_findTokens 17 = .ok (.aload_n 0, 1) := by decide +kernel
theorem dX5_findTokens_18 : decode cX5_findTokens 18 = .ok (.getfield 32, 3) := by decide +kernel
theorem dX5_findTokens_21 : decode cX5_findTokens 21 = .ok (.if_icmp .ge 34, 3) := by decide +kernel
theorem dX5_findTokens_24 : decode cX5_findTokens 24 = .ok (.aload_n 0, 1) := by decide +kernel
theorem dX5_findTokens_25 : decode cX5_findTokens 25 = .ok (.iload_n 1, 1) := by decide +kernel
theorem dX5_findTokens_26 : decode cX5_findTokens 26 = .ok (.invokevirtual 87, 3) := by decide +kernel
theorem dX5_findTokens_29 : decode cX5_findTokens 29 = .ok (.istore_n 3, 1) := by decide +kernel
theorem dX5_findTokens_30 : decode cX5_findTokens 30 = .ok (.aload_n 0, 1) := by decide +kernel
theorem dX5_findTokens_31 : decode cX5_findTokens 31 = .ok (.getfield 9, 3) := by decide +kernel
theorem dX5_findTokens_34 : decode cX5_findTokens 34 = .ok (.iload_n 1, 1) := by decide +kernel
theorem dX5_findTokens_35 : decode cX5_findTokens 35 = .ok (.caload, 1) := by decide +kernel
theorem dX5_findTokens_36 : decode cX5_findTokens 36 = .ok (.bipush 32, 2) := by decide +kernel
theorem dX5_findTokens_38 : decode cX5_findTokens 38 = .ok (.if_icmp .eq 9, 3) := by decide +kernel
theorem dX5_findTokens_41 : decode cX5_findTokens 41 = .ok (.aload_n 0, 1) := by decide +kernel
theorem dX5_findTokens_42 : decode cX5_findTokens 42 = .ok (.iload_n 1, 1) := by decide +kernel
theorem dX5_findTokens_43 : decode cX5_findTokens 43 = .ok (.iload_n 3, 1) := by decide +kernel
theorem dX5_findTokens_44 : decode cX5_findTokens 44 = .ok (.invokevirtual 91, 3) := by decide +kernel
theorem dX5_findTokens_47 : decode cX5_findTokens 47 = .ok (.iload_n 3, 1) := by decide +kernel
theorem dX5_findTokens_48 : decode cX5_findTokens 48 = .ok (.istore_n 1, 1) := by decide +kernel
theorem dX5_findTokens_49 : decode cX5_findTokens 49 = .ok (.iinc 2 1, 3) := by decide +kernel
theorem dX5_findTokens_52 : decode cX5_findTokens 52 = .ok (.goto (-43), 3) := by decide +kernel
theorem dX5_findTokens_55 : decode cX5_findTokens 55 = .ok (.aload_n 0, 1) := by decide +kernel
theorem dX5_findTokens_56 : decode cX5_findTokens 56 = .ok (.getfield 15, 3) := by decide +kernel
theorem dX5_findTokens_59 : decode cX5_findTokens 59 = .ok (.aload_n 0, 1) := by decide +kernel
theorem dX5_findTokens_60 : decode cX5_findTokens 60 = .ok (.getfield 84, 3) := by decide +kernel
theorem dX5_findTokens_63 : decode cX5_findTokens 63 = .ok (.iconst 0, 1) := by decide +kernel
theorem dX5_findTokens_64 : decode cX5_findTokens 64 = .ok (.iastore, 1) := by decide +kernel
theorem dX5_findTokens_65 : decode cX5_findTokens 65 = .ok (.aload_n 0, 1) := by decide +kernel
theorem dX5_findTokens_66 : decode cX5_findTokens 66 = .ok (.getfield 19, 3) := by decide +kernel
theorem dX5_findTokens_69 : decode cX5_findTokens 69 = .ok (.aload_n 0, 1) := by decide +kernel
theorem dX5_findTokens_70 : decode cX5_findTokens 70 = .ok (.getfield 84, 3) := by decide +kernel
theorem dX5_findTokens_73 : decode cX5_findTokens 73 = .ok (.aload_n 0, 1) := by decide +kernel
theorem dX5_findTokens_74 : decode cX5_findTokens 74 = .ok (.getfield 32, 3) := by decide +kernel
theorem dX5_findTokens_77 : decode cX5_findTokens 77 = .ok (.iastore, 1) := by decide +kernel
theorem dX5_findTokens_78 : decode cX5_findTokens 78 = .ok (.aload_n 0, 1) := by decide +kernel
theorem dX5_findTokens_79 : decode cX5_findTokens 79 = .ok (.getfield 22, 3) := by decide +kernel
theorem dX5_findTokens_82 : decode cX5_findTokens 82 = .ok (.aload_n 0, 1) := by decide +kernel
theorem dX5_findTokens_83 : decode cX5_findTokens 83 = .ok (.getfield 84, 3) := by decide +kernel
theorem dX5_findTokens_86 : decode cX5_findTokens 86 = .ok (.iconst (-1), 1) := by decide +kernel
theorem dX5_findTokens_87 : decode cX5_findTokens 87 = .ok (.iastore, 1) := by decide +kernel
theorem dX5_findTokens_88 : decode cX5_findTokens 88 = .ok (.aload_n 0, 1) := by decide +kernel
theorem dX5_findTokens_89 : decode cX5_findTokens 89 = .ok (.dup, 1) := by decide +kernel
theorem dX5_findTokens_90 : decode cX5_findTokens 90 = .ok (.getfield 84, 3) := by decide +kernel
theorem dX5_findTokens_93 : decode cX5_findTokens 93 = .ok (.iconst 1, 1) := by decide +kernel
theorem dX5_findTokens_94 : decode cX5_findTokens 94 = .ok (.iadd, 1) := by decide +kernel
theorem dX5_findTokens_95 : decode cX5_findTokens 95 = .ok (.putfield 84, 3) := by decide +kernel
theorem dX5_findTokens_98 : decode cX5_findTokens 98 = .ok (.return_, 1) := by decide +kernel
theorem dX5_endOfToken_0 : decode cX5_endOfToken 0 = .ok (.iload_n 1, 1) := by decide +kernel
theorem dX5_endOfToken_1 : decode cX5_endOfToken 1 = .ok (.iconst 1, 1) := by decide +kernel
theorem dX5_endOfToken_2 : decode cX5_endOfToken 2 = .ok (.iadd, 1) := by decide +kernel
theorem dX5_endOfToken_3 : decode cX5_endOfToken 3 = .ok (.istore_n 2, 1) := by decide +kernel
theorem dX5_endOfToken_4 : decode cX5_endOfToken 4 = .ok (.aload_n 0, 1) := by decide +kernel
theorem dX5_endOfToken_5 : decode cX5_endOfToken 5 = .ok (.iload_n 1, 1) := by decide +kernel
theorem dX5_endOfToken_6 : decode cX5_endOfToken 6 = .ok (.invokevirtual 95, 3) := by decide +kernel
theorem dX5_endOfToken_9 : decode cX5_endOfToken 9 = .ok (.ifCond .eq 25, 3) := by decide +kernel
theorem dX5_endOfToken_12 : decode cX5_endOfToken 12 = .ok (.iload_n 2, 1) := by decide +kernel
theorem dX5_endOfToken_13 : decode cX5_endOfToken 13 = .ok (.aload_n 0, 1) := by decide +kernel
theorem dX5_endOfToken_14 : decode cX5_endOfToken 14 = .ok (.getfield 32, 3) := by decide +kernel
theorem dX5_endOfToken_17 : decode cX5_endOfToken 17 = .ok (.if_icmp .ge 47, 3) := by decide +kernel
theorem dX5_endOfToken_20 : decode cX5_endOfToken 20 = .ok (.aload_n 0, 1) := by decide +kernel
theorem dX5_endOfToken_21 : decode cX5_endOfToken 21 = .ok (.iload_n 2, 1) := by decide +kernel
theorem dX5_endOfToken_22 : decode cX5_endOfToken 22 = .ok (.invokevirtual 95, 3) := by decide +kernel
theorem dX5_endOfToken_25 : decode cX5_endOfToken 25 = .ok (.ifCond .eq 39, 3) := by decide +kernel
theorem dX5_endOfToken_28 : decode cX5_endOfToken 28 = .ok (.iinc 2 1, 3) := by decide +kernel
theorem dX5_endOfToken_31 : decode cX5_endOfToken 31 = .ok (.goto (-19), 3) := by decide +kernel
theorem dX5_endOfToken_34 : decode cX5_endOfToken 34 = .ok (.aload_n 0, 1) := by decide +kernel
theorem dX5_endOfToken_35 : decode cX5_endOfToken 35 = .ok (.iload_n 1, 1) := by decide +kernel
theorem dX5_endOfToken_36 : decode cX5_endOfToken 36 = .ok (.invokevirtual 99, 3) := by decide +kernel
theorem dX5_endOfToken_39 : decode cX5_endOfToken 39 = .ok (.ifCond .eq 25, 3) := by decide +kernel
theorem dX5_endOfToken_42 : decode cX5_endOfToken 42 = .ok (.iload_n 2, 1) := by decide +kernel
theorem dX5_endOfToken_43 : decode cX5_endOfToken 43 = .ok (.aload_n 0, 1) := by decide +kernel
theorem dX5_endOfToken_44 : decode cX5_endOfToken 44 = .ok (.getfield 32, 3) := by decide +kernel
theorem dX5_endOfToken_47 : decode cX5_endOfToken 47 = .ok (.if_icmp .ge 17, 3) := by decide +kernel
theorem dX5_endOfToken_50 : decode cX5_endOfToken 50 = .ok (.aload_n 0, 1) := by decide +kernel
theorem dX5_endOfToken_51 : decode cX5_endOfToken 51 = .ok (.iload_n 2, 1) := by decide +kernel
theorem dX5_endOfToken_52 : decode cX5_endOfToken 52 = .ok (.invokevirtual 99, 3) := by decide +kernel
theorem dX5_endOfToken_55 : decode cX5_endOfToken 55 = .ok (.ifCond .eq 9, 3) := by decide +kernel
theorem dX5_endOfToken_58 : decode cX5_endOfToken 58 = .ok (.iinc 2 1, 3) := by decide +kernel
theorem dX5_endOfToken_61 : decode cX5_endOfToken 61 = .ok (.goto (-19), 3) := by decide +kernel
theorem dX5_endOfToken_64 : decode cX5_endOfToken 64 = .ok (.iload_n 2, 1) := by decide +kernel
theorem dX5_endOfToken_65 : decode cX5_endOfToken 65 = .ok (.ireturn, 1) := by decide +kernel
theorem dX5_isLetter_0 : decode cX5_isLetter 0 = .ok (.iload_n 1, 1) := by decide +kernel
theorem dX5_isLetter_1 : decode cX5_isLetter 1 = .ok (.ifCond .lt 37, 3) := by decide +kernel
theorem dX5_isLetter_4 : decode cX5_isLetter 4 = .ok (.iload_n 1, 1) := by decide +kernel
theorem dX5_isLetter_5 : decode cX5_isLetter 5 = .ok (.aload_n 0, 1) := by decide +kernel
theorem dX5_isLetter_6 : decode cX5_isLetter 6 = .ok (.getfield 32, 3) := by decide +kernel
theorem dX5_isLetter_9 : decode cX5_isLetter 9 = .ok (.if_icmp .ge 29, 3) := by decide +kernel
theorem dX5_isLetter_12 : decode cX5_isLetter 12 = .ok (.aload_n 0, 1) := by decide +kernel
theorem dX5_isLetter_13 : decode cX5_isLetter 13 = .ok (.getfield 9, 3) := by decide +kernel
theorem dX5_isLetter_16 : decode cX5_isLetter 16 = .ok (.iload_n 1, 1) := by decide +kernel
theorem dX5_isLetter_17 : decode cX5_isLetter 17 = .ok (.caload, 1) := by decide +kernel
theorem dX5_isLetter_18 : decode cX5_isLetter 18 = .ok (.bipush 97, 2) := by decide +kernel
theorem dX5_isLetter_20 : decode cX5_isLetter 20 = .ok (.if_icmp .lt 18, 3) := by decide +kernel
theorem dX5_isLetter_23 : decode cX5_isLetter 23 = .ok (.aload_n 0, 1) := by decide +kernel
theorem dX5_isLetter_24 : decode cX5_isLetter 24 = .ok (.getfield 9, 3) := by decide +kernel
theorem dX5_isLetter_27 : decode cX5_isLetter 27 = .ok (.iload_n 1, 1) := by decide +kernel
theorem dX5_isLetter_28 : decode cX5_isLetter 28 = .ok (.caload, 1) := by decide +kernel
theorem dX5_isLetter_29 : decode cX5_isLetter 29 = .ok (.bipush 122, 2) := by decide +kernel
theorem dX5_isLetter_31 : decode cX5_isLetter 31 = .ok (.if_icmp .gt 7, 3) := by decide +kernel
theorem dX5_isLetter_34 : decode cX5_isLetter 34 = .ok (.iconst 1, 1) := by decide +kernel
theorem dX5_isLetter_35 : decode cX5_isLetter 35 = .ok (.goto 4, 3) := by decide +kernel
theorem dX5_isLetter_38 : decode cX5_isLetter 38 = .ok (.iconst 0, 1) := by decide +kernel
theorem dX5_isLetter_39 : decode cX5_isLetter 39 = .ok (.ireturn, 1) := by decide +kernel
theorem dX5_isDigit_0 : decode cX5_isDigit 0 = .ok (.iload_n 1, 1) := by decide +kernel
theorem dX5_isDigit_1 : decode cX5_isDigit 1 = .ok (.ifCond .lt 37, 3) := by decide +kernel
theorem dX5_isDigit_4 : decode cX5_isDigit 4 = .ok (.iload_n 1, 1) := by decide +kernel
theorem dX5_isDigit_5 : decode cX5_isDigit 5 = .ok (.aload_n 0, 1) := by decide +kernel
theorem dX5_isDigit_6 : decode cX5_isDigit 6 = .ok (.getfield 32, 3) := by decide +kernel
theorem dX5_isDigit_9 : decode cX5_isDigit 9 = .ok (.if_icmp .ge 29, 3) := by decide +kernel
theorem dX5_isDigit_12 : decode cX5_isDigit 12 = .ok (.aload_n 0, 1) := by decide +kernel
theorem dX5_isDigit_13 : decode cX5_isDigit 13 = .ok (.getfield 9, 3) := by decide +kernel
theorem dX5_isDigit_16 : decode cX5_isDigit 16 = .ok (.iload_n 1, 1) := by decide +kernel
theorem dX5_isDigit_17 : decode cX5_isDigit 17 = .ok (.caload, 1) := by decide +kernel
theorem dX5_isDigit_18 : decode cX5_isDigit 18 = .ok (.bipush 48, 2) := by decide +kernel
theorem dX5_isDigit_20 : decode cX5_isDigit 20 = .ok (.if_icmp .lt 18, 3) := by decide +kernel
theorem dX5_isDigit_23 : decode cX5_isDigit 23 = .ok (.aload_n 0, 1) := by decide +kernel
theorem dX5_isDigit_24 : decode cX5_isDigit 24 = .ok (.getfield 9, 3) := by decide +kernel
theorem dX5_isDigit_27 : decode cX5_isDigit 27 = .ok (.iload_n 1, 1) := by decide +kernel
theorem dX5_isDigit_28 : decode cX5_isDigit 28 = .ok (.caload, 1) := by decide +kernel
theorem dX5_isDigit_29 : decode cX5_isDigit 29 = .ok (.bipush 57, 2) := by decide +kernel
theorem dX5_isDigit_31 : decode cX5_isDigit 31 = .ok (.if_icmp .gt 7, 3) := by decide +kernel
theorem dX5_isDigit_34 : decode cX5_isDigit 34 = .ok (.iconst 1, 1) := by decide +kernel
theorem dX5_isDigit_35 : decode cX5_isDigit 35 = .ok (.goto 4, 3) := by decide +kernel
theorem dX5_isDigit_38 : decode cX5_isDigit 38 = .ok (.iconst 0, 1) := by decide +kernel
theorem dX5_isDigit_39 : decode cX5_isDigit 39 = .ok (.ireturn, 1) := by decide +kernel
theorem dX5_addToken_0 : decode cX5_addToken 0 = .ok (.aload_n 0, 1) := by decide +kernel
theorem dX5_addToken_1 : decode cX5_addToken 1 = .ok (.getfield 84, 3) := by decide +kernel
theorem dX5_addToken_4 : decode cX5_addToken 4 = .ok (.sipush 240, 3) := by decide +kernel
theorem dX5_addToken_7 : decode cX5_addToken 7 = .ok (.if_icmp .lt 4, 3) := by decide +kernel
theorem dX5_addToken_10 : decode cX5_addToken 10 = .ok (.return_, 1) := by decide +kernel
theorem dX5_addToken_11 : decode cX5_addToken 11 = .ok (.aload_n 0, 1) := by decide +kernel
theorem dX5_addToken_12 : decode cX5_addToken 12 = .ok (.iload_n 1, 1) := by decide +kernel
theorem dX5_addToken_13 : decode cX5_addToken 13 = .ok (.iload_n 2, 1) := by decide +kernel
theorem dX5_addToken_14 : decode cX5_addToken 14 = .ok (.invokevirtual 102, 3) := by decide +kernel
theorem dX5_addToken_17 : decode cX5_addToken 17 = .ok (.istore_n 3, 1) := by decide +kernel
theorem dX5_addToken_18 : decode cX5_addToken 18 = .ok (.aload_n 0, 1) := by decide +kernel
theorem dX5_addToken_19 : decode cX5_addToken 19 = .ok (.getfield 15, 3) := by decide +kernel
theorem dX5_addToken_22 : decode cX5_addToken 22 = .ok (.aload_n 0, 1) := by decide +kernel
theorem dX5_addToken_23 : decode cX5_addToken 23 = .ok (.getfield 84, 3) := by decide +kernel
theorem dX5_addToken_26 : decode cX5_addToken 26 = .ok (.iload_n 3, 1) := by decide +kernel
theorem dX5_addToken_27 : decode cX5_addToken 27 = .ok (.iastore, 1) := by decide +kernel
theorem dX5_addToken_28 : decode cX5_addToken 28 = .ok (.aload_n 0, 1) := by decide +kernel
theorem dX5_addToken_29 : decode cX5_addToken 29 = .ok (.getfield 19, 3) := by decide +kernel
theorem dX5_addToken_32 : decode cX5_addToken 32 = .ok (.aload_n 0, 1) := by decide +kernel
theorem dX5_addToken_33 : decode cX5_addToken 33 = .ok (.getfield 84, 3) := by decide +kernel
theorem dX5_addToken_36 : decode cX5_addToken 36 = .ok (.iload_n 1, 1) := by decide +kernel
theorem dX5_addToken_37 : decode cX5_addToken 37 = .ok (.iastore, 1) := by decide +kernel
theorem dX5_addToken_38 : decode cX5_addToken 38 = .ok (.aload_n 0, 1) := by decide +kernel
theorem dX5_addToken_39 : decode cX5_addToken 39 = .ok (.getfield 22, 3) := by decide +kernel
theorem dX5_addToken_42 : decode cX5_addToken 42 = .ok (.aload_n 0, 1) := by decide +kernel
theorem dX5_addToken_43 : decode cX5_addToken 43 = .ok (.getfield 84, 3) := by decide +kernel
theorem dX5_addToken_46 : decode cX5_addToken 46 = .ok (.iload_n 3, 1) := by decide +kernel
theorem dX5_addToken_47 : decode cX5_addToken 47 = .ok (.iconst 1, 1) := by decide +kernel
theorem dX5_addToken_48 : decode cX5_addToken 48 = .ok (.if_icmp .ne 15, 3) := by decide +kernel
theorem dX5_addToken_51 : decode cX5_addToken 51 = .ok (.aload_n 0, 1) := by decide +kernel
theorem dX5_addToken_52 : decode cX5_addToken 52 = .ok (.getfield 9, 3) := by decide +kernel
theorem dX5_addToken_55 : decode cX5_addToken 55 = .ok (.iload_n 1, 1) := by decide +kernel
theorem dX5_addToken_56 : decode cX5_addToken 56 = .ok (.caload, 1) := by decide +kernel
theorem dX5_addToken_57 : decode cX5_addToken 57 = .ok (.bipush 97, 2) := by decide +kernel
theorem dX5_addToken_59 : decode cX5_addToken 59 = .ok (.isub, 1) := by decide +kernel
theorem dX5_addToken_60 : decode cX5_addToken 60 = .ok (.goto 18, 3) := by decide +kernel
theorem dX5_addToken_63 : decode cX5_addToken 63 = .ok (.iload_n 3, 1) := by decide +kernel
theorem dX5_addToken_64 : decode cX5_addToken 64 = .ok (.iconst 2, 1) := by decide +kernel
theorem dX5_addToken_65 : decode cX5_addToken 65 = .ok (.if_icmp .ne 12, 3) := by decide +kernel
theorem dX5_addToken_68 : decode cX5_addToken 68 = .ok (.aload_n 0, 1) := by decide +kernel
theorem dX5_addToken_69 : decode cX5_addToken 69 = .ok (.iload_n 1, 1) := by decide +kernel
theorem dX5_addToken_70 : decode cX5_addToken 70 = .ok (.iload_n 2, 1) := by decide +kernel
theorem dX5_addToken_71 : decode cX5_addToken 71 = .ok (.invokevirtual 106, 3) := by decide +kernel
theorem dX5_addToken_74 : decode cX5_addToken 74 = .ok (.goto 4, 3) := by decide +kernel
theorem dX5_addToken_77 : decode cX5_addToken 77 = .ok (.iconst (-1), 1) := by decide +kernel
theorem dX5_addToken_78 : decode cX5_addToken 78 = .ok (.iastore, 1) := by decide +kernel
theorem dX5_addToken_79 : decode cX5_addToken 79 = .ok (.aload_n 0, 1) := by decide +kernel
theorem dX5_addToken_80 : decode cX5_addToken 80 = .ok (.dup, 1) := by decide +kernel
theorem dX5_addToken_81 : decode cX5_addToken 81 = .ok (.getfield 84, 3) := by decide +kernel
theorem dX5_addToken_84 : decode cX5_addToken 84 = .ok (.iconst 1, 1) := by decide +kernel
theorem dX5_addToken_85 : decode cX5_addToken 85 = .ok (.iadd, 1) := by decide +kernel
theorem dX5_addToken_86 : decode cX5_addToken 86 = .ok (.putfield 84, 3) := by decide +kernel
theorem dX5_addToken_89 : decode cX5_addToken 89 = .ok (.return_, 1) := by decide +kernel
theorem dX5_kindOf_0 : decode cX5_kindOf 0 = .ok (.aload_n 0, 1) := by decide +kernel
theorem dX5_kindOf_1 : decode cX5_kindOf 1 = .ok (.iload_n 1, 1) := by decide +kernel
theorem dX5_kindOf_2 : decode cX5_kindOf 2 = .ok (.invokevirtual 99, 3) := by decide +kernel
theorem dX5_kindOf_5 : decode cX5_kindOf 5 = .ok (.ifCond .eq 17, 3) := by decide +kernel
theorem dX5_kindOf_8 : decode cX5_kindOf 8 = .ok (.iload_n 2, 1) := by decide +kernel
theorem dX5_kindOf_9 : decode cX5_kindOf 9 = .ok (.iload_n 1, 1) := by decide +kernel
theorem dX5_kindOf_10 : decode cX5_kindOf 10 = .ok (.isub, 1) := by decide +kernel
theorem dX5_kindOf_11 : decode cX5_kindOf 11 = .ok (.bipush 9, 2) := by decide +kernel
theorem dX5_kindOf_13 : decode cX5_kindOf 13 = .ok (.if_icmp .le 7, 3) := by decide +kernel
theorem dX5_kindOf_16 : decode cX5_kindOf 16 = .ok (.iconst 3, 1) := by decide +kernel
theorem dX5_kindOf_17 : decode cX5_kindOf 17 = .ok (.goto 4, 3) := by decide +kernel
theorem dX5_kindOf_20 : decode cX5_kindOf 20 = .ok (.iconst 2, 1) := by decide +kernel
theorem dX5_kindOf_21 : decode cX5_kindOf 21 = .ok (.ireturn, 1) := by decide +kernel
theorem dX5_kindOf_22 : decode cX5_kindOf 22 = .ok (.aload_n 0, 1) := by decide +kernel
theorem dX5_kindOf_23 : decode cX5_kindOf 23 = .ok (.iload_n 1, 1) := by decide +kernel
theorem dX5_kindOf_24 : decode cX5_kindOf 24 = .ok (.invokevirtual 95, 3) := by decide +kernel
theorem dX5_kindOf_27 : decode cX5_kindOf 27 = .ok (.ifCond .eq 21, 3) := by decide +kernel
theorem dX5_kindOf_30 : decode cX5_kindOf 30 = .ok (.iload_n 2, 1) := by decide +kernel
theorem dX5_kindOf_31 : decode cX5_kindOf 31 = .ok (.iload_n 1, 1) := by decide +kernel
theorem dX5_kindOf_32 : decode cX5_kindOf 32 = .ok (.isub, 1) := by decide +kernel
theorem dX5_kindOf_33 : decode cX5_kindOf 33 = .ok (.iconst 1, 1) := by decide +kernel
theorem dX5_kindOf_34 : decode cX5_kindOf 34 = .ok (.if_icmp .ne 7, 3) := by decide +kernel
theorem dX5_kindOf_37 : decode cX5_kindOf 37 = .ok (.iconst 1, 1) := by decide +kernel
theorem dX5_kindOf_38 : decode cX5_kindOf 38 = .ok (.goto 9, 3) := by decide +kernel
theorem dX5_kindOf_41 : decode cX5_kindOf 41 = .ok (.aload_n 0, 1) := by decide +kernel
theorem dX5_kindOf_42 : decode cX5_kindOf 42 = .ok (.iload_n 1, 1) := by decide +kernel
theorem dX5_kindOf_43 : decode cX5_kindOf 43 = .ok (.iload_n 2, 1) := by decide +kernel
theorem dX5_kindOf_44 : decode cX5_kindOf 44 = .ok (.invokevirtual 109, 3) := by decide +kernel
theorem dX5_kindOf_47 : decode cX5_kindOf 47 = .ok (.ireturn, 1) := by decide +kernel
theorem dX5_kindOf_48 : decode cX5_kindOf 48 = .ok (.ldc 112, 2) := by decide +kernel
theorem dX5_kindOf_50 : decode cX5_kindOf 50 = .ok (.aload_n 0, 1) := by decide +kernel
theorem dX5_kindOf_51 : decode cX5_kindOf 51 = .ok (.getfield 9, 3) := by decide +kernel
theorem dX5_kindOf_54 : decode cX5_kindOf 54 = .ok (.iload_n 1, 1) := by decide +kernel
theorem dX5_kindOf_55 : decode cX5_kindOf 55 = .ok (.caload, 1) := by decide +kernel
theorem dX5_kindOf_56 : decode cX5_kindOf 56 = .ok (.invokevirtual 114, 3) := by decide +kernel
theorem dX5_kindOf_59 : decode cX5_kindOf 59 = .ok (.ifCond .lt 12, 3) := by decide +kernel
theorem dX5_kindOf_62 : decode cX5_kindOf 62 = .ok (.aload_n 0, 1) := by decide +kernel
theorem dX5_kindOf_63 : decode cX5_kindOf 63 = .ok (.getfield 9, 3) := by decide +kernel
theorem dX5_kindOf_66 : decode cX5_kindOf 66 = .ok (.iload_n 1, 1) := by decide +kernel
theorem dX5_kindOf_67 : decode cX5_kindOf 67 = .ok (.caload, 1) := by decide +kernel
theorem dX5_kindOf_68 : decode cX5_kindOf 68 = .ok (.goto 4, 3) := by decide +kernel
theorem dX5_kindOf_71 : decode cX5_kindOf 71 = .ok (.iconst 3, 1) := by decide +kernel
theorem dX5_kindOf_72 : decode cX5_kindOf 72 = .ok (.ireturn, 1) := by decide +kernel
theorem dX5_kindOfWord_0 : decode cX5_kindOfWord 0 = .ok (.aload_n 0, 1) := by decide +kernel
theorem dX5_kindOfWord_1 : decode cX5_kindOfWord 1 = .ok (.ldc 119, 2) := by decide +kernel
theorem dX5_kindOfWord_3 : decode cX5_kindOfWord 3 = .ok (.iload_n 1, 1) := by decide +kernel
theorem dX5_kindOfWord_4 : decode cX5_kindOfWord 4 = .ok (.iload_n 2, 1) := by decide +kernel
theorem dX5_kindOfWord_5 : decode cX5_kindOfWord 5 = .ok (.invokevirtual 121, 3) := by decide +kernel
theorem dX5_kindOfWord_8 : decode cX5_kindOfWord 8 = .ok (.ifCond .eq 8, 3) := by decide +kernel
theorem dX5_kindOfWord_11 : decode cX5_kindOfWord 11 = .ok (.bipush 20, 2) := by decide +kernel
theorem dX5_kindOfWord_13 : decode cX5_kindOfWord 13 = .ok (.goto 132, 3) := by decide +kernel
theorem dX5_kindOfWord_16 : decode cX5_kindOfWord 16 = .ok (.aload_n 0, 1) := by decide +kernel
theorem dX5_kindOfWord_17 : decode cX5_kindOfWord 17 = .ok (.ldc 125, 2) := by decide +kernel
theorem dX5_kindOfWord_19 : decode cX5_kindOfWord 19 = .ok (.iload_n 1, 1) := by decide +kernel
theorem dX5_kindOfWord_20 : decode cX5_kindOfWord 20 = .ok (.iload_n 2, 1) := by decide +kernel
theorem dX5_kindOfWord_21 : decode cX5_kindOfWord 21 = .ok (.invokevirtual 121, 3) := by decide +kernel
theorem dX5_kindOfWord_24 : decode cX5_kindOfWord 24 = .ok (.ifCond .eq 8, 3) := by decide +kernel
theorem dX5_kindOfWord_27 : decode cX5_kindOfWord 27 = .ok (.bipush 21, 2) := by decide +kernel
theorem dX5_kindOfWord_29 : decode cX5_kindOfWord 29 = .ok (.goto 116, 3) := by decide +kernel
theorem dX5_kindOfWord_32 : decode cX5_kindOfWord 32 = .ok (.aload_n 0, 1) := by decide +kernel
theorem dX5_kindOfWord_33 : decode cX5_kindOfWord 33 = .ok (.ldc 127, 2) := by decide +kernel
theorem dX5_kindOfWord_35 : decode cX5_kindOfWord 35 = .ok (.iload_n 1, 1) := by decide +kernel
theorem dX5_kindOfWord_36 : decode cX5_kindOfWord 36 = .ok (.iload_n 2, 1) := by decide +kernel
theorem dX5_kindOfWord_37 : decode cX5_kindOfWord 37 = .ok (.invokevirtual 121, 3) := by decide +kernel
theorem dX5_kindOfWord_40 : decode cX5_kindOfWord 40 = .ok (.ifCond .eq 8, 3) := by decide +kernel
theorem dX5_kindOfWord_43 : decode cX5_kindOfWord 43 = .ok (.bipush 22, 2) := by decide +kernel
theorem dX5_kindOfWord_45 : decode cX5_kindOfWord 45 = .ok (.goto 100, 3) := by decide +kernel
theorem dX5_kindOfWord_48 : decode cX5_kindOfWord 48 = .ok (.aload_n 0, 1) := by decide +kernel
theorem dX5_kindOfWord_49 : decode cX5_kindOfWord 49 = .ok (.ldc 129, 2) := by decide +kernel
theorem dX5_kindOfWord_51 : decode cX5_kindOfWord 51 = .ok (.iload_n 1, 1) := by decide +kernel
theorem dX5_kindOfWord_52 : decode cX5_kindOfWord 52 = .ok (.iload_n 2, 1) := by decide +kernel
theorem dX5_kindOfWord_53 : decode cX5_kindOfWord 53 = .ok (.invokevirtual 121, 3) := by decide +kernel
theorem dX5_kindOfWord_56 : decode cX5_kindOfWord 56 = .ok (.ifCond .eq 8, 3) := by decide +kernel
theorem dX5_kindOfWord_59 : decode cX5_kindOfWord 59 = .ok (.bipush 16, 2) := by decide +kernel
theorem dX5_kindOfWord_61 : decode cX5_kindOfWord 61 = .ok (.goto 84, 3) := by decide +kernel
theorem dX5_kindOfWord_64 : decode cX5_kindOfWord 64 = .ok (.aload_n 0, 1) := by decide +kernel
theorem dX5_kindOfWord_65 : decode cX5_kindOfWord 65 = .ok (.ldc 131, 2) := by decide +kernel
theorem dX5_kindOfWord_67 : decode cX5_kindOfWord 67 = .ok (.iload_n 1, 1) := by decide +kernel
theorem dX5_kindOfWord_68 : decode cX5_kindOfWord 68 = .ok (.iload_n 2, 1) := by decide +kernel
theorem dX5_kindOfWord_69 : decode cX5_kindOfWord 69 = .ok (.invokevirtual 121, 3) := by decide +kernel
theorem dX5_kindOfWord_72 : decode cX5_kindOfWord 72 = .ok (.ifCond .eq 8, 3) := by decide +kernel
theorem dX5_kindOfWord_75 : decode cX5_kindOfWord 75 = .ok (.bipush 23, 2) := by decide +kernel
theorem dX5_kindOfWord_77 : decode cX5_kindOfWord 77 = .ok (.goto 68, 3) := by decide +kernel
theorem dX5_kindOfWord_80 : decode cX5_kindOfWord 80 = .ok (.aload_n 0, 1) := by decide +kernel
theorem dX5_kindOfWord_81 : decode cX5_kindOfWord 81 = .ok (.ldc 133, 2) := by decide +kernel
theorem dX5_kindOfWord_83 : decode cX5_kindOfWord 83 = .ok (.iload_n 1, 1) := by decide +kernel
theorem dX5_kindOfWord_84 : decode cX5_kindOfWord 84 = .ok (.iload_n 2, 1) := by decide +kernel
theorem dX5_kindOfWord_85 : decode cX5_kindOfWord 85 = .ok (.invokevirtual 121, 3) := by decide +kernel
theorem dX5_kindOfWord_88 : decode cX5_kindOfWord 88 = .ok (.ifCond .eq 8, 3) := by decide +kernel
theorem dX5_kindOfWord_91 : decode cX5_kindOfWord 91 = .ok (.bipush 17, 2) := by decide +kernel
theorem dX5_kindOfWord_93 : decode cX5_kindOfWord 93 = .ok (.goto 52, 3) := by decide +kernel
theorem dX5_kindOfWord_96 : decode cX5_kindOfWord 96 = .ok (.aload_n 0, 1) := by decide +kernel
theorem dX5_kindOfWord_97 : decode cX5_kindOfWord 97 = .ok (.ldc 135, 2) := by decide +kernel
theorem dX5_kindOfWord_99 : decode cX5_kindOfWord 99 = .ok (.iload_n 1, 1) := by decide +kernel
theorem dX5_kindOfWord_100 : decode cX5_kindOfWord 100 = .ok (.iload_n 2, 1) := by decide +kernel
theorem dX5_kindOfWord_101 : decode cX5_kindOfWord 101 = .ok (.invokevirtual 121, 3) := by decide +kernel
theorem dX5_kindOfWord_104 : decode cX5_kindOfWord 104 = .ok (.ifCond .eq 8, 3) := by decide +kernel
theorem dX5_kindOfWord_107 : decode cX5_kindOfWord 107 = .ok (.bipush 13, 2) := by decide +kernel
theorem dX5_kindOfWord_109 : decode cX5_kindOfWord 109 = .ok (.goto 36, 3) := by decide +kernel
theorem dX5_kindOfWord_112 : decode cX5_kindOfWord 112 = .ok (.aload_n 0, 1) := by decide +kernel
theorem dX5_kindOfWord_113 : decode cX5_kindOfWord 113 = .ok (.ldc 137, 2) := by decide +kernel
theorem dX5_kindOfWord_115 : decode cX5_kindOfWord 115 = .ok (.iload_n 1, 1) := by decide +kernel
theorem dX5_kindOfWord_116 : decode cX5_kindOfWord 116 = .ok (.iload_n 2, 1) := by decide +kernel
theorem dX5_kindOfWord_117 : decode cX5_kindOfWord 117 = .ok (.invokevirtual 121, 3) := by decide +kernel
theorem dX5_kindOfWord_120 : decode cX5_kindOfWord 120 = .ok (.ifCond .eq 8, 3) := by decide +kernel
theorem dX5_kindOfWord_123 : decode cX5_kindOfWord 123 = .ok (.bipush 14, 2) := by decide +kernel
theorem dX5_kindOfWord_125 : decode cX5_kindOfWord 125 = .ok (.goto 20, 3) := by decide +kernel
theorem dX5_kindOfWord_128 : decode cX5_kindOfWord 128 = .ok (.aload_n 0, 1) := by decide +kernel
theorem dX5_kindOfWord_129 : decode cX5_kindOfWord 129 = .ok (.ldc 139, 2) := by decide +kernel
theorem dX5_kindOfWord_131 : decode cX5_kindOfWord 131 = .ok (.iload_n 1, 1) := by decide +kernel
theorem dX5_kindOfWord_132 : decode cX5_kindOfWord 132 = .ok (.iload_n 2, 1) := by decide +kernel
theorem dX5_kindOfWord_133 : decode cX5_kindOfWord 133 = .ok (.invokevirtual 121, 3) := by decide +kernel
theorem dX5_kindOfWord_136 : decode cX5_kindOfWord 136 = .ok (.ifCond .eq 8, 3) := by decide +kernel
theorem dX5_kindOfWord_139 : decode cX5_kindOfWord 139 = .ok (.bipush 18, 2) := by decide +kernel
theorem dX5_kindOfWord_141 : decode cX5_kindOfWord 141 = .ok (.goto 4, 3) := by decide +kernel
theorem dX5_kindOfWord_144 : decode cX5_kindOfWord 144 = .ok (.iconst 3, 1) := by decide +kernel
theorem dX5_kindOfWord_145 : decode cX5_kindOfWord 145 = .ok (.ireturn, 1) := by decide +kernel
theorem dX5_isWord_0 : decode cX5_isWord 0 = .ok (.iload_n 3, 1) := by decide +kernel
theorem dX5_isWord_1 : decode cX5_isWord 1 = .ok (.iload_n 2, 1) := by decide +kernel
theorem dX5_isWord_2 : decode cX5_isWord 2 = .ok (.isub, 1) := by decide +kernel
theorem dX5_isWord_3 : decode cX5_isWord 3 = .ok (.aload_n 1, 1) := by decide +kernel
theorem dX5_isWord_4 : decode cX5_isWord 4 = .ok (.invokevirtual 141, 3) := by decide +kernel
theorem dX5_isWord_7 : decode cX5_isWord 7 = .ok (.if_icmp .ne 7, 3) := by decide +kernel
theorem dX5_isWord_10 : decode cX5_isWord 10 = .ok (.iconst 1, 1) := by decide +kernel
theorem dX5_isWord_11 : decode cX5_isWord 11 = .ok (.goto 4, 3) := by decide +kernel
theorem dX5_isWord_14 : decode cX5_isWord 14 = .ok (.iconst 0, 1) := by decide +kernel
theorem dX5_isWord_15 : decode cX5_isWord 15 = .ok (.istore 4, 2) := by decide +kernel
theorem dX5_isWord_17 : decode cX5_isWord 17 = .ok (.iconst 0, 1) := by decide +kernel
theorem dX5_isWord_18 : decode cX5_isWord 18 = .ok (.istore 5, 2) := by decide +kernel
theorem dX5_isWord_20 : decode cX5_isWord 20 = .ok (.iload 4, 2) := by decide +kernel
theorem dX5_isWord_22 : decode cX5_isWord 22 = .ok (.ifCond .eq 54, 3) := by decide +kernel
theorem dX5_isWord_25 : decode cX5_isWord 25 = .ok (.iload 5, 2) := by decide +kernel
theorem dX5_isWord_27 : decode cX5_isWord 27 = .ok (.aload_n 1, 1) := by decide +kernel
theorem dX5_isWord_28 : decode cX5_isWord 28 = .ok (.invokevirtual 141, 3) := by decide +kernel
theorem dX5_isWord_31 : decode cX5_isWord 31 = .ok (.if_icmp .ge 45, 3) := by decide +kernel
theorem dX5_isWord_34 : decode cX5_isWord 34 = .ok (.iload_n 2, 1) := by decide +kernel
theorem dX5_isWord_35 : decode cX5_isWord 35 = .ok (.iload 5, 2) := by decide +kernel
theorem dX5_isWord_37 : decode cX5_isWord 37 = .ok (.iadd, 1) := by decide +kernel
theorem dX5_isWord_38 : decode cX5_isWord 38 = .ok (.aload_n 0, 1) := by decide +kernel
theorem dX5_isWord_39 : decode cX5_isWord 39 = .ok (.getfield 32, 3) := by decide +kernel
theorem dX5_isWord_42 : decode cX5_isWord 42 = .ok (.if_icmp .ge 25, 3) := by decide +kernel
theorem dX5_isWord_45 : decode cX5_isWord 45 = .ok (.aload_n 0, 1) := by decide +kernel
theorem dX5_isWord_46 : decode cX5_isWord 46 = .ok (.getfield 9, 3) := by decide +kernel
theorem dX5_isWord_49 : decode cX5_isWord 49 = .ok (.iload_n 2, 1) := by decide +kernel
theorem dX5_isWord_50 : decode cX5_isWord 50 = .ok (.iload 5, 2) := by decide +kernel
theorem dX5_isWord_52 : decode cX5_isWord 52 = .ok (.iadd, 1) := by decide +kernel
theorem dX5_isWord_53 : decode cX5_isWord 53 = .ok (.caload, 1) := by decide +kernel
theorem dX5_isWord_54 : decode cX5_isWord 54 = .ok (.aload_n 1, 1) := by decide +kernel
theorem dX5_isWord_55 : decode cX5_isWord 55 = .ok (.iload 5, 2) := by decide +kernel
theorem dX5_isWord_57 : decode cX5_isWord 57 = .ok (.invokevirtual 144, 3) := by decide +kernel
theorem dX5_isWord_60 : decode cX5_isWord 60 = .ok (.if_icmp .ne 7, 3) := by decide +kernel
theorem dX5_isWord_63 : decode cX5_isWord 63 = .ok (.iconst 1, 1) := by decide +kernel
theorem dX5_isWord_64 : decode cX5_isWord 64 = .ok (.goto 4, 3) := by decide +kernel
theorem dX5_isWord_67 : decode cX5_isWord 67 = .ok (.iconst 0, 1) := by decide +kernel
theorem dX5_isWord_68 : decode cX5_isWord 68 = .ok (.istore 4, 2) := by decide +kernel
theorem dX5_isWord_70 : decode cX5_isWord 70 = .ok (.iinc 5 1, 3) := by decide +kernel
theorem dX5_isWord_73 : decode cX5_isWord 73 = .ok (.goto (-53), 3) := by decide +kernel
theorem dX5_isWord_76 : decode cX5_isWord 76 = .ok (.iload 4, 2) := by decide +kernel
theorem dX5_isWord_78 : decode cX5_isWord 78 = .ok (.ireturn, 1) := by decide +kernel
theorem dX5_numberAt_0 : decode cX5_numberAt 0 = .ok (.iconst 0, 1) := by decide +kernel
theorem dX5_numberAt_1 : decode cX5_numberAt 1 = .ok (.istore_n 3, 1) := by decide +kernel
theorem dX5_numberAt_2 : decode cX5_numberAt 2 = .ok (.iload_n 1, 1) := by decide +kernel
theorem dX5_numberAt_3 : decode cX5_numberAt 3 = .ok (.istore 4, 2) := by decide +kernel
theorem dX5_numberAt_5 : decode cX5_numberAt 5 = .ok (.iload 4, 2) := by decide +kernel
theorem dX5_numberAt_7 : decode cX5_numberAt 7 = .ok (.iload_n 2, 1) := by decide +kernel
theorem dX5_numberAt_8 : decode cX5_numberAt 8 = .ok (.if_icmp .ge 34, 3) := by decide +kernel
theorem dX5_numberAt_11 : decode cX5_numberAt 11 = .ok (.iload 4, 2) := by decide +kernel
theorem dX5_numberAt_13 : decode cX5_numberAt 13 = .ok (.aload_n 0, 1) := by decide +kernel
theorem dX5_numberAt_14 : decode cX5_numberAt 14 = .ok (.getfield 32, 3) := by decide +kernel
theorem dX5_numberAt_17 : decode cX5_numberAt 17 = .ok (.if_icmp .ge 25, 3) := by decide +kernel
theorem dX5_numberAt_20 : decode cX5_numberAt 20 = .ok (.bipush 10, 2) := by decide +kernel
theorem dX5_numberAt_22 : decode cX5_numberAt 22 = .ok (.iload_n 3, 1) := by decide +kernel
theorem dX5_numberAt_23 : decode cX5_numberAt 23 = .ok (.imul, 1) := by decide +kernel
theorem dX5_numberAt_24 : decode cX5_numberAt 24 = .ok (.aload_n 0, 1) := by decide +kernel
theorem dX5_numberAt_25 : decode cX5_numberAt 25 = .ok (.getfield 9, 3) := by decide +kernel
theorem dX5_numberAt_28 : decode cX5_numberAt 28 = .ok (.iload 4, 2) := by decide +kernel
theorem dX5_numberAt_30 : decode cX5_numberAt 30 = .ok (.caload, 1) := by decide +kernel
theorem dX5_numberAt_31 : decode cX5_numberAt 31 = .ok (.bipush 48, 2) := by decide +kernel
theorem dX5_numberAt_33 : decode cX5_numberAt 33 = .ok (.isub, 1) := by decide +kernel
theorem dX5_numberAt_34 : decode cX5_numberAt 34 = .ok (.iadd, 1) := by decide +kernel
theorem dX5_numberAt_35 : decode cX5_numberAt 35 = .ok (.istore_n 3, 1) := by decide +kernel
theorem dX5_numberAt_36 : decode cX5_numberAt 36 = .ok (.iinc 4 1, 3) := by decide +kernel
theorem dX5_numberAt_39 : decode cX5_numberAt 39 = .ok (.goto (-34), 3) := by decide +kernel
theorem dX5_numberAt_42 : decode cX5_numberAt 42 = .ok (.iload_n 3, 1) := by decide +kernel
theorem dX5_numberAt_43 : decode cX5_numberAt 43 = .ok (.ireturn, 1) := by decide +kernel
theorem dX5_goTo_0 : decode cX5_goTo 0 = .ok (.aload_n 0, 1) := by decide +kernel
theorem dX5_goTo_1 : decode cX5_goTo 1 = .ok (.iload_n 1, 1) := by decide +kernel
theorem dX5_goTo_2 : decode cX5_goTo 2 = .ok (.aload_n 0, 1) := by decide +kernel
theorem dX5_goTo_3 : decode cX5_goTo 3 = .ok (.getfield 84, 3) := by decide +kernel
theorem dX5_goTo_6 : decode cX5_goTo 6 = .ok (.iconst 1, 1) := by decide +kernel
theorem dX5_goTo_7 : decode cX5_goTo 7 = .ok (.isub, 1) := by decide +kernel
theorem dX5_goTo_8 : decode cX5_goTo 8 = .ok (.invokestatic 148, 3) := by decide +kernel
theorem dX5_goTo_11 : decode cX5_goTo 11 = .ok (.putfield 153, 3) := by decide +kernel
theorem dX5_goTo_14 : decode cX5_goTo 14 = .ok (.aload_n 0, 1) := by decide +kernel
theorem dX5_goTo_15 : decode cX5_goTo 15 = .ok (.getfield 153, 3) := by decide +kernel
theorem dX5_goTo_18 : decode cX5_goTo 18 = .ok (.ifCond .lt 42, 3) := by decide +kernel
theorem dX5_goTo_21 : decode cX5_goTo 21 = .ok (.aload_n 0, 1) := by decide +kernel
theorem dX5_goTo_22 : decode cX5_goTo 22 = .ok (.aload_n 0, 1) := by decide +kernel
theorem dX5_goTo_23 : decode cX5_goTo 23 = .ok (.getfield 15, 3) := by decide +kernel
theorem dX5_goTo_26 : decode cX5_goTo 26 = .ok (.aload_n 0, 1) := by decide +kernel
theorem dX5_goTo_27 : decode cX5_goTo 27 = .ok (.getfield 153, 3) := by decide +kernel
theorem dX5_goTo_30 : decode cX5_goTo 30 = .ok (.iaload, 1) := by decide +kernel
theorem dX5_goTo_31 : decode cX5_goTo 31 = .ok (.putfield 70, 3) := by decide +kernel
theorem dX5_goTo_34 : decode cX5_goTo 34 = .ok (.aload_n 0, 1) := by decide +kernel
theorem dX5_goTo_35 : decode cX5_goTo 35 = .ok (.aload_n 0, 1) := by decide +kernel
theorem dX5_goTo_36 : decode cX5_goTo 36 = .ok (.getfield 19, 3) := by decide +kernel
theorem dX5_goTo_39 : decode cX5_goTo 39 = .ok (.aload_n 0, 1) := by decide +kernel
theorem dX5_goTo_40 : decode cX5_goTo 40 = .ok (.getfield 153, 3) := by decide +kernel
theorem dX5_goTo_43 : decode cX5_goTo 43 = .ok (.iaload, 1) := by decide +kernel
theorem dX5_goTo_44 : decode cX5_goTo 44 = .ok (.putfield 36, 3) := by decide +kernel
theorem dX5_goTo_47 : decode cX5_goTo 47 = .ok (.aload_n 0, 1) := by decide +kernel
theorem dX5_goTo_48 : decode cX5_goTo 48 = .ok (.aload_n 0, 1) := by decide +kernel
theorem dX5_goTo_49 : decode cX5_goTo 49 = .ok (.getfield 22, 3) := by decide +kernel
theorem dX5_goTo_52 : decode cX5_goTo 52 = .ok (.aload_n 0, 1) := by decide +kernel
theorem dX5_goTo_53 : decode cX5_goTo 53 = .ok (.getfield 153, 3) := by decide +kernel
theorem dX5_goTo_56 : decode cX5_goTo 56 = .ok (.iaload, 1) := by decide +kernel
theorem dX5_goTo_57 : decode cX5_goTo 57 = .ok (.putfield 156, 3) := by decide +kernel
theorem dX5_goTo_60 : decode cX5_goTo 60 = .ok (.return_, 1) := by decide +kernel
theorem dX5_readDeclaration_0 : decode cX5_readDeclaration 0 = .ok (.aload_n 0, 1) := by decide +kernel
theorem dX5_readDeclaration_1 : decode cX5_readDeclaration 1 = .ok (.getfield 70, 3) := by decide +kernel
theorem dX5_readDeclaration_4 : decode cX5_readDeclaration 4 = .ok (.istore_n 1, 1) := by decide +kernel
theorem dX5_readDeclaration_5 : decode cX5_readDeclaration 5 = .ok (.aload_n 0, 1) := by decide +kernel
theorem dX5_readDeclaration_6 : decode cX5_readDeclaration 6 = .ok (.aload_n 0, 1) := by decide +kernel
theorem dX5_readDeclaration_7 : decode cX5_readDeclaration 7 = .ok (.getfield 153, 3) := by decide +kernel
theorem dX5_readDeclaration_10 : decode cX5_readDeclaration 10 = .ok (.iconst 1, 1) := by decide +kernel
theorem dX5_readDeclaration_11 : decode cX5_readDeclaration 11 = .ok (.iadd, 1) := by decide +kernel
theorem dX5_readDeclaration_12 : decode cX5_readDeclaration 12 = .ok (.invokevirtual 66, 3) := by decide +kernel
theorem dX5_readDeclaration_15 : decode cX5_readDeclaration 15 = .ok (.iload_n 1, 1) := by decide +kernel
theorem dX5_readDeclaration_16 : decode cX5_readDeclaration 16 = .ok (.bipush 22, 2) := by decide +kernel
theorem dX5_readDeclaration_18 : decode cX5_readDeclaration 18 = .ok (.if_icmp .ne 28, 3) := by decide +kernel
theorem dX5_readDeclaration_21 : decode cX5_readDeclaration 21 = .ok (.aload_n 0, 1) := by decide +kernel
theorem dX5_readDeclaration_22 : decode cX5_readDeclaration 22 = .ok (.iconst 3, 1) := by decide +kernel
theorem dX5_readDeclaration_23 : decode cX5_readDeclaration 23 = .ok (.invokevirtual 159, 3) := by decide +kernel
theorem dX5_readDeclaration_26 : decode cX5_readDeclaration 26 = .ok (.istore_n 2, 1) := by decide +kernel
theorem dX5_readDeclaration_27 : decode cX5_readDeclaration 27 = .ok (.aload_n 0, 1) := by decide +kernel
theorem dX5_readDeclaration_28 : decode cX5_readDeclaration 28 = .ok (.getfield 45, 3) := by decide +kernel
theorem dX5_readDeclaration_31 : decode cX5_readDeclaration 31 = .ok (.iload_n 2, 1) := by decide +kernel
theorem dX5_readDeclaration_32 : decode cX5_readDeclaration 32 = .ok (.aload_n 0, 1) := by decide +kernel
theorem dX5_readDeclaration_33 : decode cX5_readDeclaration 33 = .ok (.invokevirtual 162, 3) := by decide +kernel
theorem dX5_readDeclaration_36 : decode cX5_readDeclaration 36 = .ok (.invokevirtual 166, 3) := by decide +kernel
theorem dX5_readDeclaration_39 : decode cX5_readDeclaration 39 = .ok (.aload_n 0, 1) := by decide +kernel
theorem dX5_readDeclaration_40 : decode cX5_readDeclaration 40 = .ok (.iload_n 2, 1) := by decide +kernel
theorem dX5_readDeclaration_41 : decode cX5_readDeclaration 41 = .ok (.iconst 4, 1) := by decide +kernel
theorem dX5_readDeclaration_42 : decode cX5_readDeclaration 42 = .ok (.invokevirtual 170, 3) := by decide +kernel
theorem dX5_readDeclaration_45 : decode cX5_readDeclaration 45 = .ok (.return_, 1) := by decide +kernel
theorem dX5_readDeclaration_46 : decode cX5_readDeclaration 46 = .ok (.iload_n 1, 1) := by decide +kernel
theorem dX5_readDeclaration_47 : decode cX5_readDeclaration 47 = .ok (.bipush 21, 2) := by decide +kernel
theorem dX5_readDeclaration_49 : decode cX5_readDeclaration 49 = .ok (.if_icmp .ne 7, 3) := by decide +kernel
theorem dX5_readDeclaration_52 : decode cX5_readDeclaration 52 = .ok (.iconst 1, 1) := by decide +kernel
theorem dX5_readDeclaration_53 : decode cX5_readDeclaration 53 = .ok (.goto 4, 3) := by decide +kernel
theorem dX5_readDeclaration_56 : decode cX5_readDeclaration 56 = .ok (.iconst 0, 1) := by decide +kernel
theorem dX5_readDeclaration_57 : decode cX5_readDeclaration 57 = .ok (.istore_n 2, 1) := by decide +kernel
theorem dX5_readDeclaration_58 : decode cX5_readDeclaration 58 = .ok (.aload_n 0, 1) := by decide +kernel
theorem dX5_readDeclaration_59 : decode cX5_readDeclaration 59 = .ok (.iload_n 2, 1) := by decide +kernel
theorem dX5_readDeclaration_60 : decode cX5_readDeclaration 60 = .ok (.ifCond .eq 7, 3) := by decide +kernel
theorem dX5_readDeclaration_63 : decode cX5_readDeclaration 63 = .ok (.iconst 2, 1) := by decide +kernel
theorem dX5_readDeclaration_64 : decode cX5_readDeclaration 64 = .ok (.goto 4, 3) := by decide +kernel
theorem dX5_readDeclaration_67 : decode cX5_readDeclaration 67 = .ok (.iconst 1, 1) := by decide +kernel
theorem dX5_readDeclaration_68 : decode cX5_readDeclaration 68 = .ok (.invokevirtual 159, 3) := by decide +kernel
theorem dX5_readDeclaration_71 : decode cX5_readDeclaration 71 = .ok (.istore_n 3, 1) := by decide +kernel
theorem dX5_readDeclaration_72 : decode cX5_readDeclaration 72 = .ok (.aload_n 0, 1) := by decide +kernel
theorem dX5_readDeclaration_73 : decode cX5_readDeclaration 73 = .ok (.bipush 58, 2) := by decide +kernel
theorem dX5_readDeclaration_75 : decode cX5_readDeclaration 75 = .ok (.invokevirtual 173, 3) := by decide +kernel
theorem dX5_readDeclaration_78 : decode cX5_readDeclaration 78 = .ok (.aload_n 0, 1) := by decide +kernel
theorem dX5_readDeclaration_79 : decode cX5_readDeclaration 79 = .ok (.getfield 45, 3) := by decide +kernel
theorem dX5_readDeclaration_82 : decode cX5_readDeclaration 82 = .ok (.iload_n 2, 1) := by decide +kernel
theorem dX5_readDeclaration_83 : decode cX5_readDeclaration 83 = .ok (.ifCond .eq 10, 3) := by decide +kernel
theorem dX5_readDeclaration_86 : decode cX5_readDeclaration 86 = .ok (.bipush 26, 2) := by decide +kernel
theorem dX5_readDeclaration_88 : decode cX5_readDeclaration 88 = .ok (.iload_n 3, 1) := by decide +kernel
theorem dX5_readDeclaration_89 : decode cX5_readDeclaration 89 = .ok (.iadd, 1) := by decide +kernel
theorem dX5_readDeclaration_90 : decode cX5_readDeclaration 90 = .ok (.goto 4, 3) := by decide +kernel
theorem dX5_readDeclaration_93 : decode cX5_readDeclaration 93 = .ok (.iload_n 3, 1) := by decide +kernel
theorem dX5_readDeclaration_94 : decode cX5_readDeclaration 94 = .ok (.aload_n 0, 1) := by decide +kernel
theorem dX5_readDeclaration_95 : decode cX5_readDeclaration 95 = .ok (.invokevirtual 176, 3) := by decide +kernel
theorem dX5_readDeclaration_98 : decode cX5_readDeclaration 98 = .ok (.invokevirtual 179, 3) := by decide +kernel
theorem dX5_readDeclaration_101 : decode cX5_readDeclaration 101 = .ok (.aload_n 0, 1) := by decide +kernel
theorem dX5_readDeclaration_102 : decode cX5_readDeclaration 102 = .ok (.bipush 59, 2) := by decide +kernel
theorem dX5_readDeclaration_104 : decode cX5_readDeclaration 104 = .ok (.invokevirtual 173, 3) := by decide +kernel
theorem dX5_readDeclaration_107 : decode cX5_readDeclaration 107 = .ok (.return_, 1) := by decide +kernel
theorem dX5_readBlock_0 : decode cX5_readBlock 0 = .ok (.aload_n 0, 1) := by decide +kernel
theorem dX5_readBlock_1 : decode cX5_readBlock 1 = .ok (.bipush 123, 2) := by decide +kernel
theorem dX5_readBlock_3 : decode cX5_readBlock 3 = .ok (.invokevirtual 182, 3) := by decide +kernel
theorem dX5_readBlock_6 : decode cX5_readBlock 6 = .ok (.aload_n 0, 1) := by decide +kernel
theorem dX5_readBlock_7 : decode cX5_readBlock 7 = .ok (.bipush 125, 2) := by decide +kernel
theorem dX5_readBlock_9 : decode cX5_readBlock 9 = .ok (.invokevirtual 76, 3) := by decide +kernel
theorem dX5_readBlock_12 : decode cX5_readBlock 12 = .ok (.astore_n 1, 1) := by decide +kernel
theorem dX5_readBlock_13 : decode cX5_readBlock 13 = .ok (.aload_n 0, 1) := by decide +kernel
theorem dX5_readBlock_14 : decode cX5_readBlock 14 = .ok (.bipush 125, 2) := by decide +kernel
theorem dX5_readBlock_16 : decode cX5_readBlock 16 = .ok (.invokevirtual 185, 3) := by decide +kernel
theorem dX5_readBlock_19 : decode cX5_readBlock 19 = .ok (.aload_n 1, 1) := by decide +kernel
theorem dX5_readBlock_20 : decode cX5_readBlock 20 = .ok (.areturn, 1) := by decide +kernel
theorem dX5_readStatements_0 : decode cX5_readStatements 0 = .ok (.aconst_null, 1) := by decide +kernel
theorem dX5_readStatements_1 : decode cX5_readStatements 1 = .ok (.astore_n 2, 1) := by decide +kernel
theorem dX5_readStatements_2 : decode cX5_readStatements 2 = .ok (.aconst_null, 1) := by decide +kernel
theorem dX5_readStatements_3 : decode cX5_readStatements 3 = .ok (.astore_n 3, 1) := by decide +kernel
theorem dX5_readStatements_4 : decode cX5_readStatements 4 = .ok (.iconst 0, 1) := by decide +kernel
theorem dX5_readStatements_5 : decode cX5_readStatements 5 = .ok (.istore 4, 2) := by decide +kernel
theorem dX5_readStatements_7 : decode cX5_readStatements 7 = .ok (.iload 4, 2) := by decide +kernel
theorem dX5_readStatements_9 : decode cX5_readStatements 9 = .ok (.sipush 240, 3) := by decide +kernel
theorem dX5_readStatements_12 : decode cX5_readStatements 12 = .ok (.if_icmp .ge 42, 3) := by decide +kernel
theorem dX5_readStatements_15 : decode cX5_readStatements 15 = .ok (.aload_n 0, 1) := by decide +kernel
theorem dX5_readStatements_16 : decode cX5_readStatements 16 = .ok (.getfield 70, 3) := by decide +kernel
theorem dX5_readStatements_19 : decode cX5_readStatements 19 = .ok (.iload_n 1, 1) := by decide +kernel
theorem dX5_readStatements_20 : decode cX5_readStatements 20 = .ok (.if_icmp .eq 34, 3) := by decide +kernel
theorem dX5_readStatements_23 : decode cX5_readStatements 23 = .ok (.aload_n 0, 1) := by decide +kernel
theorem dX5_readStatements_24 : decode cX5_readStatements 24 = .ok (.invokevirtual 188, 3) := by decide +kernel
theorem dX5_readStatements_27 : decode cX5_readStatements 27 = .ok (.astore 5, 2) := by decide +kernel
theorem dX5_readStatements_29 : decode cX5_readStatements 29 = .ok (.aload_n 3, 1) := by decide +kernel
theorem dX5_readStatements_30 : decode cX5_readStatements 30 = .ok (.ifnonnull 9, 3) := by decide +kernel
theorem dX5_readStatements_33 : decode cX5_readStatements 33 = .ok (.aload 5, 2) := by decide +kernel
theorem dX5_readStatements_35 : decode cX5_readStatements 35 = .ok (.astore_n 2, 1) := by decide +kernel
theorem dX5_readStatements_36 : decode cX5_readStatements 36 = .ok (.goto 9, 3) := by decide +kernel
theorem dX5_readStatements_39 : decode cX5_readStatements 39 = .ok (.aload_n 3, 1) := by decide +kernel
theorem dX5_readStatements_40 : decode cX5_readStatements 40 = .ok (.aload 5, 2) := by decide +kernel
theorem dX5_readStatements_42 : decode cX5_readStatements 42 = .ok (.putfield 191, 3) := by decide +kernel
theorem dX5_readStatements_45 : decode cX5_readStatements 45 = .ok (.aload 5, 2) := by decide +kernel
theorem dX5_readStatements_47 : decode cX5_readStatements 47 = .ok (.astore_n 3, 1) := by decide +kernel
theorem dX5_readStatements_48 : decode cX5_readStatements 48 = .ok (.iinc 4 1, 3) := by decide +kernel
theorem dX5_readStatements_51 : decode cX5_readStatements 51 = .ok (.goto (-44), 3) := by decide +kernel
theorem dX5_readStatements_54 : decode cX5_readStatements 54 = .ok (.aload_n 2, 1) := by decide +kernel
theorem dX5_readStatements_55 : decode cX5_readStatements 55 = .ok (.areturn, 1) := by decide +kernel
theorem dX5_readStatement_0 : decode cX5_readStatement 0 = .ok (.new 192, 3) := by decide +kernel
theorem dX5_readStatement_3 : decode cX5_readStatement 3 = .ok (.dup, 1) := by decide +kernel
theorem dX5_readStatement_4 : decode cX5_readStatement 4 = .ok (.aload_n 0, 1) := by decide +kernel
theorem dX5_readStatement_5 : decode cX5_readStatement 5 = .ok (.invokevirtual 196, 3) := by decide +kernel
theorem dX5_readStatement_8 : decode cX5_readStatement 8 = .ok (.aload_n 0, 1) := by decide +kernel
theorem dX5_readStatement_9 : decode cX5_readStatement 9 = .ok (.getfield 36, 3) := by decide +kernel
theorem dX5_readStatement_12 : decode cX5_readStatement 12 = .ok (.aload_n 0, 1) := by decide +kernel
theorem dX5_readStatement_13 : decode cX5_readStatement 13 = .ok (.getfield 45, 3) := by decide +kernel
theorem dX5_readStatement_16 : decode cX5_readStatement 16 = .ok (.invokevirtual 199, 3) := by decide +kernel
theorem dX5_readStatement_19 : decode cX5_readStatement 19 = .ok (.invokespecial 202, 3) := by decide +kernel
theorem dX5_readStatement_22 : decode cX5_readStatement 22 = .ok (.astore_n 1, 1) := by decide +kernel
theorem dX5_readStatement_23 : decode cX5_readStatement 23 = .ok (.aload_n 1, 1) := by decide +kernel
theorem dX5_readStatement_24 : decode cX5_readStatement 24 = .ok (.getfield 205, 3) := by decide +kernel
theorem dX5_readStatement_27 : decode cX5_readStatement 27 = .ok (.tableswitch 137 13 18 #[44, 80, 137, 37, 37, 115], 37) := by decide +kernel
theorem dX5_readStatement_64 : decode cX5_readStatement 64 = .ok (.aload_n 0, 1) := by decide +kernel
theorem dX5_readStatement_65 : decode cX5_readStatement 65 = .ok (.aload_n 1, 1) := by decide +kernel
theorem dX5_readStatement_66 : decode cX5_readStatement 66 = .ok (.invokevirtual 208, 3) := by decide +kernel
theorem dX5_readStatement_69 : decode cX5_readStatement 69 = .ok (.aload_n 1, 1) := by decide +kernel
theorem dX5_readStatement_70 : decode cX5_readStatement 70 = .ok (.areturn, 1) := by decide +kernel
theorem dX5_readStatement_71 : decode cX5_readStatement 71 = .ok (.aload_n 0, 1) := by decide +kernel
theorem dX5_readStatement_72 : decode cX5_readStatement 72 = .ok (.aload_n 0, 1) := by decide +kernel
theorem dX5_readStatement_73 : decode cX5_readStatement 73 = .ok (.getfield 153, 3) := by decide +kernel
theorem dX5_readStatement_76 : decode cX5_readStatement 76 = .ok (.iconst 1, 1) := by decide +kernel
theorem dX5_readStatement_77 : decode cX5_readStatement 77 = .ok (.iadd, 1) := by decide +kernel
theorem dX5_readStatement_78 : decode cX5_readStatement 78 = .ok (.invokevirtual 66, 3) := by decide +kernel
theorem dX5_readStatement_81 : decode cX5_readStatement 81 = .ok (.aload_n 1, 1) := by decide +kernel
theorem dX5_readStatement_82 : decode cX5_readStatement 82 = .ok (.aload_n 0, 1) := by decide +kernel
theorem dX5_readStatement_83 : decode cX5_readStatement 83 = .ok (.iconst 1, 1) := by decide +kernel
theorem dX5_readStatement_84 : decode cX5_readStatement 84 = .ok (.invokevirtual 212, 3) := by decide +kernel
theorem dX5_readStatement_87 : decode cX5_readStatement 87 = .ok (.putfield 215, 3) := by decide +kernel
theorem dX5_readStatement_90 : decode cX5_readStatement 90 = .ok (.aload_n 0, 1) := by decide +kernel
theorem dX5_readStatement_91 : decode cX5_readStatement 91 = .ok (.bipush 58, 2) := by decide +kernel
theorem dX5_readStatement_93 : decode cX5_readStatement 93 = .ok (.invokevirtual 173, 3) := by decide +kernel
theorem dX5_readStatement_96 : decode cX5_readStatement 96 = .ok (.aload_n 1, 1) := by decide +kernel
theorem dX5_readStatement_97 : decode cX5_readStatement 97 = .ok (.aload_n 0, 1) := by decide +kernel
theorem dX5_readStatement_98 : decode cX5_readStatement 98 = .ok (.invokevirtual 176, 3) := by decide +kernel
theorem dX5_readStatement_101 : decode cX5_readStatement 101 = .ok (.putfield 218, 3) := by decide +kernel
theorem dX5_readStatement_104 : decode cX5_readStatement 104 = .ok (.goto 107, 3) := by decide +kernel
theorem dX5_readStatement_107 : decode cX5_readStatement 107 = .ok (.aload_n 0, 1) := by decide +kernel
theorem dX5_readStatement_108 : decode cX5_readStatement 108 = .ok (.aload_n 0, 1) := by decide +kernel
theorem dX5_readStatement_109 : decode cX5_readStatement 109 = .ok (.getfield 153, 3) := by decide +kernel
theorem dX5_readStatement_112 : decode cX5_readStatement 112 = .ok (.iconst 1, 1) := by decide +kernel
theorem dX5_readStatement_113 : decode cX5_readStatement 113 = .ok (.iadd, 1) := by decide +kernel
theorem dX5_readStatement_114 : decode cX5_readStatement 114 = .ok (.invokevirtual 66, 3) := by decide +kernel
theorem dX5_readStatement_117 : decode cX5_readStatement 117 = .ok (.aload_n 1, 1) := by decide +kernel
theorem dX5_readStatement_118 : decode cX5_readStatement 118 = .ok (.aload_n 0, 1) := by decide +kernel
theorem dX5_readStatement_119 : decode cX5_readStatement 119 = .ok (.invokevirtual 221, 3) := by decide +kernel
theorem dX5_readStatement_122 : decode cX5_readStatement 122 = .ok (.putfield 224, 3) := by decide +kernel
theorem dX5_readStatement_125 : decode cX5_readStatement 125 = .ok (.aload_n 0, 1) := by decide +kernel
theorem dX5_readStatement_126 : decode cX5_readStatement 126 = .ok (.bipush 58, 2) := by decide +kernel
theorem dX5_readStatement_128 : decode cX5_readStatement 128 = .ok (.invokevirtual 173, 3) := by decide +kernel
theorem dX5_readStatement_131 : decode cX5_readStatement 131 = .ok (.aload_n 1, 1) := by decide +kernel
theorem dX5_readStatement_132 : decode cX5_readStatement 132 = .ok (.aload_n 0, 1) := by decide +kernel
theorem dX5_readStatement_133 : decode cX5_readStatement 133 = .ok (.invokevirtual 176, 3) := by decide +kernel
theorem dX5_readStatement_136 : decode cX5_readStatement 136 = .ok (.putfield 218, 3) := by decide +kernel
theorem dX5_readStatement_139 : decode cX5_readStatement 139 = .ok (.goto 72, 3) := by decide +kernel
theorem dX5_readStatement_142 : decode cX5_readStatement 142 = .ok (.aload_n 0, 1) := by decide +kernel
theorem dX5_readStatement_143 : decode cX5_readStatement 143 = .ok (.aload_n 0, 1) := by decide +kernel
theorem dX5_readStatement_144 : decode cX5_readStatement 144 = .ok (.getfield 153, 3) := by decide +kernel
theorem dX5_readStatement_147 : decode cX5_readStatement 147 = .ok (.iconst 1, 1) := by decide +kernel
theorem dX5_readStatement_148 : decode cX5_readStatement 148 = .ok (.iadd, 1) := by decide +kernel
theorem dX5_readStatement_149 : decode cX5_readStatement 149 = .ok (.invokevirtual 66, 3) := by decide +kernel
theorem dX5_readStatement_152 : decode cX5_readStatement 152 = .ok (.aload_n 1, 1) := by decide +kernel
theorem dX5_readStatement_153 : decode cX5_readStatement 153 = .ok (.aload_n 0, 1) := by decide +kernel
theorem dX5_readStatement_154 : decode cX5_readStatement 154 = .ok (.iconst 4, 1) := by decide +kernel
theorem dX5_readStatement_155 : decode cX5_readStatement 155 = .ok (.invokevirtual 212, 3) := by decide +kernel
theorem dX5_readStatement_158 : decode cX5_readStatement 158 = .ok (.putfield 215, 3) := by decide +kernel
theorem dX5_readStatement_161 : decode cX5_readStatement 161 = .ok (.goto 50, 3) := by decide +kernel
theorem dX5_readStatement_164 : decode cX5_readStatement 164 = .ok (.aload_n 1, 1) := by decide +kernel
theorem dX5_readStatement_165 : decode cX5_readStatement 165 = .ok (.aload_n 0, 1) := by decide +kernel
theorem dX5_readStatement_166 : decode cX5_readStatement 166 = .ok (.aload_n 1, 1) := by decide +kernel
theorem dX5_readStatement_167 : decode cX5_readStatement 167 = .ok (.getfield 205, 3) := by decide +kernel
theorem dX5_readStatement_170 : decode cX5_readStatement 170 = .ok (.iconst 4, 1) := by decide +kernel
theorem dX5_readStatement_171 : decode cX5_readStatement 171 = .ok (.if_icmp .ne 7, 3) := by decide +kernel
theorem dX5_readStatement_174 : decode cX5_readStatement 174 = .ok (.iconst 2, 1) := by decide +kernel
theorem dX5_readStatement_175 : decode cX5_readStatement 175 = .ok (.goto 4, 3) := by decide +kernel
theorem dX5_readStatement_178 : decode cX5_readStatement 178 = .ok (.iconst 1, 1) := by decide +kernel
theorem dX5_readStatement_179 : decode cX5_readStatement 179 = .ok (.invokevirtual 212, 3) := by decide +kernel
theorem dX5_readStatement_182 : decode cX5_readStatement 182 = .ok (.putfield 215, 3) := by decide +kernel
theorem dX5_readStatement_185 : decode cX5_readStatement 185 = .ok (.aload_n 1, 1) := by decide +kernel
theorem dX5_readStatement_186 : decode cX5_readStatement 186 = .ok (.getfield 205, 3) := by decide +kernel
theorem dX5_readStatement_189 : decode cX5_readStatement 189 = .ok (.iconst 4, 1) := by decide +kernel
theorem dX5_readStatement_190 : decode cX5_readStatement 190 = .ok (.if_icmp .ne 7, 3) := by decide +kernel
theorem dX5_readStatement_193 : decode cX5_readStatement 193 = .ok (.aload_n 0, 1) := by decide +kernel
theorem dX5_readStatement_194 : decode cX5_readStatement 194 = .ok (.invokevirtual 227, 3) := by decide +kernel
theorem dX5_readStatement_197 : decode cX5_readStatement 197 = .ok (.aload_n 0, 1) := by decide +kernel
theorem dX5_readStatement_198 : decode cX5_readStatement 198 = .ok (.bipush 61, 2) := by decide +kernel
theorem dX5_readStatement_200 : decode cX5_readStatement 200 = .ok (.invokevirtual 173, 3) := by decide +kernel
theorem dX5_readStatement_203 : decode cX5_readStatement 203 = .ok (.aload_n 1, 1) := by decide +kernel
theorem dX5_readStatement_204 : decode cX5_readStatement 204 = .ok (.aload_n 0, 1) := by decide +kernel
theorem dX5_readStatement_205 : decode cX5_readStatement 205 = .ok (.invokevirtual 221, 3) := by decide +kernel
theorem dX5_readStatement_208 : decode cX5_readStatement 208 = .ok (.putfield 224, 3) := by decide +kernel
theorem dX5_readStatement_211 : decode cX5_readStatement 211 = .ok (.aload_n 0, 1) := by decide +kernel
theorem dX5_readStatement_212 : decode cX5_readStatement 212 = .ok (.bipush 59, 2) := by decide +kernel
theorem dX5_readStatement_214 : decode cX5_readStatement 214 = .ok (.invokevirtual 173, 3) := by decide +kernel
theorem dX5_readStatement_217 : decode cX5_readStatement 217 = .ok (.aload_n 1, 1) := by decide +kernel
theorem dX5_readStatement_218 : decode cX5_readStatement 218 = .ok (.areturn, 1) := by decide +kernel
theorem dX5_kindHere_0 : decode cX5_kindHere 0 = .ok (.aload_n 0, 1) := by decide +kernel
theorem dX5_kindHere_1 : decode cX5_kindHere 1 = .ok (.getfield 70, 3) := by decide +kernel
theorem dX5_kindHere_4 : decode cX5_kindHere 4 = .ok (.tableswitch 45 13 18 #[40, 40, 45, 40, 40, 40], 40) := by decide +kernel
theorem dX5_kindHere_44 : decode cX5_kindHere 44 = .ok (.aload_n 0, 1) := by decide +kernel
theorem dX5_kindHere_45 : decode cX5_kindHere 45 = .ok (.getfield 70, 3) := by decide +kernel
theorem dX5_kindHere_48 : decode cX5_kindHere 48 = .ok (.ireturn, 1) := by decide +kernel
theorem dX5_kindHere_49 : decode cX5_kindHere 49 = .ok (.aload_n 0, 1) := by decide +kernel
theorem dX5_kindHere_50 : decode cX5_kindHere 50 = .ok (.invokevirtual 230, 3) := by decide +kernel
theorem dX5_kindHere_53 : decode cX5_kindHere 53 = .ok (.iconst 2, 1) := by decide +kernel
theorem dX5_kindHere_54 : decode cX5_kindHere 54 = .ok (.if_icmp .ne 7, 3) := by decide +kernel
theorem dX5_kindHere_57 : decode cX5_kindHere 57 = .ok (.iconst 4, 1) := by decide +kernel
theorem dX5_kindHere_58 : decode cX5_kindHere 58 = .ok (.goto 4, 3) := by decide +kernel
theorem dX5_kindHere_61 : decode cX5_kindHere 61 = .ok (.iconst 2, 1) := by decide +kernel
theorem dX5_kindHere_62 : decode cX5_kindHere 62 = .ok (.ireturn, 1) := by decide +kernel
theorem dX5_readBranches_0 : decode cX5_readBranches 0 = .ok (.aload_n 0, 1) := by decide +kernel
theorem dX5_readBranches_1 : decode cX5_readBranches 1 = .ok (.aload_n 0, 1) := by decide +kernel
theorem dX5_readBranches_2 : decode cX5_readBranches 2 = .ok (.getfield 153, 3) := by decide +kernel
theorem dX5_readBranches_5 : decode cX5_readBranches 5 = .ok (.iconst 1, 1) := by decide +kernel
theorem dX5_readBranches_6 : decode cX5_readBranches 6 = .ok (.iadd, 1) := by decide +kernel
theorem dX5_readBranches_7 : decode cX5_readBranches 7 = .ok (.invokevirtual 66, 3) := by decide +kernel
theorem dX5_readBranches_10 : decode cX5_readBranches 10 = .ok (.aload_n 1, 1) := by decide +kernel
theorem dX5_readBranches_11 : decode cX5_readBranches 11 = .ok (.aload_n 0, 1) := by decide +kernel
theorem dX5_readBranches_12 : decode cX5_readBranches 12 = .ok (.invokevirtual 221, 3) := by decide +kernel
theorem dX5_readBranches_15 : decode cX5_readBranches 15 = .ok (.putfield 224, 3) := by decide +kernel
theorem dX5_readBranches_18 : decode cX5_readBranches 18 = .ok (.aload_n 1, 1) := by decide +kernel
theorem dX5_readBranches_19 : decode cX5_readBranches 19 = .ok (.aload_n 0, 1) := by decide +kernel
theorem dX5_readBranches_20 : decode cX5_readBranches 20 = .ok (.invokevirtual 162, 3) := by decide +kernel
theorem dX5_readBranches_23 : decode cX5_readBranches 23 = .ok (.putfield 233, 3) := by decide +kernel
theorem dX5_readBranches_26 : decode cX5_readBranches 26 = .ok (.aload_n 1, 1) := by decide +kernel
theorem dX5_readBranches_27 : decode cX5_readBranches 27 = .ok (.getfield 205, 3) := by decide +kernel
theorem dX5_readBranches_30 : decode cX5_readBranches 30 = .ok (.bipush 16, 2) := by decide +kernel
theorem dX5_readBranches_32 : decode cX5_readBranches 32 = .ok (.if_icmp .ne 35, 3) := by decide +kernel
theorem dX5_readBranches_35 : decode cX5_readBranches 35 = .ok (.aload_n 0, 1) := by decide +kernel
theorem dX5_readBranches_36 : decode cX5_readBranches 36 = .ok (.getfield 70, 3) := by decide +kernel
theorem dX5_readBranches_39 : decode cX5_readBranches 39 = .ok (.bipush 23, 2) := by decide +kernel
theorem dX5_readBranches_41 : decode cX5_readBranches 41 = .ok (.if_icmp .ne 26, 3) := by decide +kernel
theorem dX5_readBranches_44 : decode cX5_readBranches 44 = .ok (.aload_n 0, 1) := by decide +kernel
theorem dX5_readBranches_45 : decode cX5_readBranches 45 = .ok (.aload_n 0, 1) := by decide +kernel
theorem dX5_readBranches_46 : decode cX5_readBranches 46 = .ok (.getfield 153, 3) := by decide +kernel
theorem dX5_readBranches_49 : decode cX5_readBranches 49 = .ok (.iconst 1, 1) := by decide +kernel
theorem dX5_readBranches_50 : decode cX5_readBranches 50 = .ok (.iadd, 1) := by decide +kernel
theorem dX5_readBranches_51 : decode cX5_readBranches 51 = .ok (.invokevirtual 66, 3) := by decide +kernel
theorem dX5_readBranches_54 : decode cX5_readBranches 54 = .ok (.aload_n 1, 1) := by decide +kernel
theorem dX5_readBranches_55 : decode cX5_readBranches 55 = .ok (.iconst 1, 1) := by decide +kernel
theorem dX5_readBranches_56 : decode cX5_readBranches 56 = .ok (.putfield 236, 3) := by decide +kernel
theorem dX5_readBranches_59 : decode cX5_readBranches 59 = .ok (.aload_n 1, 1) := by decide +kernel
theorem dX5_readBranches_60 : decode cX5_readBranches 60 = .ok (.aload_n 0, 1) := by decide +kernel
theorem dX5_readBranches_61 : decode cX5_readBranches 61 = .ok (.invokevirtual 162, 3) := by decide +kernel
theorem dX5_readBranches_64 : decode cX5_readBranches 64 = .ok (.putfield 240, 3) := by decide +kernel
theorem dX5_readBranches_67 : decode cX5_readBranches 67 = .ok (.return_, 1) := by decide +kernel
theorem dX5_readExpression_0 : decode cX5_readExpression 0 = .ok (.aload_n 0, 1) := by decide +kernel
theorem dX5_readExpression_1 : decode cX5_readExpression 1 = .ok (.invokevirtual 243, 3) := by decide +kernel
theorem dX5_readExpression_4 : decode cX5_readExpression 4 = .ok (.aload_n 0, 1) := by decide +kernel
theorem dX5_readExpression_5 : decode cX5_readExpression 5 = .ok (.getfield 70, 3) := by decide +kernel
theorem dX5_readExpression_8 : decode cX5_readExpression 8 = .ok (.bipush 60, 2) := by decide +kernel
theorem dX5_readExpression_10 : decode cX5_readExpression 10 = .ok (.if_icmp .ne 8, 3) := by decide +kernel
theorem dX5_readExpression_13 : decode cX5_readExpression 13 = .ok (.bipush 9, 2) := by decide +kernel
theorem dX5_readExpression_15 : decode cX5_readExpression 15 = .ok (.goto 18, 3) := by decide +kernel
theorem dX5_readExpression_18 : decode cX5_readExpression 18 = .ok (.aload_n 0, 1) := by decide +kernel
theorem dX5_readExpression_19 : decode cX5_readExpression 19 = .ok (.getfield 70, 3) := by decide +kernel
theorem dX5_readExpression_22 : decode cX5_readExpression 22 = .ok (.bipush 61, 2) := by decide +kernel
theorem dX5_readExpression_24 : decode cX5_readExpression 24 = .ok (.if_icmp .ne 8, 3) := by decide +kernel
theorem dX5_readExpression_27 : decode cX5_readExpression 27 = .ok (.bipush 10, 2) := by decide +kernel
theorem dX5_readExpression_29 : decode cX5_readExpression 29 = .ok (.goto 4, 3) := by decide +kernel
theorem dX5_readExpression_32 : decode cX5_readExpression 32 = .ok (.iconst (-1), 1) := by decide +kernel
theorem dX5_readExpression_33 : decode cX5_readExpression 33 = .ok (.istore_n 1, 1) := by decide +kernel
theorem dX5_readExpression_34 : decode cX5_readExpression 34 = .ok (.iload_n 1, 1) := by decide +kernel
theorem dX5_readExpression_35 : decode cX5_readExpression 35 = .ok (.iconst (-1), 1) := by decide +kernel
theorem dX5_readExpression_36 : decode cX5_readExpression 36 = .ok (.if_icmp .eq 26, 3) := by decide +kernel
theorem dX5_readExpression_39 : decode cX5_readExpression 39 = .ok (.aload_n 0, 1) := by decide +kernel
theorem dX5_readExpression_40 : decode cX5_readExpression 40 = .ok (.aload_n 0, 1) := by decide +kernel
theorem dX5_readExpression_41 : decode cX5_readExpression 41 = .ok (.getfield 153, 3) := by decide +kernel
theorem dX5_readExpression_44 : decode cX5_readExpression 44 = .ok (.iconst 1, 1) := by decide +kernel
theorem dX5_readExpression_45 : decode cX5_readExpression 45 = .ok (.iadd, 1) := by decide +kernel
theorem dX5_readExpression_46 : decode cX5_readExpression 46 = .ok (.invokevirtual 66, 3) := by decide +kernel
theorem dX5_readExpression_49 : decode cX5_readExpression 49 = .ok (.aload_n 0, 1) := by decide +kernel
theorem dX5_readExpression_50 : decode cX5_readExpression 50 = .ok (.invokevirtual 243, 3) := by decide +kernel
theorem dX5_readExpression_53 : decode cX5_readExpression 53 = .ok (.aload_n 0, 1) := by decide +kernel
theorem dX5_readExpression_54 : decode cX5_readExpression 54 = .ok (.getfield 45, 3) := by decide +kernel
theorem dX5_readExpression_57 : decode cX5_readExpression 57 = .ok (.iload_n 1, 1) := by decide +kernel
theorem dX5_readExpression_58 : decode cX5_readExpression 58 = .ok (.iconst 0, 1) := by decide +kernel
theorem dX5_readExpression_59 : decode cX5_readExpression 59 = .ok (.invokevirtual 246, 3) := by decide +kernel
theorem dX5_readExpression_62 : decode cX5_readExpression 62 = .ok (.aload_n 0, 1) := by decide +kernel
theorem dX5_readExpression_63 : decode cX5_readExpression 63 = .ok (.getfield 45, 3) := by decide +kernel
theorem dX5_readExpression_66 : decode cX5_readExpression 66 = .ok (.invokevirtual 199, 3) := by decide +kernel
theorem dX5_readExpression_69 : decode cX5_readExpression 69 = .ok (.ireturn, 1) := by decide +kernel
theorem dX5_readSum_0 : decode cX5_readSum 0 = .ok (.aload_n 0, 1) := by decide +kernel
theorem dX5_readSum_1 : decode cX5_readSum 1 = .ok (.invokevirtual 249, 3) := by decide +kernel
theorem dX5_readSum_4 : decode cX5_readSum 4 = .ok (.iconst 0, 1) := by decide +kernel
theorem dX5_readSum_5 : decode cX5_readSum 5 = .ok (.istore_n 1, 1) := by decide +kernel
theorem dX5_readSum_6 : decode cX5_readSum 6 = .ok (.iload_n 1, 1) := by decide +kernel
theorem dX5_readSum_7 : decode cX5_readSum 7 = .ok (.sipush 240, 3) := by decide +kernel
theorem dX5_readSum_10 : decode cX5_readSum 10 = .ok (.if_icmp .ge 66, 3) := by decide +kernel
theorem dX5_readSum_13 : decode cX5_readSum 13 = .ok (.aload_n 0, 1) := by decide +kernel
theorem dX5_readSum_14 : decode cX5_readSum 14 = .ok (.getfield 70, 3) := by decide +kernel
theorem dX5_readSum_17 : decode cX5_readSum 17 = .ok (.bipush 43, 2) := by decide +kernel
theorem dX5_readSum_19 : decode cX5_readSum 19 = .ok (.if_icmp .eq 12, 3) := by decide +kernel
theorem dX5_readSum_22 : decode cX5_readSum 22 = .ok (.aload_n 0, 1) := by decide +kernel
theorem dX5_readSum_23 : decode cX5_readSum 23 = .ok (.getfield 70, 3) := by decide +kernel
theorem dX5_readSum_26 : decode cX5_readSum 26 = .ok (.bipush 45, 2) := by decide +kernel
theorem dX5_readSum_28 : decode cX5_readSum 28 = .ok (.if_icmp .ne 48, 3) := by decide +kernel
theorem dX5_readSum_31 : decode cX5_readSum 31 = .ok (.aload_n 0, 1) := by decide +kernel
theorem dX5_readSum_32 : decode cX5_readSum 32 = .ok (.getfield 70, 3) := by decide +kernel
theorem dX5_readSum_35 : decode cX5_readSum 35 = .ok (.bipush 43, 2) := by decide +kernel
theorem dX5_readSum_37 : decode cX5_readSum 37 = .ok (.if_icmp .ne 7, 3) := by decide +kernel
theorem dX5_readSum_40 : decode cX5_readSum 40 = .ok (.iconst 5, 1) := by decide +kernel
theorem dX5_readSum_41 : decode cX5_readSum 41 = .ok (.goto 5, 3) := by decide +kernel
theorem dX5_readSum_44 : decode cX5_readSum 44 = .ok (.bipush 6, 2) := by decide +kernel
theorem dX5_readSum_46 : decode cX5_readSum 46 = .ok (.istore_n 2, 1) := by decide +kernel
theorem dX5_readSum_47 : decode cX5_readSum 47 = .ok (.aload_n 0, 1) := by decide +kernel
theorem dX5_readSum_48 : decode cX5_readSum 48 = .ok (.aload_n 0, 1) := by decide +kernel
theorem dX5_readSum_49 : decode cX5_readSum 49 = .ok (.getfield 153, 3) := by decide +kernel
theorem dX5_readSum_52 : decode cX5_readSum 52 = .ok (.iconst 1, 1) := by decide +kernel
theorem dX5_readSum_53 : decode cX5_readSum 53 = .ok (.iadd, 1) := by decide +kernel
theorem dX5_readSum_54 : decode cX5_readSum 54 = .ok (.invokevirtual 66, 3) := by decide +kernel
theorem dX5_readSum_57 : decode cX5_readSum 57 = .ok (.aload_n 0, 1) := by decide +kernel
theorem dX5_readSum_58 : decode cX5_readSum 58 = .ok (.invokevirtual 249, 3) := by decide +kernel
theorem dX5_readSum_61 : decode cX5_readSum 61 = .ok (.aload_n 0, 1) := by decide +kernel
theorem dX5_readSum_62 : decode cX5_readSum 62 = .ok (.getfield 45, 3) := by decide +kernel
theorem dX5_readSum_65 : decode cX5_readSum 65 = .ok (.iload_n 2, 1) := by decide +kernel
theorem dX5_readSum_66 : decode cX5_readSum 66 = .ok (.iconst 0, 1) := by decide +kernel
theorem dX5_readSum_67 : decode cX5_readSum 67 = .ok (.invokevirtual 246, 3) := by decide +kernel
theorem dX5_readSum_70 : decode cX5_readSum 70 = .ok (.iinc 1 1, 3) := by decide +kernel
theorem dX5_readSum_73 : decode cX5_readSum 73 = .ok (.goto (-67), 3) := by decide +kernel
theorem dX5_readSum_76 : decode cX5_readSum 76 = .ok (.return_, 1) := by decide +kernel
theorem dX5_readProduct_0 : decode cX5_readProduct 0 = .ok (.aload_n 0, 1) := by decide +kernel
theorem dX5_readProduct_1 : decode cX5_readProduct 1 = .ok (.invokevirtual 252, 3) := by decide +kernel
theorem dX5_readProduct_4 : decode cX5_readProduct 4 = .ok (.iconst 0, 1) := by decide +kernel
theorem dX5_readProduct_5 : decode cX5_readProduct 5 = .ok (.istore_n 1, 1) := by decide +kernel
theorem dX5_readProduct_6 : decode cX5_readProduct 6 = .ok (.iload_n 1, 1) := by decide +kernel
theorem dX5_readProduct_7 : decode cX5_readProduct 7 = .ok (.sipush 240, 3) := by decide +kernel
theorem dX5_readProduct_10 : decode cX5_readProduct 10 = .ok (.if_icmp .ge 67, 3) := by decide +kernel
theorem dX5_readProduct_13 : decode cX5_readProduct 13 = .ok (.aload_n 0, 1) := by decide +kernel
theorem dX5_readProduct_14 : decode cX5_readProduct 14 = .ok (.getfield 70, 3) := by decide +kernel
theorem dX5_readProduct_17 : decode cX5_readProduct 17 = .ok (.bipush 42, 2) := by decide +kernel
theorem dX5_readProduct_19 : decode cX5_readProduct 19 = .ok (.if_icmp .eq 12, 3) := by decide +kernel
theorem dX5_readProduct_22 : decode cX5_readProduct 22 = .ok (.aload_n 0, 1) := by decide +kernel
theorem dX5_readProduct_23 : decode cX5_readProduct 23 = .ok (.getfield 70, 3) := by decide +kernel
theorem dX5_readProduct_26 : decode cX5_readProduct 26 = .ok (.bipush 47, 2) := by decide +kernel
theorem dX5_readProduct_28 : decode cX5_readProduct 28 = .ok (.if_icmp .ne 49, 3) := by decide +kernel
theorem dX5_readProduct_31 : decode cX5_readProduct 31 = .ok (.aload_n 0, 1) := by decide +kernel
theorem dX5_readProduct_32 : decode cX5_readProduct 32 = .ok (.getfield 70, 3) := by decide +kernel
theorem dX5_readProduct_35 : decode cX5_readProduct 35 = .ok (.bipush 42, 2) := by decide +kernel
theorem dX5_readProduct_37 : decode cX5_readProduct 37 = .ok (.if_icmp .ne 8, 3) := by decide +kernel
theorem dX5_readProduct_40 : decode cX5_readProduct 40 = .ok (.bipush 7, 2) := by decide +kernel
theorem dX5_readProduct_42 : decode cX5_readProduct 42 = .ok (.goto 5, 3) := by decide +kernel
theorem dX5_readProduct_45 : decode cX5_readProduct 45 = .ok (.bipush 8, 2) := by decide +kernel
theorem dX5_readProduct_47 : decode cX5_readProduct 47 = .ok (.istore_n 2, 1) := by decide +kernel
theorem dX5_readProduct_48 : decode cX5_readProduct 48 = .ok (.aload_n 0, 1) := by decide +kernel
theorem dX5_readProduct_49 : decode cX5_readProduct 49 = .ok (.aload_n 0, 1) := by decide +kernel
theorem dX5_readProduct_50 : decode cX5_readProduct 50 = .ok (.getfield 153, 3) := by decide +kernel
theorem dX5_readProduct_53 : decode cX5_readProduct 53 = .ok (.iconst 1, 1) := by decide +kernel
theorem dX5_readProduct_54 : decode cX5_readProduct 54 = .ok (.iadd, 1) := by decide +kernel
theorem dX5_readProduct_55 : decode cX5_readProduct 55 = .ok (.invokevirtual 66, 3) := by decide +kernel
theorem dX5_readProduct_58 : decode cX5_readProduct 58 = .ok (.aload_n 0, 1) := by decide +kernel
theorem dX5_readProduct_59 : decode cX5_readProduct 59 = .ok (.invokevirtual 252, 3) := by decide +kernel
theorem dX5_readProduct_62 : decode cX5_readProduct 62 = .ok (.aload_n 0, 1) := by decide +kernel
theorem dX5_readProduct_63 : decode cX5_readProduct 63 = .ok (.getfield 45, 3) := by decide +kernel
theorem dX5_readProduct_66 : decode cX5_readProduct 66 = .ok (.iload_n 2, 1) := by decide +kernel
theorem dX5_readProduct_67 : decode cX5_readProduct 67 = .ok (.iconst 0, 1) := by decide +kernel
theorem dX5_readProduct_68 : decode cX5_readProduct 68 = .ok (.invokevirtual 246, 3) := by decide +kernel
theorem dX5_readProduct_71 : decode cX5_readProduct 71 = .ok (.iinc 1 1, 3) := by decide +kernel
theorem dX5_readProduct_74 : decode cX5_readProduct 74 = .ok (.goto (-68), 3) := by decide +kernel
theorem dX5_readProduct_77 : decode cX5_readProduct 77 = .ok (.return_, 1) := by decide +kernel
theorem dX5_readFactor_0 : decode cX5_readFactor 0 = .ok (.aload_n 0, 1) := by decide +kernel
theorem dX5_readFactor_1 : decode cX5_readFactor 1 = .ok (.getfield 70, 3) := by decide +kernel
theorem dX5_readFactor_4 : decode cX5_readFactor 4 = .ok (.iconst 2, 1) := by decide +kernel
theorem dX5_readFactor_5 : decode cX5_readFactor 5 = .ok (.if_icmp .ne 28, 3) := by decide +kernel
theorem dX5_readFactor_8 : decode cX5_readFactor 8 = .ok (.aload_n 0, 1) := by decide +kernel
theorem dX5_readFactor_9 : decode cX5_readFactor 9 = .ok (.getfield 45, 3) := by decide +kernel
theorem dX5_readFactor_12 : decode cX5_readFactor 12 = .ok (.iconst 0, 1) := by decide +kernel
theorem dX5_readFactor_13 : decode cX5_readFactor 13 = .ok (.aload_n 0, 1) := by decide +kernel
theorem dX5_readFactor_14 : decode cX5_readFactor 14 = .ok (.getfield 156, 3) := by decide +kernel
theorem dX5_readFactor_17 : decode cX5_readFactor 17 = .ok (.invokevirtual 246, 3) := by decide +kernel
theorem dX5_readFactor_20 : decode cX5_readFactor 20 = .ok (.aload_n 0, 1) := by decide +kernel
theorem dX5_readFactor_21 : decode cX5_readFactor 21 = .ok (.aload_n 0, 1) := by decide +kernel
theorem dX5_readFactor_22 : decode cX5_readFactor 22 = .ok (.getfield 153, 3) := by decide +kernel
theorem dX5_readFactor_25 : decode cX5_readFactor 25 = .ok (.iconst 1, 1) := by decide +kernel
theorem dX5_readFactor_26 : decode cX5_readFactor 26 = .ok (.iadd, 1) := by decide +kernel
theorem dX5_readFactor_27 : decode cX5_readFactor 27 = .ok (.invokevirtual 66, 3) := by decide +kernel
theorem dX5_readFactor_30 : decode cX5_readFactor 30 = .ok (.goto 75, 3) := by decide +kernel
theorem dX5_readFactor_33 : decode cX5_readFactor 33 = .ok (.aload_n 0, 1) := by decide +kernel
theorem dX5_readFactor_34 : decode cX5_readFactor 34 = .ok (.getfield 70, 3) := by decide +kernel
theorem dX5_readFactor_37 : decode cX5_readFactor 37 = .ok (.bipush 40, 2) := by decide +kernel
theorem dX5_readFactor_39 : decode cX5_readFactor 39 = .ok (.if_icmp .ne 23, 3) := by decide +kernel
theorem dX5_readFactor_42 : decode cX5_readFactor 42 = .ok (.aload_n 0, 1) := by decide +kernel
theorem dX5_readFactor_43 : decode cX5_readFactor 43 = .ok (.bipush 40, 2) := by decide +kernel
theorem dX5_readFactor_45 : decode cX5_readFactor 45 = .ok (.invokevirtual 182, 3) := by decide +kernel
theorem dX5_readFactor_48 : decode cX5_readFactor 48 = .ok (.aload_n 0, 1) := by decide +kernel
theorem dX5_readFactor_49 : decode cX5_readFactor 49 = .ok (.invokevirtual 221, 3) := by decide +kernel
theorem dX5_readFactor_52 : decode cX5_readFactor 52 = .ok (.pop, 1) := by decide +kernel
theorem dX5_readFactor_53 : decode cX5_readFactor 53 = .ok (.aload_n 0, 1) := by decide +kernel
theorem dX5_readFactor_54 : decode cX5_readFactor 54 = .ok (.bipush 41, 2) := by decide +kernel
theorem dX5_readFactor_56 : decode cX5_readFactor 56 = .ok (.invokevirtual 185, 3) := by decide +kernel
theorem dX5_readFactor_59 : decode cX5_readFactor 59 = .ok (.goto 46, 3) := by decide +kernel
theorem dX5_readFactor_62 : decode cX5_readFactor 62 = .ok (.aload_n 0, 1) := by decide +kernel
theorem dX5_readFactor_63 : decode cX5_readFactor 63 = .ok (.invokevirtual 230, 3) := by decide +kernel
theorem dX5_readFactor_66 : decode cX5_readFactor 66 = .ok (.iconst 2, 1) := by decide +kernel
theorem dX5_readFactor_67 : decode cX5_readFactor 67 = .ok (.if_icmp .ne 25, 3) := by decide +kernel
theorem dX5_readFactor_70 : decode cX5_readFactor 70 = .ok (.aload_n 0, 1) := by decide +kernel
theorem dX5_readFactor_71 : decode cX5_readFactor 71 = .ok (.iconst 2, 1) := by decide +kernel
theorem dX5_readFactor_72 : decode cX5_readFactor 72 = .ok (.invokevirtual 212, 3) := by decide +kernel
theorem dX5_readFactor_75 : decode cX5_readFactor 75 = .ok (.istore_n 1, 1) := by decide +kernel
theorem dX5_readFactor_76 : decode cX5_readFactor 76 = .ok (.aload_n 0, 1) := by decide +kernel
theorem dX5_readFactor_77 : decode cX5_readFactor 77 = .ok (.invokevirtual 227, 3) := by decide +kernel
theorem dX5_readFactor_80 : decode cX5_readFactor 80 = .ok (.aload_n 0, 1) := by decide +kernel
theorem dX5_readFactor_81 : decode cX5_readFactor 81 = .ok (.getfield 45, 3) := by decide +kernel
theorem dX5_readFactor_84 : decode cX5_readFactor 84 = .ok (.iconst 3, 1) := by decide +kernel
theorem dX5_readFactor_85 : decode cX5_readFactor 85 = .ok (.iload_n 1, 1) := by decide +kernel
theorem dX5_readFactor_86 : decode cX5_readFactor 86 = .ok (.invokevirtual 246, 3) := by decide +kernel
theorem dX5_readFactor_89 : decode cX5_readFactor 89 = .ok (.goto 16, 3) := by decide +kernel
theorem dX5_readFactor_92 : decode cX5_readFactor 92 = .ok (.aload_n 0, 1) := by decide +kernel
theorem dX5_readFactor_93 : decode cX5_readFactor 93 = .ok (.getfield 45, 3) := by decide +kernel
theorem dX5_readFactor_96 : decode cX5_readFactor 96 = .ok (.iconst 1, 1) := by decide +kernel
theorem dX5_readFactor_97 : decode cX5_readFactor 97 = .ok (.aload_n 0, 1) := by decide +kernel
theorem dX5_readFactor_98 : decode cX5_readFactor 98 = .ok (.iconst 1, 1) := by decide +kernel
theorem dX5_readFactor_99 : decode cX5_readFactor 99 = .ok (.invokevirtual 212, 3) := by decide +kernel
theorem dX5_readFactor_102 : decode cX5_readFactor 102 = .ok (.invokevirtual 246, 3) := by decide +kernel
theorem dX5_readFactor_105 : decode cX5_readFactor 105 = .ok (.return_, 1) := by decide +kernel
theorem dX5_readIndex_0 : decode cX5_readIndex 0 = .ok (.aload_n 0, 1) := by decide +kernel
theorem dX5_readIndex_1 : decode cX5_readIndex 1 = .ok (.bipush 91, 2) := by decide +kernel
theorem dX5_readIndex_3 : decode cX5_readIndex 3 = .ok (.invokevirtual 182, 3) := by decide +kernel
theorem dX5_readIndex_6 : decode cX5_readIndex 6 = .ok (.aload_n 0, 1) := by decide +kernel
theorem dX5_readIndex_7 : decode cX5_readIndex 7 = .ok (.invokevirtual 221, 3) := by decide +kernel
theorem dX5_readIndex_10 : decode cX5_readIndex 10 = .ok (.pop, 1) := by decide +kernel
theorem dX5_readIndex_11 : decode cX5_readIndex 11 = .ok (.aload_n 0, 1) := by decide +kernel
theorem dX5_readIndex_12 : decode cX5_readIndex 12 = .ok (.bipush 93, 2) := by decide +kernel
theorem dX5_readIndex_14 : decode cX5_readIndex 14 = .ok (.invokevirtual 185, 3) := by decide +kernel
theorem dX5_readIndex_17 : decode cX5_readIndex 17 = .ok (.return_, 1) := by decide +kernel
theorem dX5_openWith_0 : decode cX5_openWith 0 = .ok (.aload_n 0, 1) := by decide +kernel
theorem dX5_openWith_1 : decode cX5_openWith 1 = .ok (.getfield 70, 3) := by decide +kernel
theorem dX5_openWith_4 : decode cX5_openWith 4 = .ok (.iload_n 1, 1) := by decide +kernel
theorem dX5_openWith_5 : decode cX5_openWith 5 = .ok (.if_icmp .ne 12, 3) := by decide +kernel
theorem dX5_openWith_8 : decode cX5_openWith 8 = .ok (.aload_n 0, 1) := by decide +kernel
theorem dX5_openWith_9 : decode cX5_openWith 9 = .ok (.getfield 60, 3) := by decide +kernel
theorem dX5_openWith_12 : decode cX5_openWith 12 = .ok (.bipush 8, 2) := by decide +kernel
theorem dX5_openWith_14 : decode cX5_openWith 14 = .ok (.if_icmp .lt 11, 3) := by decide +kernel
theorem dX5_openWith_17 : decode cX5_openWith 17 = .ok (.new 255, 3) := by decide +kernel
theorem dX5_openWith_20 : decode cX5_openWith 20 = .ok (.dup, 1) := by decide +kernel
theorem dX5_openWith_21 : decode cX5_openWith 21 = .ok (.invokespecial 257, 3) := by decide +kernel
theorem dX5_openWith_24 : decode cX5_openWith 24 = .ok (.athrow, 1) := by decide +kernel
theorem dX5_openWith_25 : decode cX5_openWith 25 = .ok (.aload_n 0, 1) := by decide +kernel
theorem dX5_openWith_26 : decode cX5_openWith 26 = .ok (.dup, 1) := by decide +kernel
theorem dX5_openWith_27 : decode cX5_openWith 27 = .ok (.getfield 60, 3) := by decide +kernel
theorem dX5_openWith_30 : decode cX5_openWith 30 = .ok (.iconst 1, 1) := by decide +kernel
theorem dX5_openWith_31 : decode cX5_openWith 31 = .ok (.iadd, 1) := by decide +kernel
theorem dX5_openWith_32 : decode cX5_openWith 32 = .ok (.putfield 60, 3) := by decide +kernel
theorem dX5_openWith_35 : decode cX5_openWith 35 = .ok (.aload_n 0, 1) := by decide +kernel
theorem dX5_openWith_36 : decode cX5_openWith 36 = .ok (.aload_n 0, 1) := by decide +kernel
theorem dX5_openWith_37 : decode cX5_openWith 37 = .ok (.getfield 153, 3) := by decide +kernel
theorem dX5_openWith_40 : decode cX5_openWith 40 = .ok (.iconst 1, 1) := by decide +kernel
theorem dX5_openWith_41 : decode cX5_openWith 41 = .ok (.iadd, 1) := by decide +kernel
theorem dX5_openWith_42 : decode cX5_openWith 42 = .ok (.invokevirtual 66, 3) := by decide +kernel
theorem dX5_openWith_45 : decode cX5_openWith 45 = .ok (.return_, 1) := by decide +kernel
theorem dX5_closeWith_0 : decode cX5_closeWith 0 = .ok (.aload_n 0, 1) := by decide +kernel
theorem dX5_closeWith_1 : decode cX5_closeWith 1 = .ok (.getfield 70, 3) := by decide +kernel
theorem dX5_closeWith_4 : decode cX5_closeWith 4 = .ok (.iload_n 1, 1) := by decide +kernel
theorem dX5_closeWith_5 : decode cX5_closeWith 5 = .ok (.if_icmp .eq 11, 3) := by decide +kernel
theorem dX5_closeWith_8 : decode cX5_closeWith 8 = .ok (.new 255, 3) := by decide +kernel
theorem dX5_closeWith_11 : decode cX5_closeWith 11 = .ok (.dup, 1) := by decide +kernel
theorem dX5_closeWith_12 : decode cX5_closeWith 12 = .ok (.invokespecial 257, 3) := by decide +kernel
theorem dX5_closeWith_15 : decode cX5_closeWith 15 = .ok (.athrow, 1) := by decide +kernel
theorem dX5_closeWith_16 : decode cX5_closeWith 16 = .ok (.aload_n 0, 1) := by decide +kernel
theorem dX5_closeWith_17 : decode cX5_closeWith 17 = .ok (.dup, 1) := by decide +kernel
theorem dX5_closeWith_18 : decode cX5_closeWith 18 = .ok (.getfield 60, 3) := by decide +kernel
theorem dX5_closeWith_21 : decode cX5_closeWith 21 = .ok (.iconst 1, 1) := by decide +kernel
theorem dX5_closeWith_22 : decode cX5_closeWith 22 = .ok (.isub, 1) := by decide +kernel
theorem dX5_closeWith_23 : decode cX5_closeWith 23 = .ok (.putfield 60, 3) := by decide +kernel
theorem dX5_closeWith_26 : decode cX5_closeWith 26 = .ok (.aload_n 0, 1) := by decide +kernel
theorem dX5_closeWith_27 : decode cX5_closeWith 27 = .ok (.aload_n 0, 1) := by decide +kernel
theorem dX5_closeWith_28 : decode cX5_closeWith 28 = .ok (.getfield 153, 3) := by decide +kernel
theorem dX5_closeWith_31 : decode cX5_closeWith 31 = .ok (.iconst 1, 1) := by decide +kernel
theorem dX5_closeWith_32 : decode cX5_closeWith 32 = .ok (.iadd, 1) := by decide +kernel
theorem dX5_closeWith_33 : decode cX5_closeWith 33 = .ok (.invokevirtual 66, 3) := by decide +kernel
theorem dX5_closeWith_36 : decode cX5_closeWith 36 = .ok (.return_, 1) := by decide +kernel
theorem dX5_take_0 : decode cX5_take 0 = .ok (.aload_n 0, 1) := by decide +kernel
theorem dX5_take_1 : decode cX5_take 1 = .ok (.getfield 70, 3) := by decide +kernel
theorem dX5_take_4 : decode cX5_take 4 = .ok (.iload_n 1, 1) := by decide +kernel
theorem dX5_take_5 : decode cX5_take 5 = .ok (.if_icmp .eq 11, 3) := by decide +kernel
theorem dX5_take_8 : decode cX5_take 8 = .ok (.new 255, 3) := by decide +kernel
theorem dX5_take_11 : decode cX5_take 11 = .ok (.dup, 1) := by decide +kernel
theorem dX5_take_12 : decode cX5_take 12 = .ok (.invokespecial 257, 3) := by decide +kernel
theorem dX5_take_15 : decode cX5_take 15 = .ok (.athrow, 1) := by decide +kernel
theorem dX5_take_16 : decode cX5_take 16 = .ok (.aload_n 0, 1) := by decide +kernel
theorem dX5_take_17 : decode cX5_take 17 = .ok (.aload_n 0, 1) := by decide +kernel
theorem dX5_take_18 : decode cX5_take 18 = .ok (.getfield 153, 3) := by decide +kernel
theorem dX5_take_21 : decode cX5_take 21 = .ok (.iconst 1, 1) := by decide +kernel
theorem dX5_take_22 : decode cX5_take 22 = .ok (.iadd, 1) := by decide +kernel
theorem dX5_take_23 : decode cX5_take 23 = .ok (.invokevirtual 66, 3) := by decide +kernel
theorem dX5_take_26 : decode cX5_take 26 = .ok (.return_, 1) := by decide +kernel
theorem dX5_takeLabel_0 : decode cX5_takeLabel 0 = .ok (.aload_n 0, 1) := by decide +kernel
theorem dX5_takeLabel_1 : decode cX5_takeLabel 1 = .ok (.getfield 70, 3) := by decide +kernel
theorem dX5_takeLabel_4 : decode cX5_takeLabel 4 = .ok (.iconst 2, 1) := by decide +kernel
theorem dX5_takeLabel_5 : decode cX5_takeLabel 5 = .ok (.if_icmp .ne 17, 3) := by decide +kernel
theorem dX5_takeLabel_8 : decode cX5_takeLabel 8 = .ok (.aload_n 0, 1) := by decide +kernel
theorem dX5_takeLabel_9 : decode cX5_takeLabel 9 = .ok (.getfield 28, 3) := by decide +kernel
theorem dX5_takeLabel_12 : decode cX5_takeLabel 12 = .ok (.aload_n 0, 1) := by decide +kernel
theorem dX5_takeLabel_13 : decode cX5_takeLabel 13 = .ok (.getfield 156, 3) := by decide +kernel
theorem dX5_takeLabel_16 : decode cX5_takeLabel 16 = .ok (.invokevirtual 258, 3) := by decide +kernel
theorem dX5_takeLabel_19 : decode cX5_takeLabel 19 = .ok (.ifCond .ne 11, 3) := by decide +kernel
theorem dX5_takeLabel_22 : decode cX5_takeLabel 22 = .ok (.new 255, 3) := by decide +kernel
theorem dX5_takeLabel_25 : decode cX5_takeLabel 25 = .ok (.dup, 1) := by decide +kernel
theorem dX5_takeLabel_26 : decode cX5_takeLabel 26 = .ok (.invokespecial 257, 3) := by decide +kernel
theorem dX5_takeLabel_29 : decode cX5_takeLabel 29 = .ok (.athrow, 1) := by decide +kernel
theorem dX5_takeLabel_30 : decode cX5_takeLabel 30 = .ok (.aload_n 0, 1) := by decide +kernel
theorem dX5_takeLabel_31 : decode cX5_takeLabel 31 = .ok (.getfield 156, 3) := by decide +kernel
theorem dX5_takeLabel_34 : decode cX5_takeLabel 34 = .ok (.istore_n 1, 1) := by decide +kernel
theorem dX5_takeLabel_35 : decode cX5_takeLabel 35 = .ok (.aload_n 0, 1) := by decide +kernel
theorem dX5_takeLabel_36 : decode cX5_takeLabel 36 = .ok (.aload_n 0, 1) := by decide +kernel
theorem dX5_takeLabel_37 : decode cX5_takeLabel 37 = .ok (.getfield 153, 3) := by decide +kernel
theorem dX5_takeLabel_40 : decode cX5_takeLabel 40 = .ok (.iconst 1, 1) := by decide +kernel
theorem dX5_takeLabel_41 : decode cX5_takeLabel 41 = .ok (.iadd, 1) := by decide +kernel
theorem dX5_takeLabel_42 : decode cX5_takeLabel 42 = .ok (.invokevirtual 66, 3) := by decide +kernel
theorem dX5_takeLabel_45 : decode cX5_takeLabel 45 = .ok (.iload_n 1, 1) := by decide +kernel
theorem dX5_takeLabel_46 : decode cX5_takeLabel 46 = .ok (.ireturn, 1) := by decide +kernel
theorem dX5_roleHere_0 : decode cX5_roleHere 0 = .ok (.aload_n 0, 1) := by decide +kernel
theorem dX5_roleHere_1 : decode cX5_roleHere 1 = .ok (.getfield 70, 3) := by decide +kernel
theorem dX5_roleHere_4 : decode cX5_roleHere 4 = .ok (.iconst 1, 1) := by decide +kernel
theorem dX5_roleHere_5 : decode cX5_roleHere 5 = .ok (.if_icmp .ne 31, 3) := by decide +kernel
theorem dX5_roleHere_8 : decode cX5_roleHere 8 = .ok (.aload_n 0, 1) := by decide +kernel
theorem dX5_roleHere_9 : decode cX5_roleHere 9 = .ok (.getfield 156, 3) := by decide +kernel
theorem dX5_roleHere_12 : decode cX5_roleHere 12 = .ok (.ifCond .lt 24, 3) := by decide +kernel
theorem dX5_roleHere_15 : decode cX5_roleHere 15 = .ok (.aload_n 0, 1) := by decide +kernel
theorem dX5_roleHere_16 : decode cX5_roleHere 16 = .ok (.getfield 156, 3) := by decide +kernel
theorem dX5_roleHere_19 : decode cX5_roleHere 19 = .ok (.bipush 26, 2) := by decide +kernel
theorem dX5_roleHere_21 : decode cX5_roleHere 21 = .ok (.if_icmp .ge 15, 3) := by decide +kernel
theorem dX5_roleHere_24 : decode cX5_roleHere 24 = .ok (.aload_n 0, 1) := by decide +kernel
theorem dX5_roleHere_25 : decode cX5_roleHere 25 = .ok (.getfield 25, 3) := by decide +kernel
theorem dX5_roleHere_28 : decode cX5_roleHere 28 = .ok (.aload_n 0, 1) := by decide +kernel
theorem dX5_roleHere_29 : decode cX5_roleHere 29 = .ok (.getfield 156, 3) := by decide +kernel
theorem dX5_roleHere_32 : decode cX5_roleHere 32 = .ok (.iaload, 1) := by decide +kernel
theorem dX5_roleHere_33 : decode cX5_roleHere 33 = .ok (.goto 4, 3) := by decide +kernel
theorem dX5_roleHere_36 : decode cX5_roleHere 36 = .ok (.iconst (-1), 1) := by decide +kernel
theorem dX5_roleHere_37 : decode cX5_roleHere 37 = .ok (.ireturn, 1) := by decide +kernel
theorem dX5_setRole_0 : decode cX5_setRole 0 = .ok (.iload_n 1, 1) := by decide +kernel
theorem dX5_setRole_1 : decode cX5_setRole 1 = .ok (.ifCond .lt 16, 3) := by decide +kernel
theorem dX5_setRole_4 : decode cX5_setRole 4 = .ok (.iload_n 1, 1) := by decide +kernel
theorem dX5_setRole_5 : decode cX5_setRole 5 = .ok (.bipush 26, 2) := by decide +kernel
theorem dX5_setRole_7 : decode cX5_setRole 7 = .ok (.if_icmp .ge 10, 3) := by decide +kernel
theorem dX5_setRole_10 : decode cX5_setRole 10 = .ok (.aload_n 0, 1) := by decide +kernel
theorem dX5_setRole_11 : decode cX5_setRole 11 = .ok (.getfield 25, 3) := by decide +kernel
theorem dX5_setRole_14 : decode cX5_setRole 14 = .ok (.iload_n 1, 1) := by decide +kernel
theorem dX5_setRole_15 : decode cX5_setRole 15 = .ok (.iload_n 2, 1) := by decide +kernel
theorem dX5_setRole_16 : decode cX5_setRole 16 = .ok (.iastore, 1) := by decide +kernel
theorem dX5_setRole_17 : decode cX5_setRole 17 = .ok (.return_, 1) := by decide +kernel
theorem dX5_takeNewName_0 : decode cX5_takeNewName 0 = .ok (.aload_n 0, 1) := by decide +kernel
theorem dX5_takeNewName_1 : decode cX5_takeNewName 1 = .ok (.invokevirtual 230, 3) := by decide +kernel
theorem dX5_takeNewName_4 : decode cX5_takeNewName 4 = .ok (.ifCond .eq 11, 3) := by decide +kernel
theorem dX5_takeNewName_7 : decode cX5_takeNewName 7 = .ok (.new 255, 3) := by decide +kernel
theorem dX5_takeNewName_10 : decode cX5_takeNewName 10 = .ok (.dup, 1) := by decide +kernel
theorem dX5_takeNewName_11 : decode cX5_takeNewName 11 = .ok (.invokespecial 257, 3) := by decide +kernel
theorem dX5_takeNewName_14 : decode cX5_takeNewName 14 = .ok (.athrow, 1) := by decide +kernel
theorem dX5_takeNewName_15 : decode cX5_takeNewName 15 = .ok (.aload_n 0, 1) := by decide +kernel
theorem dX5_takeNewName_16 : decode cX5_takeNewName 16 = .ok (.getfield 156, 3) := by decide +kernel
theorem dX5_takeNewName_19 : decode cX5_takeNewName 19 = .ok (.istore_n 2, 1) := by decide +kernel
theorem dX5_takeNewName_20 : decode cX5_takeNewName 20 = .ok (.aload_n 0, 1) := by decide +kernel
theorem dX5_takeNewName_21 : decode cX5_takeNewName 21 = .ok (.iload_n 2, 1) := by decide +kernel
theorem dX5_takeNewName_22 : decode cX5_takeNewName 22 = .ok (.iload_n 1, 1) := by decide +kernel
theorem dX5_takeNewName_23 : decode cX5_takeNewName 23 = .ok (.invokevirtual 170, 3) := by decide +kernel
theorem dX5_takeNewName_26 : decode cX5_takeNewName 26 = .ok (.aload_n 0, 1) := by decide +kernel
theorem dX5_takeNewName_27 : decode cX5_takeNewName 27 = .ok (.aload_n 0, 1) := by decide +kernel
theorem dX5_takeNewName_28 : decode cX5_takeNewName 28 = .ok (.getfield 153, 3) := by decide +kernel
theorem dX5_takeNewName_31 : decode cX5_takeNewName 31 = .ok (.iconst 1, 1) := by decide +kernel
theorem dX5_takeNewName_32 : decode cX5_takeNewName 32 = .ok (.iadd, 1) := by decide +kernel
theorem dX5_takeNewName_33 : decode cX5_takeNewName 33 = .ok (.invokevirtual 66, 3) := by decide +kernel
theorem dX5_takeNewName_36 : decode cX5_takeNewName 36 = .ok (.iload_n 2, 1) := by decide +kernel
theorem dX5_takeNewName_37 : decode cX5_takeNewName 37 = .ok (.ireturn, 1) := by decide +kernel
theorem dX5_takeName_0 : decode cX5_takeName 0 = .ok (.iload_n 1, 1) := by decide +kernel
theorem dX5_takeName_1 : decode cX5_takeName 1 = .ok (.iconst 1, 1) := by decide +kernel
theorem dX5_takeName_2 : decode cX5_takeName 2 = .ok (.if_icmp .ne 19, 3) := by decide +kernel
theorem dX5_takeName_5 : decode cX5_takeName 5 = .ok (.aload_n 0, 1) := by decide +kernel
theorem dX5_takeName_6 : decode cX5_takeName 6 = .ok (.invokevirtual 230, 3) := by decide +kernel
theorem dX5_takeName_9 : decode cX5_takeName 9 = .ok (.ifCond .ne 12, 3) := by decide +kernel
theorem dX5_takeName_12 : decode cX5_takeName 12 = .ok (.aload_n 0, 1) := by decide +kernel
theorem dX5_takeName_13 : decode cX5_takeName 13 = .ok (.aload_n 0, 1) := by decide +kernel
theorem dX5_takeName_14 : decode cX5_takeName 14 = .ok (.getfield 156, 3) := by decide +kernel
theorem dX5_takeName_17 : decode cX5_takeName 17 = .ok (.iconst 1, 1) := by decide +kernel
theorem dX5_takeName_18 : decode cX5_takeName 18 = .ok (.invokevirtual 170, 3) := by decide +kernel
theorem dX5_takeName_21 : decode cX5_takeName 21 = .ok (.aload_n 0, 1) := by decide +kernel
theorem dX5_takeName_22 : decode cX5_takeName 22 = .ok (.invokevirtual 230, 3) := by decide +kernel
theorem dX5_takeName_25 : decode cX5_takeName 25 = .ok (.iload_n 1, 1) := by decide +kernel
theorem dX5_takeName_26 : decode cX5_takeName 26 = .ok (.if_icmp .eq 11, 3) := by decide +kernel
theorem dX5_takeName_29 : decode cX5_takeName 29 = .ok (.new 255, 3) := by decide +kernel
theorem dX5_takeName_32 : decode cX5_takeName 32 = .ok (.dup, 1) := by decide +kernel
theorem dX5_takeName_33 : decode cX5_takeName 33 = .ok (.invokespecial 257, 3) := by decide +kernel
theorem dX5_takeName_36 : decode cX5_takeName 36 = .ok (.athrow, 1) := by decide +kernel
theorem dX5_takeName_37 : decode cX5_takeName 37 = .ok (.aload_n 0, 1) := by decide +kernel
theorem dX5_takeName_38 : decode cX5_takeName 38 = .ok (.getfield 156, 3) := by decide +kernel
theorem dX5_takeName_41 : decode cX5_takeName 41 = .ok (.istore_n 2, 1) := by decide +kernel
theorem dX5_takeName_42 : decode cX5_takeName 42 = .ok (.aload_n 0, 1) := by decide +kernel
theorem dX5_takeName_43 : decode cX5_takeName 43 = .ok (.aload_n 0, 1) := by decide +kernel
theorem dX5_takeName_44 : decode cX5_takeName 44 = .ok (.getfield 153, 3) := by decide +kernel
theorem dX5_takeName_47 : decode cX5_takeName 47 = .ok (.iconst 1, 1) := by decide +kernel
theorem dX5_takeName_48 : decode cX5_takeName 48 = .ok (.iadd, 1) := by decide +kernel
theorem dX5_takeName_49 : decode cX5_takeName 49 = .ok (.invokevirtual 66, 3) := by decide +kernel
theorem dX5_takeName_52 : decode cX5_takeName 52 = .ok (.iload_n 2, 1) := by decide +kernel
theorem dX5_takeName_53 : decode cX5_takeName 53 = .ok (.ireturn, 1) := by decide +kernel
theorem dX6_init_0 : decode cX6_init 0 = .ok (.aload_n 0, 1) := by decide +kernel
theorem dX6_init_1 : decode cX6_init 1 = .ok (.invokespecial 3, 3) := by decide +kernel
theorem dX6_init_4 : decode cX6_init 4 = .ok (.aload_n 0, 1) := by decide +kernel
theorem dX6_init_5 : decode cX6_init 5 = .ok (.bipush 64, 2) := by decide +kernel
theorem dX6_init_7 : decode cX6_init 7 = .ok (.newarray .long, 2) := by decide +kernel
theorem dX6_init_9 : decode cX6_init 9 = .ok (.putfield 9, 3) := by decide +kernel
theorem dX6_init_12 : decode cX6_init 12 = .ok (.aload_n 0, 1) := by decide +kernel
theorem dX6_init_13 : decode cX6_init 13 = .ok (.bipush 64, 2) := by decide +kernel
theorem dX6_init_15 : decode cX6_init 15 = .ok (.newarray .long, 2) := by decide +kernel
theorem dX6_init_17 : decode cX6_init 17 = .ok (.putfield 15, 3) := by decide +kernel
theorem dX6_init_20 : decode cX6_init 20 = .ok (.aload_n 0, 1) := by decide +kernel
theorem dX6_init_21 : decode cX6_init 21 = .ok (.bipush 64, 2) := by decide +kernel
theorem dX6_init_23 : decode cX6_init 23 = .ok (.newarray .int, 2) := by decide +kernel
theorem dX6_init_25 : decode cX6_init 25 = .ok (.putfield 18, 3) := by decide +kernel
theorem dX6_init_28 : decode cX6_init 28 = .ok (.aload_n 0, 1) := by decide +kernel
theorem dX6_init_29 : decode cX6_init 29 = .ok (.bipush 64, 2) := by decide +kernel
theorem dX6_init_31 : decode cX6_init 31 = .ok (.newarray .long, 2) := by decide +kernel
theorem dX6_init_33 : decode cX6_init 33 = .ok (.putfield 22, 3) := by decide +kernel
theorem dX6_init_36 : decode cX6_init 36 = .ok (.return_, 1) := by decide +kernel
theorem dX6_nextOf_0 : decode cX6_nextOf 0 = .ok (.iload_n 1, 1) := by decide +kernel
theorem dX6_nextOf_1 : decode cX6_nextOf 1 = .ok (.ifCond .lt 20, 3) := by decide +kernel
theorem dX6_nextOf_4 : decode cX6_nextOf 4 = .ok (.iload_n 1, 1) := by decide +kernel
theorem dX6_nextOf_5 : decode cX6_nextOf 5 = .ok (.aload_n 0, 1) := by decide +kernel
theorem dX6_nextOf_6 : decode cX6_nextOf 6 = .ok (.getfield 25, 3) := by decide +kernel
theorem dX6_nextOf_9 : decode cX6_nextOf 9 = .ok (.if_icmp .ge 12, 3) := by decide +kernel
theorem dX6_nextOf_12 : decode cX6_nextOf 12 = .ok (.aload_n 0, 1) := by decide +kernel
theorem dX6_nextOf_13 : decode cX6_nextOf 13 = .ok (.getfield 18, 3) := by decide +kernel
theorem dX6_nextOf_16 : decode cX6_nextOf 16 = .ok (.iload_n 1, 1) := by decide +kernel
theorem dX6_nextOf_17 : decode cX6_nextOf 17 = .ok (.iaload, 1) := by decide +kernel
theorem dX6_nextOf_18 : decode cX6_nextOf 18 = .ok (.goto 4, 3) := by decide +kernel
theorem dX6_nextOf_21 : decode cX6_nextOf 21 = .ok (.iconst (-1), 1) := by decide +kernel
theorem dX6_nextOf_22 : decode cX6_nextOf 22 = .ok (.ireturn, 1) := by decide +kernel
theorem dX6_isInside_0 : decode cX6_isInside 0 = .ok (.iload_n 1, 1) := by decide +kernel
theorem dX6_isInside_1 : decode cX6_isInside 1 = .ok (.ifCond .lt 28, 3) := by decide +kernel
theorem dX6_isInside_4 : decode cX6_isInside 4 = .ok (.iload_n 1, 1) := by decide +kernel
theorem dX6_isInside_5 : decode cX6_isInside 5 = .ok (.aload_n 0, 1) := by decide +kernel
theorem dX6_isInside_6 : decode cX6_isInside 6 = .ok (.getfield 25, 3) := by decide +kernel
theorem dX6_isInside_9 : decode cX6_isInside 9 = .ok (.if_icmp .ge 20, 3) := by decide +kernel
theorem dX6_isInside_12 : decode cX6_isInside 12 = .ok (.aload_n 0, 1) := by decide +kernel
theorem dX6_isInside_13 : decode cX6_isInside 13 = .ok (.getfield 22, 3) := by decide +kernel
theorem dX6_isInside_16 : decode cX6_isInside 16 = .ok (.iload_n 1, 1) := by decide +kernel
theorem dX6_isInside_17 : decode cX6_isInside 17 = .ok (.laload, 1) := by decide +kernel
theorem dX6_isInside_18 : decode cX6_isInside 18 = .ok (.iload_n 2, 1) := by decide +kernel
theorem dX6_isInside_19 : decode cX6_isInside 19 = .ok (.invokestatic 29, 3) := by decide +kernel
theorem dX6_isInside_22 : decode cX6_isInside 22 = .ok (.ifCond .eq 7, 3) := by decide +kernel
theorem dX6_isInside_25 : decode cX6_isInside 25 = .ok (.iconst 1, 1) := by decide +kernel
theorem dX6_isInside_26 : decode cX6_isInside 26 = .ok (.goto 4, 3) := by decide +kernel
theorem dX6_isInside_29 : decode cX6_isInside 29 = .ok (.iconst 0, 1) := by decide +kernel
theorem dX6_isInside_30 : decode cX6_isInside 30 = .ok (.ireturn, 1) := by decide +kernel
theorem dX6_find_0 : decode cX6_find 0 = .ok (.aload_n 0, 1) := by decide +kernel
theorem dX6_find_1 : decode cX6_find 1 = .ok (.aload_n 1, 1) := by decide +kernel
theorem dX6_find_2 : decode cX6_find 2 = .ok (.invokevirtual 33, 3) := by decide +kernel
theorem dX6_find_5 : decode cX6_find 5 = .ok (.bipush 64, 2) := by decide +kernel
theorem dX6_find_7 : decode cX6_find 7 = .ok (.invokestatic 38, 3) := by decide +kernel
theorem dX6_find_10 : decode cX6_find 10 = .ok (.putfield 25, 3) := by decide +kernel
theorem dX6_find_13 : decode cX6_find 13 = .ok (.aload_n 0, 1) := by decide +kernel
theorem dX6_find_14 : decode cX6_find 14 = .ok (.lconst 0, 1) := by decide +kernel
theorem dX6_find_15 : decode cX6_find 15 = .ok (.putfield 44, 3) := by decide +kernel
theorem dX6_find_18 : decode cX6_find 18 = .ok (.iconst 0, 1) := by decide +kernel
theorem dX6_find_19 : decode cX6_find 19 = .ok (.istore 4, 2) := by decide +kernel
theorem dX6_find_21 : decode cX6_find 21 = .ok (.iload 4, 2) := by decide +kernel
theorem dX6_find_23 : decode cX6_find 23 = .ok (.aload_n 0, 1) := by decide +kernel
theorem dX6_find_24 : decode cX6_find 24 = .ok (.getfield 25, 3) := by decide +kernel
theorem dX6_find_27 : decode cX6_find 27 = .ok (.if_icmp .ge 76, 3) := by decide +kernel
theorem dX6_find_30 : decode cX6_find 30 = .ok (.aload_n 0, 1) := by decide +kernel
theorem dX6_find_31 : decode cX6_find 31 = .ok (.getfield 9, 3) := by decide +kernel
theorem dX6_find_34 : decode cX6_find 34 = .ok (.iload 4, 2) := by decide +kernel
theorem dX6_find_36 : decode cX6_find 36 = .ok (.aload_n 1, 1) := by decide +kernel
theorem dX6_find_37 : decode cX6_find 37 = .ok (.iload 4, 2) := by decide +kernel
theorem dX6_find_39 : decode cX6_find 39 = .ok (.invokevirtual 48, 3) := by decide +kernel
theorem dX6_find_42 : decode cX6_find 42 = .ok (.lastore, 1) := by decide +kernel
theorem dX6_find_43 : decode cX6_find 43 = .ok (.aload_n 0, 1) := by decide +kernel
theorem dX6_find_44 : decode cX6_find 44 = .ok (.getfield 15, 3) := by decide +kernel
theorem dX6_find_47 : decode cX6_find 47 = .ok (.iload 4, 2) := by decide +kernel
theorem dX6_find_49 : decode cX6_find 49 = .ok (.aload_n 1, 1) := by decide +kernel
theorem dX6_find_50 : decode cX6_find 50 = .ok (.iload 4, 2) := by decide +kernel
theorem dX6_find_52 : decode cX6_find 52 = .ok (.invokevirtual 51, 3) := by decide +kernel
theorem dX6_find_55 : decode cX6_find 55 = .ok (.bipush 15, 2) := by decide +kernel
theorem dX6_find_57 : decode cX6_find 57 = .ok (.if_icmp .ne 11, 3) := by decide +kernel
theorem dX6_find_60 : decode cX6_find 60 = .ok (.iload 4, 2) := by decide +kernel
theorem dX6_find_62 : decode cX6_find 62 = .ok (.invokestatic 55, 3) := by decide +kernel
theorem dX6_find_65 : decode cX6_find 65 = .ok (.goto 6, 3) := by decide +kernel
theorem dX6_find_68 : decode cX6_find 68 = .ok (.ldc2_w 58, 3) := by decide +kernel
theorem dX6_find_71 : decode cX6_find 71 = .ok (.lastore, 1) := by decide +kernel
theorem dX6_find_72 : decode cX6_find 72 = .ok (.aload_n 1, 1) := by decide +kernel
theorem dX6_find_73 : decode cX6_find 73 = .ok (.iload 4, 2) := by decide +kernel
theorem dX6_find_75 : decode cX6_find 75 = .ok (.invokevirtual 51, 3) := by decide +kernel
theorem dX6_find_78 : decode cX6_find 78 = .ok (.bipush 15, 2) := by decide +kernel
theorem dX6_find_80 : decode cX6_find 80 = .ok (.if_icmp .ne 17, 3) := by decide +kernel
theorem dX6_find_83 : decode cX6_find 83 = .ok (.aload_n 0, 1) := by decide +kernel
theorem dX6_find_84 : decode cX6_find 84 = .ok (.dup, 1) := by decide +kernel
theorem dX6_find_85 : decode cX6_find 85 = .ok (.getfield 44, 3) := by decide +kernel
theorem dX6_find_88 : decode cX6_find 88 = .ok (.iload 4, 2) := by decide +kernel
theorem dX6_find_90 : decode cX6_find 90 = .ok (.invokestatic 55, 3) := by decide +kernel
theorem dX6_find_93 : decode cX6_find 93 = .ok (.lor, 1) := by decide +kernel
theorem dX6_find_94 : decode cX6_find 94 = .ok (.putfield 44, 3) := by decide +kernel
theorem dX6_find_97 : decode cX6_find 97 = .ok (.iinc 4 1, 3) := by decide +kernel
theorem dX6_find_100 : decode cX6_find 100 = .ok (.goto (-79), 3) := by decide +kernel
theorem dX6_find_103 : decode cX6_find 103 = .ok (.aload_n 0, 1) := by decide +kernel
theorem dX6_find_104 : decode cX6_find 104 = .ok (.invokevirtual 60, 3) := by decide +kernel
theorem dX6_find_107 : decode cX6_find 107 = .ok (.aload_n 0, 1) := by decide +kernel
theorem dX6_find_108 : decode cX6_find 108 = .ok (.invokevirtual 63, 3) := by decide +kernel
theorem dX6_find_111 : decode cX6_find 111 = .ok (.iconst 0, 1) := by decide +kernel
theorem dX6_find_112 : decode cX6_find 112 = .ok (.istore 4, 2) := by decide +kernel
theorem dX6_find_114 : decode cX6_find 114 = .ok (.iload 4, 2) := by decide +kernel
theorem dX6_find_116 : decode cX6_find 116 = .ok (.aload_n 0, 1) := by decide +kernel
theorem dX6_find_117 : decode cX6_find 117 = .ok (.getfield 25, 3) := by decide +kernel
theorem dX6_find_120 : decode cX6_find 120 = .ok (.if_icmp .ge 87, 3) := by decide +kernel
theorem dX6_find_123 : decode cX6_find 123 = .ok (.aload_n 1, 1) := by decide +kernel
theorem dX6_find_124 : decode cX6_find 124 = .ok (.iload 4, 2) := by decide +kernel
theorem dX6_find_126 : decode cX6_find 126 = .ok (.invokevirtual 51, 3) := by decide +kernel
theorem dX6_find_129 : decode cX6_find 129 = .ok (.bipush 11, 2) := by decide +kernel
theorem dX6_find_131 : decode cX6_find 131 = .ok (.if_icmp .ne 16, 3) := by decide +kernel
theorem dX6_find_134 : decode cX6_find 134 = .ok (.lload_n 2, 1) := by decide +kernel
theorem dX6_find_135 : decode cX6_find 135 = .ok (.iload 4, 2) := by decide +kernel
theorem dX6_find_137 : decode cX6_find 137 = .ok (.invokestatic 29, 3) := by decide +kernel
theorem dX6_find_140 : decode cX6_find 140 = .ok (.ifCond .eq 7, 3) := by decide +kernel
theorem dX6_find_143 : decode cX6_find 143 = .ok (.iconst 1, 1) := by decide +kernel
theorem dX6_find_144 : decode cX6_find 144 = .ok (.goto 4, 3) := by decide +kernel
theorem dX6_find_147 : decode cX6_find 147 = .ok (.iconst 0, 1) := by decide +kernel
theorem dX6_find_148 : decode cX6_find 148 = .ok (.istore 5, 2) := by decide +kernel
theorem dX6_find_150 : decode cX6_find 150 = .ok (.aload_n 0, 1) := by decide +kernel
theorem dX6_find_151 : decode cX6_find 151 = .ok (.getfield 18, 3) := by decide +kernel
theorem dX6_find_154 : decode cX6_find 154 = .ok (.iload 4, 2) := by decide +kernel
theorem dX6_find_156 : decode cX6_find 156 = .ok (.iload 5, 2) := by decide +kernel
theorem dX6_find_158 : decode cX6_find 158 = .ok (.ifCond .eq 12, 3) := by decide +kernel
theorem dX6_find_161 : decode cX6_find 161 = .ok (.aload_n 0, 1) := by decide +kernel
theorem dX6_find_162 : decode cX6_find 162 = .ok (.iload 4, 2) := by decide +kernel
theorem dX6_find_164 : decode cX6_find 164 = .ok (.invokevirtual 66, 3) := by decide +kernel
theorem dX6_find_167 : decode cX6_find 167 = .ok (.goto 4, 3) := by decide +kernel
theorem dX6_find_170 : decode cX6_find 170 = .ok (.iconst (-1), 1) := by decide +kernel
theorem dX6_find_171 : decode cX6_find 171 = .ok (.iastore, 1) := by decide +kernel
theorem dX6_find_172 : decode cX6_find 172 = .ok (.aload_n 0, 1) := by decide +kernel
theorem dX6_find_173 : decode cX6_find 173 = .ok (.getfield 22, 3) := by decide +kernel
theorem dX6_find_176 : decode cX6_find 176 = .ok (.iload 4, 2) := by decide +kernel
theorem dX6_find_178 : decode cX6_find 178 = .ok (.iload 5, 2) := by decide +kernel
theorem dX6_find_180 : decode cX6_find 180 = .ok (.ifCond .eq 19, 3) := by decide +kernel
theorem dX6_find_183 : decode cX6_find 183 = .ok (.aload_n 0, 1) := by decide +kernel
theorem dX6_find_184 : decode cX6_find 184 = .ok (.iload 4, 2) := by decide +kernel
theorem dX6_find_186 : decode cX6_find 186 = .ok (.aload_n 0, 1) := by decide +kernel
theorem dX6_find_187 : decode cX6_find 187 = .ok (.getfield 18, 3) := by decide +kernel
theorem dX6_find_190 : decode cX6_find 190 = .ok (.iload 4, 2) := by decide +kernel
theorem dX6_find_192 : decode cX6_find 192 = .ok (.iaload, 1) := by decide +kernel
theorem dX6_find_193 : decode cX6_find 193 = .ok (.invokevirtual 69, 3) := by decide +kernel
theorem dX6_find_196 : decode cX6_find 196 = .ok (.goto 4, 3) := by decide +kernel
theorem dX6_find_199 : decode cX6_find 199 = .ok (.lconst 0, 1) := by decide +kernel
theorem dX6_find_200 : decode cX6_find 200 = .ok (.lastore, 1) := by decide +kernel
theorem dX6_find_201 : decode cX6_find 201 = .ok (.iinc 4 1, 3) := by decide +kernel
theorem dX6_find_204 : decode cX6_find 204 = .ok (.goto (-90), 3) := by decide +kernel
theorem dX6_find_207 : decode cX6_find 207 = .ok (.return_, 1) := by decide +kernel
theorem dX6_findEnding_0 : decode cX6_findEnding 0 = .ok (.iconst 1, 1) := by decide +kernel
theorem dX6_findEnding_1 : decode cX6_findEnding 1 = .ok (.istore_n 1, 1) := by decide +kernel
theorem dX6_findEnding_2 : decode cX6_findEnding 2 = .ok (.iconst 0, 1) := by decide +kernel
theorem dX6_findEnding_3 : decode cX6_findEnding 3 = .ok (.istore_n 2, 1) := by decide +kernel
theorem dX6_findEnding_4 : decode cX6_findEnding 4 = .ok (.iload_n 2, 1) := by decide +kernel
theorem dX6_findEnding_5 : decode cX6_findEnding 5 = .ok (.aload_n 0, 1) := by decide +kernel
theorem dX6_findEnding_6 : decode cX6_findEnding 6 = .ok (.getfield 25, 3) := by decide +kernel
theorem dX6_findEnding_9 : decode cX6_findEnding 9 = .ok (.if_icmp .gt 74, 3) := by decide +kernel
theorem dX6_findEnding_12 : decode cX6_findEnding 12 = .ok (.iload_n 1, 1) := by decide +kernel
theorem dX6_findEnding_13 : decode cX6_findEnding 13 = .ok (.ifCond .eq 70, 3) := by decide +kernel
theorem dX6_findEnding_16 : decode cX6_findEnding 16 = .ok (.iconst 0, 1) := by decide +kernel
theorem dX6_findEnding_17 : decode cX6_findEnding 17 = .ok (.istore_n 1, 1) := by decide +kernel
theorem dX6_findEnding_18 : decode cX6_findEnding 18 = .ok (.aload_n 0, 1) := by decide +kernel
theorem dX6_findEnding_19 : decode cX6_findEnding 19 = .ok (.getfield 25, 3) := by decide +kernel
theorem dX6_findEnding_22 : decode cX6_findEnding 22 = .ok (.iconst 1, 1) := by decide +kernel
theorem dX6_findEnding_23 : decode cX6_findEnding 23 = .ok (.isub, 1) := by decide +kernel
theorem dX6_findEnding_24 : decode cX6_findEnding 24 = .ok (.istore_n 3, 1) := by decide +kernel
theorem dX6_findEnding_25 : decode cX6_findEnding 25 = .ok (.iload_n 3, 1) := by decide +kernel
theorem dX6_findEnding_26 : decode cX6_findEnding 26 = .ok (.ifCond .lt 51, 3) := by decide +kernel
theorem dX6_findEnding_29 : decode cX6_findEnding 29 = .ok (.aload_n 0, 1) := by decide +kernel
theorem dX6_findEnding_30 : decode cX6_findEnding 30 = .ok (.getfield 44, 3) := by decide +kernel
theorem dX6_findEnding_33 : decode cX6_findEnding 33 = .ok (.iload_n 3, 1) := by decide +kernel
theorem dX6_findEnding_34 : decode cX6_findEnding 34 = .ok (.invokestatic 29, 3) := by decide +kernel
theorem dX6_findEnding_37 : decode cX6_findEnding 37 = .ok (.ifCond .ne 34, 3) := by decide +kernel
theorem dX6_findEnding_40 : decode cX6_findEnding 40 = .ok (.aload_n 0, 1) := by decide +kernel
theorem dX6_findEnding_41 : decode cX6_findEnding 41 = .ok (.getfield 9, 3) := by decide +kernel
theorem dX6_findEnding_44 : decode cX6_findEnding 44 = .ok (.iload_n 3, 1) := by decide +kernel
theorem dX6_findEnding_45 : decode cX6_findEnding 45 = .ok (.laload, 1) := by decide +kernel
theorem dX6_findEnding_46 : decode cX6_findEnding 46 = .ok (.aload_n 0, 1) := by decide +kernel
theorem dX6_findEnding_47 : decode cX6_findEnding 47 = .ok (.getfield 44, 3) := by decide +kernel
theorem dX6_findEnding_50 : decode cX6_findEnding 50 = .ok (.land, 1) := by decide +kernel
theorem dX6_findEnding_51 : decode cX6_findEnding 51 = .ok (.lconst 0, 1) := by decide +kernel
theorem dX6_findEnding_52 : decode cX6_findEnding 52 = .ok (.lcmp, 1) := by decide +kernel
theorem dX6_findEnding_53 : decode cX6_findEnding 53 = .ok (.ifCond .eq 18, 3) := by decide +kernel
theorem dX6_findEnding_56 : decode cX6_findEnding 56 = .ok (.aload_n 0, 1) := by decide +kernel
theorem dX6_findEnding_57 : decode cX6_findEnding 57 = .ok (.dup, 1) := by decide +kernel
theorem dX6_findEnding_58 : decode cX6_findEnding 58 = .ok (.getfield 44, 3) := by decide +kernel
theorem dX6_findEnding_61 : decode cX6_findEnding 61 = .ok (.iload_n 3, 1) := by decide +kernel
theorem dX6_findEnding_62 : decode cX6_findEnding 62 = .ok (.invokestatic 55, 3) := by decide +kernel
theorem dX6_findEnding_65 : decode cX6_findEnding 65 = .ok (.lor, 1) := by decide +kernel
theorem dX6_findEnding_66 : decode cX6_findEnding 66 = .ok (.putfield 44, 3) := by decide +kernel
theorem dX6_findEnding_69 : decode cX6_findEnding 69 = .ok (.iconst 1, 1) := by decide +kernel
theorem dX6_findEnding_70 : decode cX6_findEnding 70 = .ok (.istore_n 1, 1) := by decide +kernel
theorem dX6_findEnding_71 : decode cX6_findEnding 71 = .ok (.iinc 3 (-1), 3) := by decide +kernel
theorem dX6_findEnding_74 : decode cX6_findEnding 74 = .ok (.goto (-49), 3) := by decide +kernel
theorem dX6_findEnding_77 : decode cX6_findEnding 77 = .ok (.iinc 2 1, 3) := by decide +kernel
theorem dX6_findEnding_80 : decode cX6_findEnding 80 = .ok (.goto (-76), 3) := by decide +kernel
theorem dX6_findEnding_83 : decode cX6_findEnding 83 = .ok (.return_, 1) := by decide +kernel
theorem dX6_findSure_0 : decode cX6_findSure 0 = .ok (.iconst 1, 1) := by decide +kernel
theorem dX6_findSure_1 : decode cX6_findSure 1 = .ok (.istore_n 1, 1) := by decide +kernel
theorem dX6_findSure_2 : decode cX6_findSure 2 = .ok (.iconst 0, 1) := by decide +kernel
theorem dX6_findSure_3 : decode cX6_findSure 3 = .ok (.istore_n 2, 1) := by decide +kernel
theorem dX6_findSure_4 : decode cX6_findSure 4 = .ok (.iload_n 2, 1) := by decide +kernel
theorem dX6_findSure_5 : decode cX6_findSure 5 = .ok (.aload_n 0, 1) := by decide +kernel
theorem dX6_findSure_6 : decode cX6_findSure 6 = .ok (.getfield 25, 3) := by decide +kernel
theorem dX6_findSure_9 : decode cX6_findSure 9 = .ok (.aload_n 0, 1) := by decide +kernel
theorem dX6_findSure_10 : decode cX6_findSure 10 = .ok (.getfield 25, 3) := by decide +kernel
theorem dX6_findSure_13 : decode cX6_findSure 13 = .ok (.imul, 1) := by decide +kernel
theorem dX6_findSure_14 : decode cX6_findSure 14 = .ok (.if_icmp .gt 81, 3) := by decide +kernel
theorem dX6_findSure_17 : decode cX6_findSure 17 = .ok (.iload_n 1, 1) := by decide +kernel
theorem dX6_findSure_18 : decode cX6_findSure 18 = .ok (.ifCond .eq 77, 3) := by decide +kernel
theorem dX6_findSure_21 : decode cX6_findSure 21 = .ok (.iconst 0, 1) := by decide +kernel
theorem dX6_findSure_22 : decode cX6_findSure 22 = .ok (.istore_n 1, 1) := by decide +kernel
theorem dX6_findSure_23 : decode cX6_findSure 23 = .ok (.aload_n 0, 1) := by decide +kernel
theorem dX6_findSure_24 : decode cX6_findSure 24 = .ok (.getfield 25, 3) := by decide +kernel
theorem dX6_findSure_27 : decode cX6_findSure 27 = .ok (.iconst 1, 1) := by decide +kernel
theorem dX6_findSure_28 : decode cX6_findSure 28 = .ok (.isub, 1) := by decide +kernel
theorem dX6_findSure_29 : decode cX6_findSure 29 = .ok (.istore_n 3, 1) := by decide +kernel
theorem dX6_findSure_30 : decode cX6_findSure 30 = .ok (.iload_n 3, 1) := by decide +kernel
theorem dX6_findSure_31 : decode cX6_findSure 31 = .ok (.ifCond .lt 58, 3) := by decide +kernel
theorem dX6_findSure_34 : decode cX6_findSure 34 = .ok (.aload_n 0, 1) := by decide +kernel
theorem dX6_findSure_35 : decode cX6_findSure 35 = .ok (.getfield 15, 3) := by decide +kernel
theorem dX6_findSure_38 : decode cX6_findSure 38 = .ok (.iload_n 3, 1) := by decide +kernel
theorem dX6_findSure_39 : decode cX6_findSure 39 = .ok (.laload, 1) := by decide +kernel
theorem dX6_findSure_40 : decode cX6_findSure 40 = .ok (.iload_n 3, 1) := by decide +kernel
theorem dX6_findSure_41 : decode cX6_findSure 41 = .ok (.invokestatic 55, 3) := by decide +kernel
theorem dX6_findSure_44 : decode cX6_findSure 44 = .ok (.aload_n 0, 1) := by decide +kernel
theorem dX6_findSure_45 : decode cX6_findSure 45 = .ok (.iload_n 3, 1) := by decide +kernel
theorem dX6_findSure_46 : decode cX6_findSure 46 = .ok (.invokevirtual 73, 3) := by decide +kernel
theorem dX6_findSure_49 : decode cX6_findSure 49 = .ok (.lor, 1) := by decide +kernel
theorem dX6_findSure_50 : decode cX6_findSure 50 = .ok (.land, 1) := by decide +kernel
theorem dX6_findSure_51 : decode cX6_findSure 51 = .ok (.lstore 4, 2) := by decide +kernel
theorem dX6_findSure_53 : decode cX6_findSure 53 = .ok (.iload_n 1, 1) := by decide +kernel
theorem dX6_findSure_54 : decode cX6_findSure 54 = .ok (.ifCond .ne 15, 3) := by decide +kernel
theorem dX6_findSure_57 : decode cX6_findSure 57 = .ok (.lload 4, 2) := by decide +kernel
theorem dX6_findSure_59 : decode cX6_findSure 59 = .ok (.aload_n 0, 1) := by decide +kernel
theorem dX6_findSure_60 : decode cX6_findSure 60 = .ok (.getfield 15, 3) := by decide +kernel
theorem dX6_findSure_63 : decode cX6_findSure 63 = .ok (.iload_n 3, 1) := by decide +kernel
theorem dX6_findSure_64 : decode cX6_findSure 64 = .ok (.laload, 1) := by decide +kernel
theorem dX6_findSure_65 : decode cX6_findSure 65 = .ok (.lcmp, 1) := by decide +kernel
theorem dX6_findSure_66 : decode cX6_findSure 66 = .ok (.ifCond .eq 7, 3) := by decide +kernel
theorem dX6_findSure_69 : decode cX6_findSure 69 = .ok (.iconst 1, 1) := by decide +kernel
theorem dX6_findSure_70 : decode cX6_findSure 70 = .ok (.goto 4, 3) := by decide +kernel
theorem dX6_findSure_73 : decode cX6_findSure 73 = .ok (.iconst 0, 1) := by decide +kernel
theorem dX6_findSure_74 : decode cX6_findSure 74 = .ok (.istore_n 1, 1) := by decide +kernel
theorem dX6_findSure_75 : decode cX6_findSure 75 = .ok (.aload_n 0, 1) := by decide +kernel
theorem dX6_findSure_76 : decode cX6_findSure 76 = .ok (.getfield 15, 3) := by decide +kernel
theorem dX6_findSure_79 : decode cX6_findSure 79 = .ok (.iload_n 3, 1) := by decide +kernel
theorem dX6_findSure_80 : decode cX6_findSure 80 = .ok (.lload 4, 2) := by decide +kernel
theorem dX6_findSure_82 : decode cX6_findSure 82 = .ok (.lastore, 1) := by decide +kernel
theorem dX6_findSure_83 : decode cX6_findSure 83 = .ok (.iinc 3 (-1), 3) := by decide +kernel
theorem dX6_findSure_86 : decode cX6_findSure 86 = .ok (.goto (-56), 3) := by decide +kernel
theorem dX6_findSure_89 : decode cX6_findSure 89 = .ok (.iinc 2 1, 3) := by decide +kernel
theorem dX6_findSure_92 : decode cX6_findSure 92 = .ok (.goto (-88), 3) := by decide +kernel
theorem dX6_findSure_95 : decode cX6_findSure 95 = .ok (.return_, 1) := by decide +kernel
theorem dX6_sureBehind_0 : decode cX6_sureBehind 0 = .ok (.ldc2_w 58, 3) := by decide +kernel
theorem dX6_sureBehind_3 : decode cX6_sureBehind 3 = .ok (.lstore_n 2, 1) := by decide +kernel
theorem dX6_sureBehind_4 : decode cX6_sureBehind 4 = .ok (.aload_n 0, 1) := by decide +kernel
theorem dX6_sureBehind_5 : decode cX6_sureBehind 5 = .ok (.getfield 9, 3) := by decide +kernel
theorem dX6_sureBehind_8 : decode cX6_sureBehind 8 = .ok (.iload_n 1, 1) := by decide +kernel
theorem dX6_sureBehind_9 : decode cX6_sureBehind 9 = .ok (.laload, 1) := by decide +kernel
theorem dX6_sureBehind_10 : decode cX6_sureBehind 10 = .ok (.aload_n 0, 1) := by decide +kernel
theorem dX6_sureBehind_11 : decode cX6_sureBehind 11 = .ok (.getfield 44, 3) := by decide +kernel
theorem dX6_sureBehind_14 : decode cX6_sureBehind 14 = .ok (.land, 1) := by decide +kernel
theorem dX6_sureBehind_15 : decode cX6_sureBehind 15 = .ok (.lstore 4, 2) := by decide +kernel
theorem dX6_sureBehind_17 : decode cX6_sureBehind 17 = .ok (.iconst 0, 1) := by decide +kernel
theorem dX6_sureBehind_18 : decode cX6_sureBehind 18 = .ok (.istore 6, 2) := by decide +kernel
theorem dX6_sureBehind_20 : decode cX6_sureBehind 20 = .ok (.iload 6, 2) := by decide +kernel
theorem dX6_sureBehind_22 : decode cX6_sureBehind 22 = .ok (.iconst 2, 1) := by decide +kernel
theorem dX6_sureBehind_23 : decode cX6_sureBehind 23 = .ok (.if_icmp .ge 38, 3) := by decide +kernel
theorem dX6_sureBehind_26 : decode cX6_sureBehind 26 = .ok (.lload 4, 2) := by decide +kernel
theorem dX6_sureBehind_28 : decode cX6_sureBehind 28 = .ok (.lconst 0, 1) := by decide +kernel
theorem dX6_sureBehind_29 : decode cX6_sureBehind 29 = .ok (.lcmp, 1) := by decide +kernel
theorem dX6_sureBehind_30 : decode cX6_sureBehind 30 = .ok (.ifCond .eq 31, 3) := by decide +kernel
theorem dX6_sureBehind_33 : decode cX6_sureBehind 33 = .ok (.lload_n 2, 1) := by decide +kernel
theorem dX6_sureBehind_34 : decode cX6_sureBehind 34 = .ok (.aload_n 0, 1) := by decide +kernel
theorem dX6_sureBehind_35 : decode cX6_sureBehind 35 = .ok (.getfield 15, 3) := by decide +kernel
theorem dX6_sureBehind_38 : decode cX6_sureBehind 38 = .ok (.lload 4, 2) := by decide +kernel
theorem dX6_sureBehind_40 : decode cX6_sureBehind 40 = .ok (.invokestatic 76, 3) := by decide +kernel
theorem dX6_sureBehind_43 : decode cX6_sureBehind 43 = .ok (.laload, 1) := by decide +kernel
theorem dX6_sureBehind_44 : decode cX6_sureBehind 44 = .ok (.land, 1) := by decide +kernel
theorem dX6_sureBehind_45 : decode cX6_sureBehind 45 = .ok (.lstore_n 2, 1) := by decide +kernel
theorem dX6_sureBehind_46 : decode cX6_sureBehind 46 = .ok (.lload 4, 2) := by decide +kernel
theorem dX6_sureBehind_48 : decode cX6_sureBehind 48 = .ok (.lload 4, 2) := by decide +kernel
theorem dX6_sureBehind_50 : decode cX6_sureBehind 50 = .ok (.lconst 1, 1) := by decide +kernel
theorem dX6_sureBehind_51 : decode cX6_sureBehind 51 = .ok (.lsub, 1) := by decide +kernel
theorem dX6_sureBehind_52 : decode cX6_sureBehind 52 = .ok (.land, 1) := by decide +kernel
theorem dX6_sureBehind_53 : decode cX6_sureBehind 53 = .ok (.lstore 4, 2) := by decide +kernel
theorem dX6_sureBehind_55 : decode cX6_sureBehind 55 = .ok (.iinc 6 1, 3) := by decide +kernel
theorem dX6_sureBehind_58 : decode cX6_sureBehind 58 = .ok (.goto (-38), 3) := by decide +kernel
theorem dX6_sureBehind_61 : decode cX6_sureBehind 61 = .ok (.lload_n 2, 1) := by decide +kernel
theorem dX6_sureBehind_62 : decode cX6_sureBehind 62 = .ok (.lreturn, 1) := by decide +kernel
theorem dX6_findNext_0 : decode cX6_findNext 0 = .ok (.aload_n 0, 1) := by decide +kernel
theorem dX6_findNext_1 : decode cX6_findNext 1 = .ok (.getfield 9, 3) := by decide +kernel
theorem dX6_findNext_4 : decode cX6_findNext 4 = .ok (.iload_n 1, 1) := by decide +kernel
theorem dX6_findNext_5 : decode cX6_findNext 5 = .ok (.laload, 1) := by decide +kernel
theorem dX6_findNext_6 : decode cX6_findNext 6 = .ok (.aload_n 0, 1) := by decide +kernel
theorem dX6_findNext_7 : decode cX6_findNext 7 = .ok (.getfield 44, 3) := by decide +kernel
theorem dX6_findNext_10 : decode cX6_findNext 10 = .ok (.land, 1) := by decide +kernel
theorem dX6_findNext_11 : decode cX6_findNext 11 = .ok (.lconst 0, 1) := by decide +kernel
theorem dX6_findNext_12 : decode cX6_findNext 12 = .ok (.lcmp, 1) := by decide +kernel
theorem dX6_findNext_13 : decode cX6_findNext 13 = .ok (.ifCond .ne 5, 3) := by decide +kernel
theorem dX6_findNext_16 : decode cX6_findNext 16 = .ok (.iconst (-1), 1) := by decide +kernel
theorem dX6_findNext_17 : decode cX6_findNext 17 = .ok (.ireturn, 1) := by decide +kernel
theorem dX6_findNext_18 : decode cX6_findNext 18 = .ok (.aload_n 0, 1) := by decide +kernel
theorem dX6_findNext_19 : decode cX6_findNext 19 = .ok (.iload_n 1, 1) := by decide +kernel
theorem dX6_findNext_20 : decode cX6_findNext 20 = .ok (.invokevirtual 73, 3) := by decide +kernel
theorem dX6_findNext_23 : decode cX6_findNext 23 = .ok (.iload_n 1, 1) := by decide +kernel
theorem dX6_findNext_24 : decode cX6_findNext 24 = .ok (.invokestatic 55, 3) := by decide +kernel
theorem dX6_findNext_27 : decode cX6_findNext 27 = .ok (.ldc2_w 58, 3) := by decide +kernel
theorem dX6_findNext_30 : decode cX6_findNext 30 = .ok (.lxor, 1) := by decide +kernel
theorem dX6_findNext_31 : decode cX6_findNext 31 = .ok (.land, 1) := by decide +kernel
theorem dX6_findNext_32 : decode cX6_findNext 32 = .ok (.lstore_n 2, 1) := by decide +kernel
theorem dX6_findNext_33 : decode cX6_findNext 33 = .ok (.iconst 0, 1) := by decide +kernel
theorem dX6_findNext_34 : decode cX6_findNext 34 = .ok (.istore 4, 2) := by decide +kernel
theorem dX6_findNext_36 : decode cX6_findNext 36 = .ok (.iload 4, 2) := by decide +kernel
theorem dX6_findNext_38 : decode cX6_findNext 38 = .ok (.aload_n 0, 1) := by decide +kernel
theorem dX6_findNext_39 : decode cX6_findNext 39 = .ok (.getfield 25, 3) := by decide +kernel
theorem dX6_findNext_42 : decode cX6_findNext 42 = .ok (.if_icmp .ge 39, 3) := by decide +kernel
theorem dX6_findNext_45 : decode cX6_findNext 45 = .ok (.lload_n 2, 1) := by decide +kernel
theorem dX6_findNext_46 : decode cX6_findNext 46 = .ok (.iload 4, 2) := by decide +kernel
theorem dX6_findNext_48 : decode cX6_findNext 48 = .ok (.invokestatic 29, 3) := by decide +kernel
theorem dX6_findNext_51 : decode cX6_findNext 51 = .ok (.ifCond .eq 24, 3) := by decide +kernel
theorem dX6_findNext_54 : decode cX6_findNext 54 = .ok (.lload_n 2, 1) := by decide +kernel
theorem dX6_findNext_55 : decode cX6_findNext 55 = .ok (.aload_n 0, 1) := by decide +kernel
theorem dX6_findNext_56 : decode cX6_findNext 56 = .ok (.getfield 15, 3) := by decide +kernel
theorem dX6_findNext_59 : decode cX6_findNext 59 = .ok (.iload 4, 2) := by decide +kernel
theorem dX6_findNext_61 : decode cX6_findNext 61 = .ok (.laload, 1) := by decide +kernel
theorem dX6_findNext_62 : decode cX6_findNext 62 = .ok (.ldc2_w 58, 3) := by decide +kernel
theorem dX6_findNext_65 : decode cX6_findNext 65 = .ok (.lxor, 1) := by decide +kernel
theorem dX6_findNext_66 : decode cX6_findNext 66 = .ok (.land, 1) := by decide +kernel
theorem dX6_findNext_67 : decode cX6_findNext 67 = .ok (.lconst 0, 1) := by decide +kernel
theorem dX6_findNext_68 : decode cX6_findNext 68 = .ok (.lcmp, 1) := by decide +kernel
theorem dX6_findNext_69 : decode cX6_findNext 69 = .ok (.ifCond .ne 6, 3) := by decide +kernel
theorem dX6_findNext_72 : decode cX6_findNext 72 = .ok (.iload 4, 2) := by decide +kernel
theorem dX6_findNext_74 : decode cX6_findNext 74 = .ok (.ireturn, 1) := by decide +kernel
theorem dX6_findNext_75 : decode cX6_findNext 75 = .ok (.iinc 4 1, 3) := by decide +kernel
theorem dX6_findNext_78 : decode cX6_findNext 78 = .ok (.goto (-42), 3) := by decide +kernel
theorem dX6_findNext_81 : decode cX6_findNext 81 = .ok (.iconst (-1), 1) := by decide +kernel
theorem dX6_findNext_82 : decode cX6_findNext 82 = .ok (.ireturn, 1) := by decide +kernel
theorem dX6_reachedFrom_0 : decode cX6_reachedFrom 0 = .ok (.iload_n 2, 1) := by decide +kernel
theorem dX6_reachedFrom_1 : decode cX6_reachedFrom 1 = .ok (.iconst (-1), 1) := by decide +kernel
theorem dX6_reachedFrom_2 : decode cX6_reachedFrom 2 = .ok (.if_icmp .ne 9, 3) := by decide +kernel
theorem dX6_reachedFrom_5 : decode cX6_reachedFrom 5 = .ok (.ldc2_w 58, 3) := by decide +kernel
theorem dX6_reachedFrom_8 : decode cX6_reachedFrom 8 = .ok (.goto 11, 3) := by decide +kernel
theorem dX6_reachedFrom_11 : decode cX6_reachedFrom 11 = .ok (.iload_n 2, 1) := by decide +kernel
theorem dX6_reachedFrom_12 : decode cX6_reachedFrom 12 = .ok (.invokestatic 55, 3) := by decide +kernel
theorem dX6_reachedFrom_15 : decode cX6_reachedFrom 15 = .ok (.ldc2_w 58, 3) := by decide +kernel
theorem dX6_reachedFrom_18 : decode cX6_reachedFrom 18 = .ok (.lxor, 1) := by decide +kernel
theorem dX6_reachedFrom_19 : decode cX6_reachedFrom 19 = .ok (.lstore_n 3, 1) := by decide +kernel
theorem dX6_reachedFrom_20 : decode cX6_reachedFrom 20 = .ok (.aload_n 0, 1) := by decide +kernel
theorem dX6_reachedFrom_21 : decode cX6_reachedFrom 21 = .ok (.getfield 9, 3) := by decide +kernel
theorem dX6_reachedFrom_24 : decode cX6_reachedFrom 24 = .ok (.iload_n 1, 1) := by decide +kernel
theorem dX6_reachedFrom_25 : decode cX6_reachedFrom 25 = .ok (.laload, 1) := by decide +kernel
theorem dX6_reachedFrom_26 : decode cX6_reachedFrom 26 = .ok (.lload_n 3, 1) := by decide +kernel
theorem dX6_reachedFrom_27 : decode cX6_reachedFrom 27 = .ok (.land, 1) := by decide +kernel
theorem dX6_reachedFrom_28 : decode cX6_reachedFrom 28 = .ok (.lstore 5, 2) := by decide +kernel
theorem dX6_reachedFrom_30 : decode cX6_reachedFrom 30 = .ok (.lload 5, 2) := by decide +kernel
theorem dX6_reachedFrom_32 : decode cX6_reachedFrom 32 = .ok (.lstore 7, 2) := by decide +kernel
theorem dX6_reachedFrom_34 : decode cX6_reachedFrom 34 = .ok (.iconst 0, 1) := by decide +kernel
theorem dX6_reachedFrom_35 : decode cX6_reachedFrom 35 = .ok (.istore 9, 2) := by decide +kernel
theorem dX6_reachedFrom_37 : decode cX6_reachedFrom 37 = .ok (.iload 9, 2) := by decide +kernel
theorem dX6_reachedFrom_39 : decode cX6_reachedFrom 39 = .ok (.aload_n 0, 1) := by decide +kernel
theorem dX6_reachedFrom_40 : decode cX6_reachedFrom 40 = .ok (.getfield 25, 3) := by decide +kernel
theorem dX6_reachedFrom_43 : decode cX6_reachedFrom 43 = .ok (.if_icmp .ge 56, 3) := by decide +kernel
theorem dX6_reachedFrom_46 : decode cX6_reachedFrom 46 = .ok (.lload 7, 2) := by decide +kernel
theorem dX6_reachedFrom_48 : decode cX6_reachedFrom 48 = .ok (.lconst 0, 1) := by decide +kernel
theorem dX6_reachedFrom_49 : decode cX6_reachedFrom 49 = .ok (.lcmp, 1) := by decide +kernel
theorem dX6_reachedFrom_50 : decode cX6_reachedFrom 50 = .ok (.ifCond .eq 49, 3) := by decide +kernel
theorem dX6_reachedFrom_53 : decode cX6_reachedFrom 53 = .ok (.aload_n 0, 1) := by decide +kernel
theorem dX6_reachedFrom_54 : decode cX6_reachedFrom 54 = .ok (.getfield 9, 3) := by decide +kernel
theorem dX6_reachedFrom_57 : decode cX6_reachedFrom 57 = .ok (.lload 7, 2) := by decide +kernel
theorem dX6_reachedFrom_59 : decode cX6_reachedFrom 59 = .ok (.invokestatic 76, 3) := by decide +kernel
theorem dX6_reachedFrom_62 : decode cX6_reachedFrom 62 = .ok (.laload, 1) := by decide +kernel
theorem dX6_reachedFrom_63 : decode cX6_reachedFrom 63 = .ok (.lload_n 3, 1) := by decide +kernel
theorem dX6_reachedFrom_64 : decode cX6_reachedFrom 64 = .ok (.land, 1) := by decide +kernel
theorem dX6_reachedFrom_65 : decode cX6_reachedFrom 65 = .ok (.lload 5, 2) := by decide +kernel
theorem dX6_reachedFrom_67 : decode cX6_reachedFrom 67 = .ok (.ldc2_w 58, 3) := by decide +kernel
theorem dX6_reachedFrom_70 : decode cX6_reachedFrom 70 = .ok (.lxor, 1) := by decide +kernel
theorem dX6_reachedFrom_71 : decode cX6_reachedFrom 71 = .ok (.land, 1) := by decide +kernel
theorem dX6_reachedFrom_72 : decode cX6_reachedFrom 72 = .ok (.lstore 10, 2) := by decide +kernel
theorem dX6_reachedFrom_74 : decode cX6_reachedFrom 74 = .ok (.lload 7, 2) := by decide +kernel
theorem dX6_reachedFrom_76 : decode cX6_reachedFrom 76 = .ok (.lload 7, 2) := by decide +kernel
theorem dX6_reachedFrom_78 : decode cX6_reachedFrom 78 = .ok (.lconst 1, 1) := by decide +kernel
theorem dX6_reachedFrom_79 : decode cX6_reachedFrom 79 = .ok (.lsub, 1) := by decide +kernel
theorem dX6_reachedFrom_80 : decode cX6_reachedFrom 80 = .ok (.land, 1) := by decide +kernel
theorem dX6_reachedFrom_81 : decode cX6_reachedFrom 81 = .ok (.lload 10, 2) := by decide +kernel
theorem dX6_reachedFrom_83 : decode cX6_reachedFrom 83 = .ok (.lor, 1) := by decide +kernel
theorem dX6_reachedFrom_84 : decode cX6_reachedFrom 84 = .ok (.lstore 7, 2) := by decide +kernel
theorem dX6_reachedFrom_86 : decode cX6_reachedFrom 86 = .ok (.lload 5, 2) := by decide +kernel
theorem dX6_reachedFrom_88 : decode cX6_reachedFrom 88 = .ok (.lload 10, 2) := by decide +kernel
theorem dX6_reachedFrom_90 : decode cX6_reachedFrom 90 = .ok (.lor, 1) := by decide +kernel
theorem dX6_reachedFrom_91 : decode cX6_reachedFrom 91 = .ok (.lstore 5, 2) := by decide +kernel
theorem dX6_reachedFrom_93 : decode cX6_reachedFrom 93 = .ok (.iinc 9 1, 3) := by decide +kernel
theorem dX6_reachedFrom_96 : decode cX6_reachedFrom 96 = .ok (.goto (-59), 3) := by decide +kernel
theorem dX6_reachedFrom_99 : decode cX6_reachedFrom 99 = .ok (.lload 5, 2) := by decide +kernel
theorem dX6_reachedFrom_101 : decode cX6_reachedFrom 101 = .ok (.lreturn, 1) := by decide +kernel
theorem dX7_init_0 : decode cX7_init 0 = .ok (.aload_n 0, 1) := by decide +kernel
theorem dX7_init_1 : decode cX7_init 1 = .ok (.invokespecial 1, 3) := by decide +kernel
theorem dX7_init_4 : decode cX7_init 4 = .ok (.aload_n 0, 1) := by decide +kernel
theorem dX7_init_5 : decode cX7_init 5 = .ok (.iload_n 1, 1) := by decide +kernel
theorem dX7_init_6 : decode cX7_init 6 = .ok (.putfield 7, 3) := by decide +kernel
theorem dX7_init_9 : decode cX7_init 9 = .ok (.aload_n 0, 1) := by decide +kernel
theorem dX7_init_10 : decode cX7_init 10 = .ok (.iload_n 2, 1) := by decide +kernel
theorem dX7_init_11 : decode cX7_init 11 = .ok (.putfield 13, 3) := by decide +kernel
theorem dX7_init_14 : decode cX7_init 14 = .ok (.aload_n 0, 1) := by decide +kernel
theorem dX7_init_15 : decode cX7_init 15 = .ok (.iload_n 3, 1) := by decide +kernel
theorem dX7_init_16 : decode cX7_init 16 = .ok (.putfield 16, 3) := by decide +kernel
theorem dX7_init_19 : decode cX7_init 19 = .ok (.aload_n 0, 1) := by decide +kernel
theorem dX7_init_20 : decode cX7_init 20 = .ok (.iload_n 3, 1) := by decide +kernel
theorem dX7_init_21 : decode cX7_init 21 = .ok (.putfield 19, 3) := by decide +kernel
theorem dX7_init_24 : decode cX7_init 24 = .ok (.return_, 1) := by decide +kernel
theorem dX8_init_0 : decode cX8_init 0 = .ok (.aload_n 0, 1) := by decide +kernel
theorem dX8_init_1 : decode cX8_init 1 = .ok (.invokespecial 3, 3) := by decide +kernel
theorem dX8_init_4 : decode cX8_init 4 = .ok (.return_, 1) := by decide +kernel
theorem dX8_fits_0 : decode cX8_fits 0 = .ok (.aload_n 0, 1) := by decide +kernel
theorem dX8_fits_1 : decode cX8_fits 1 = .ok (.aload_n 1, 1) := by decide +kernel
theorem dX8_fits_2 : decode cX8_fits 2 = .ok (.putfield 9, 3) := by decide +kernel
theorem dX8_fits_5 : decode cX8_fits 5 = .ok (.aload_n 0, 1) := by decide +kernel
theorem dX8_fits_6 : decode cX8_fits 6 = .ok (.aload_n 2, 1) := by decide +kernel
theorem dX8_fits_7 : decode cX8_fits 7 = .ok (.putfield 15, 3) := by decide +kernel
theorem dX8_fits_10 : decode cX8_fits 10 = .ok (.aload_n 0, 1) := by decide +kernel
theorem dX8_fits_11 : decode cX8_fits 11 = .ok (.getfield 15, 3) := by decide +kernel
theorem dX8_fits_14 : decode cX8_fits 14 = .ok (.invokevirtual 19, 3) := by decide +kernel
theorem dX8_fits_17 : decode cX8_fits 17 = .ok (.aload_n 0, 1) := by decide +kernel
theorem dX8_fits_18 : decode cX8_fits 18 = .ok (.iconst 0, 1) := by decide +kernel
theorem dX8_fits_19 : decode cX8_fits 19 = .ok (.putfield 24, 3) := by decide +kernel
theorem dX8_fits_22 : decode cX8_fits 22 = .ok (.aload_n 0, 1) := by decide +kernel
theorem dX8_fits_23 : decode cX8_fits 23 = .ok (.aload_n 0, 1) := by decide +kernel
theorem dX8_fits_24 : decode cX8_fits 24 = .ok (.getfield 9, 3) := by decide +kernel
theorem dX8_fits_27 : decode cX8_fits 27 = .ok (.getfield 28, 3) := by decide +kernel
theorem dX8_fits_30 : decode cX8_fits 30 = .ok (.iconst 0, 1) := by decide +kernel
theorem dX8_fits_31 : decode cX8_fits 31 = .ok (.invokevirtual 34, 3) := by decide +kernel
theorem dX8_fits_34 : decode cX8_fits 34 = .ok (.aload_n 0, 1) := by decide +kernel
theorem dX8_fits_35 : decode cX8_fits 35 = .ok (.bipush 15, 2) := by decide +kernel
theorem dX8_fits_37 : decode cX8_fits 37 = .ok (.iconst 0, 1) := by decide +kernel
theorem dX8_fits_38 : decode cX8_fits 38 = .ok (.invokevirtual 38, 3) := by decide +kernel
theorem dX8_fits_41 : decode cX8_fits 41 = .ok (.aload_n 0, 1) := by decide +kernel
theorem dX8_fits_42 : decode cX8_fits 42 = .ok (.getfield 24, 3) := by decide +kernel
theorem dX8_fits_45 : decode cX8_fits 45 = .ok (.ifCond .ne 7, 3) := by decide +kernel
theorem dX8_fits_48 : decode cX8_fits 48 = .ok (.iconst 1, 1) := by decide +kernel
theorem dX8_fits_49 : decode cX8_fits 49 = .ok (.goto 4, 3) := by decide +kernel
theorem dX8_fits_52 : decode cX8_fits 52 = .ok (.iconst 0, 1) := by decide +kernel
theorem dX8_fits_53 : decode cX8_fits 53 = .ok (.ireturn, 1) := by decide +kernel
theorem dX8_goThrough_0 : decode cX8_goThrough 0 = .ok (.iload_n 2, 1) := by decide +kernel
theorem dX8_goThrough_1 : decode cX8_goThrough 1 = .ok (.bipush 48, 2) := by decide +kernel
theorem dX8_goThrough_3 : decode cX8_goThrough 3 = .ok (.if_icmp .lt 4, 3) := by decide +kernel
theorem dX8_goThrough_6 : decode cX8_goThrough 6 = .ok (.return_, 1) := by decide +kernel
theorem dX8_goThrough_7 : decode cX8_goThrough 7 = .ok (.aload_n 1, 1) := by decide +kernel
theorem dX8_goThrough_8 : decode cX8_goThrough 8 = .ok (.astore_n 3, 1) := by decide +kernel
theorem dX8_goThrough_9 : decode cX8_goThrough 9 = .ok (.aload_n 3, 1) := by decide +kernel
theorem dX8_goThrough_10 : decode cX8_goThrough 10 = .ok (.ifnull 94, 3) := by decide +kernel
theorem dX8_goThrough_13 : decode cX8_goThrough 13 = .ok (.aload_n 0, 1) := by decide +kernel
theorem dX8_goThrough_14 : decode cX8_goThrough 14 = .ok (.getfield 24, 3) := by decide +kernel
theorem dX8_goThrough_17 : decode cX8_goThrough 17 = .ok (.ifCond .ne 87, 3) := by decide +kernel
theorem dX8_goThrough_20 : decode cX8_goThrough 20 = .ok (.aload_n 3, 1) := by decide +kernel
theorem dX8_goThrough_21 : decode cX8_goThrough 21 = .ok (.getfield 42, 3) := by decide +kernel
theorem dX8_goThrough_24 : decode cX8_goThrough 24 = .ok (.tableswitch 67 16 18 #[28, 37, 46], 28) := by decide +kernel
theorem dX8_goThrough_52 : decode cX8_goThrough 52 = .ok (.aload_n 0, 1) := by decide +kernel
theorem dX8_goThrough_53 : decode cX8_goThrough 53 = .ok (.aload_n 3, 1) := by decide +kernel
theorem dX8_goThrough_54 : decode cX8_goThrough 54 = .ok (.iload_n 2, 1) := by decide +kernel
theorem dX8_goThrough_55 : decode cX8_goThrough 55 = .ok (.invokevirtual 48, 3) := by decide +kernel
theorem dX8_goThrough_58 : decode cX8_goThrough 58 = .ok (.goto 38, 3) := by decide +kernel
theorem dX8_goThrough_61 : decode cX8_goThrough 61 = .ok (.aload_n 0, 1) := by decide +kernel
theorem dX8_goThrough_62 : decode cX8_goThrough 62 = .ok (.aload_n 3, 1) := by decide +kernel
theorem dX8_goThrough_63 : decode cX8_goThrough 63 = .ok (.iload_n 2, 1) := by decide +kernel
theorem dX8_goThrough_64 : decode cX8_goThrough 64 = .ok (.invokevirtual 51, 3) := by decide +kernel
theorem dX8_goThrough_67 : decode cX8_goThrough 67 = .ok (.goto 29, 3) := by decide +kernel
theorem dX8_goThrough_70 : decode cX8_goThrough 70 = .ok (.aload_n 0, 1) := by decide +kernel
theorem dX8_goThrough_71 : decode cX8_goThrough 71 = .ok (.aload_n 0, 1) := by decide +kernel
theorem dX8_goThrough_72 : decode cX8_goThrough 72 = .ok (.getfield 9, 3) := by decide +kernel
theorem dX8_goThrough_75 : decode cX8_goThrough 75 = .ok (.aload_n 3, 1) := by decide +kernel
theorem dX8_goThrough_76 : decode cX8_goThrough 76 = .ok (.getfield 54, 3) := by decide +kernel
theorem dX8_goThrough_79 : decode cX8_goThrough 79 = .ok (.invokevirtual 57, 3) := by decide +kernel
theorem dX8_goThrough_82 : decode cX8_goThrough 82 = .ok (.iload_n 2, 1) := by decide +kernel
theorem dX8_goThrough_83 : decode cX8_goThrough 83 = .ok (.iconst 1, 1) := by decide +kernel
theorem dX8_goThrough_84 : decode cX8_goThrough 84 = .ok (.iadd, 1) := by decide +kernel
theorem dX8_goThrough_85 : decode cX8_goThrough 85 = .ok (.invokevirtual 34, 3) := by decide +kernel
theorem dX8_goThrough_88 : decode cX8_goThrough 88 = .ok (.goto 8, 3) := by decide +kernel
theorem dX8_goThrough_91 : decode cX8_goThrough 91 = .ok (.aload_n 0, 1) := by decide +kernel
theorem dX8_goThrough_92 : decode cX8_goThrough 92 = .ok (.aload_n 3, 1) := by decide +kernel
theorem dX8_goThrough_93 : decode cX8_goThrough 93 = .ok (.invokevirtual 61, 3) := by decide +kernel
theorem dX8_goThrough_96 : decode cX8_goThrough 96 = .ok (.aload_n 3, 1) := by decide +kernel
theorem dX8_goThrough_97 : decode cX8_goThrough 97 = .ok (.getfield 65, 3) := by decide +kernel
theorem dX8_goThrough_100 : decode cX8_goThrough 100 = .ok (.astore_n 3, 1) := by decide +kernel
theorem dX8_goThrough_101 : decode cX8_goThrough 101 = .ok (.goto (-92), 3) := by decide +kernel
theorem dX8_goThrough_104 : decode cX8_goThrough 104 = .ok (.return_, 1) := by decide +kernel
theorem dX8_goOverPlain_0 : decode cX8_goOverPlain 0 = .ok (.aload_n 0, 1) := by decide +kernel
theorem dX8_goOverPlain_1 : decode cX8_goOverPlain 1 = .ok (.aload_n 1, 1) := by decide +kernel
theorem dX8_goOverPlain_2 : decode cX8_goOverPlain 2 = .ok (.invokevirtual 68, 3) := by decide +kernel
theorem dX8_goOverPlain_5 : decode cX8_goOverPlain 5 = .ok (.aload_n 1, 1) := by decide +kernel
theorem dX8_goOverPlain_6 : decode cX8_goOverPlain 6 = .ok (.getfield 42, 3) := by decide +kernel
theorem dX8_goOverPlain_9 : decode cX8_goOverPlain 9 = .ok (.bipush 13, 2) := by decide +kernel
theorem dX8_goOverPlain_11 : decode cX8_goOverPlain 11 = .ok (.if_icmp .ne 25, 3) := by decide +kernel
theorem dX8_goOverPlain_14 : decode cX8_goOverPlain 14 = .ok (.aload_n 0, 1) := by decide +kernel
theorem dX8_goOverPlain_15 : decode cX8_goOverPlain 15 = .ok (.bipush 13, 2) := by decide +kernel
theorem dX8_goOverPlain_17 : decode cX8_goOverPlain 17 = .ok (.aload_n 1, 1) := by decide +kernel
theorem dX8_goOverPlain_18 : decode cX8_goOverPlain 18 = .ok (.getfield 71, 3) := by decide +kernel
theorem dX8_goOverPlain_21 : decode cX8_goOverPlain 21 = .ok (.invokevirtual 38, 3) := by decide +kernel
theorem dX8_goOverPlain_24 : decode cX8_goOverPlain 24 = .ok (.aload_n 0, 1) := by decide +kernel
theorem dX8_goOverPlain_25 : decode cX8_goOverPlain 25 = .ok (.iconst 2, 1) := by decide +kernel
theorem dX8_goOverPlain_26 : decode cX8_goOverPlain 26 = .ok (.aload_n 1, 1) := by decide +kernel
theorem dX8_goOverPlain_27 : decode cX8_goOverPlain 27 = .ok (.getfield 54, 3) := by decide +kernel
theorem dX8_goOverPlain_30 : decode cX8_goOverPlain 30 = .ok (.invokevirtual 38, 3) := by decide +kernel
theorem dX8_goOverPlain_33 : decode cX8_goOverPlain 33 = .ok (.goto 31, 3) := by decide +kernel
theorem dX8_goOverPlain_36 : decode cX8_goOverPlain 36 = .ok (.aload_n 0, 1) := by decide +kernel
theorem dX8_goOverPlain_37 : decode cX8_goOverPlain 37 = .ok (.aload_n 1, 1) := by decide +kernel
theorem dX8_goOverPlain_38 : decode cX8_goOverPlain 38 = .ok (.getfield 42, 3) := by decide +kernel
theorem dX8_goOverPlain_41 : decode cX8_goOverPlain 41 = .ok (.aload_n 1, 1) := by decide +kernel
theorem dX8_goOverPlain_42 : decode cX8_goOverPlain 42 = .ok (.getfield 42, 3) := by decide +kernel
theorem dX8_goOverPlain_45 : decode cX8_goOverPlain 45 = .ok (.bipush 14, 2) := by decide +kernel
theorem dX8_goOverPlain_47 : decode cX8_goOverPlain 47 = .ok (.if_icmp .ne 10, 3) := by decide +kernel
theorem dX8_goOverPlain_50 : decode cX8_goOverPlain 50 = .ok (.aload_n 1, 1) := by decide +kernel
theorem dX8_goOverPlain_51 : decode cX8_goOverPlain 51 = .ok (.getfield 71, 3) := by decide +kernel
theorem dX8_goOverPlain_54 : decode cX8_goOverPlain 54 = .ok (.goto 7, 3) := by decide +kernel
theorem dX8_goOverPlain_57 : decode cX8_goOverPlain 57 = .ok (.aload_n 1, 1) := by decide +kernel
theorem dX8_goOverPlain_58 : decode cX8_goOverPlain 58 = .ok (.getfield 54, 3) := by decide +kernel
theorem dX8_goOverPlain_61 : decode cX8_goOverPlain 61 = .ok (.invokevirtual 38, 3) := by decide +kernel
theorem dX8_goOverPlain_64 : decode cX8_goOverPlain 64 = .ok (.return_, 1) := by decide +kernel
theorem dX8_goOverIf_0 : decode cX8_goOverIf 0 = .ok (.aload_n 0, 1) := by decide +kernel
theorem dX8_goOverIf_1 : decode cX8_goOverIf 1 = .ok (.aload_n 1, 1) := by decide +kernel
theorem dX8_goOverIf_2 : decode cX8_goOverIf 2 = .ok (.invokevirtual 68, 3) := by decide +kernel
theorem dX8_goOverIf_5 : decode cX8_goOverIf 5 = .ok (.aload_n 0, 1) := by decide +kernel
theorem dX8_goOverIf_6 : decode cX8_goOverIf 6 = .ok (.getfield 15, 3) := by decide +kernel
theorem dX8_goOverIf_9 : decode cX8_goOverIf 9 = .ok (.invokevirtual 74, 3) := by decide +kernel
theorem dX8_goOverIf_12 : decode cX8_goOverIf 12 = .ok (.istore_n 3, 1) := by decide +kernel
theorem dX8_goOverIf_13 : decode cX8_goOverIf 13 = .ok (.aload_n 0, 1) := by decide +kernel
theorem dX8_goOverIf_14 : decode cX8_goOverIf 14 = .ok (.bipush 11, 2) := by decide +kernel
theorem dX8_goOverIf_16 : decode cX8_goOverIf 16 = .ok (.iconst 0, 1) := by decide +kernel
theorem dX8_goOverIf_17 : decode cX8_goOverIf 17 = .ok (.invokevirtual 38, 3) := by decide +kernel
theorem dX8_goOverIf_20 : decode cX8_goOverIf 20 = .ok (.aload_n 0, 1) := by decide +kernel
theorem dX8_goOverIf_21 : decode cX8_goOverIf 21 = .ok (.aload_n 1, 1) := by decide +kernel
theorem dX8_goOverIf_22 : decode cX8_goOverIf 22 = .ok (.getfield 78, 3) := by decide +kernel
theorem dX8_goOverIf_25 : decode cX8_goOverIf 25 = .ok (.iload_n 2, 1) := by decide +kernel
theorem dX8_goOverIf_26 : decode cX8_goOverIf 26 = .ok (.iconst 1, 1) := by decide +kernel
theorem dX8_goOverIf_27 : decode cX8_goOverIf 27 = .ok (.iadd, 1) := by decide +kernel
theorem dX8_goOverIf_28 : decode cX8_goOverIf 28 = .ok (.invokevirtual 34, 3) := by decide +kernel
theorem dX8_goOverIf_31 : decode cX8_goOverIf 31 = .ok (.aload_n 1, 1) := by decide +kernel
theorem dX8_goOverIf_32 : decode cX8_goOverIf 32 = .ok (.getfield 81, 3) := by decide +kernel
theorem dX8_goOverIf_35 : decode cX8_goOverIf 35 = .ok (.ifCond .eq 64, 3) := by decide +kernel
theorem dX8_goOverIf_38 : decode cX8_goOverIf 38 = .ok (.aload_n 0, 1) := by decide +kernel
theorem dX8_goOverIf_39 : decode cX8_goOverIf 39 = .ok (.getfield 15, 3) := by decide +kernel
theorem dX8_goOverIf_42 : decode cX8_goOverIf 42 = .ok (.invokevirtual 74, 3) := by decide +kernel
theorem dX8_goOverIf_45 : decode cX8_goOverIf 45 = .ok (.istore 4, 2) := by decide +kernel
theorem dX8_goOverIf_47 : decode cX8_goOverIf 47 = .ok (.aload_n 0, 1) := by decide +kernel
theorem dX8_goOverIf_48 : decode cX8_goOverIf 48 = .ok (.bipush 12, 2) := by decide +kernel
theorem dX8_goOverIf_50 : decode cX8_goOverIf 50 = .ok (.iconst 0, 1) := by decide +kernel
theorem dX8_goOverIf_51 : decode cX8_goOverIf 51 = .ok (.invokevirtual 38, 3) := by decide +kernel
theorem dX8_goOverIf_54 : decode cX8_goOverIf 54 = .ok (.aload_n 0, 1) := by decide +kernel
theorem dX8_goOverIf_55 : decode cX8_goOverIf 55 = .ok (.getfield 15, 3) := by decide +kernel
theorem dX8_goOverIf_58 : decode cX8_goOverIf 58 = .ok (.iload_n 3, 1) := by decide +kernel
theorem dX8_goOverIf_59 : decode cX8_goOverIf 59 = .ok (.aload_n 0, 1) := by decide +kernel
theorem dX8_goOverIf_60 : decode cX8_goOverIf 60 = .ok (.getfield 15, 3) := by decide +kernel
theorem dX8_goOverIf_63 : decode cX8_goOverIf 63 = .ok (.invokevirtual 74, 3) := by decide +kernel
theorem dX8_goOverIf_66 : decode cX8_goOverIf 66 = .ok (.invokevirtual 84, 3) := by decide +kernel
theorem dX8_goOverIf_69 : decode cX8_goOverIf 69 = .ok (.aload_n 0, 1) := by decide +kernel
theorem dX8_goOverIf_70 : decode cX8_goOverIf 70 = .ok (.aload_n 1, 1) := by decide +kernel
theorem dX8_goOverIf_71 : decode cX8_goOverIf 71 = .ok (.getfield 87, 3) := by decide +kernel
theorem dX8_goOverIf_74 : decode cX8_goOverIf 74 = .ok (.iload_n 2, 1) := by decide +kernel
theorem dX8_goOverIf_75 : decode cX8_goOverIf 75 = .ok (.iconst 1, 1) := by decide +kernel
theorem dX8_goOverIf_76 : decode cX8_goOverIf 76 = .ok (.iadd, 1) := by decide +kernel
theorem dX8_goOverIf_77 : decode cX8_goOverIf 77 = .ok (.invokevirtual 34, 3) := by decide +kernel
theorem dX8_goOverIf_80 : decode cX8_goOverIf 80 = .ok (.aload_n 0, 1) := by decide +kernel
theorem dX8_goOverIf_81 : decode cX8_goOverIf 81 = .ok (.getfield 15, 3) := by decide +kernel
theorem dX8_goOverIf_84 : decode cX8_goOverIf 84 = .ok (.iload 4, 2) := by decide +kernel
theorem dX8_goOverIf_86 : decode cX8_goOverIf 86 = .ok (.aload_n 0, 1) := by decide +kernel
theorem dX8_goOverIf_87 : decode cX8_goOverIf 87 = .ok (.getfield 15, 3) := by decide +kernel
theorem dX8_goOverIf_90 : decode cX8_goOverIf 90 = .ok (.invokevirtual 74, 3) := by decide +kernel
theorem dX8_goOverIf_93 : decode cX8_goOverIf 93 = .ok (.invokevirtual 84, 3) := by decide +kernel
theorem dX8_goOverIf_96 : decode cX8_goOverIf 96 = .ok (.goto 18, 3) := by decide +kernel
theorem dX8_goOverIf_99 : decode cX8_goOverIf 99 = .ok (.aload_n 0, 1) := by decide +kernel
theorem dX8_goOverIf_100 : decode cX8_goOverIf 100 = .ok (.getfield 15, 3) := by decide +kernel
theorem dX8_goOverIf_103 : decode cX8_goOverIf 103 = .ok (.iload_n 3, 1) := by decide +kernel
theorem dX8_goOverIf_104 : decode cX8_goOverIf 104 = .ok (.aload_n 0, 1) := by decide +kernel
theorem dX8_goOverIf_105 : decode cX8_goOverIf 105 = .ok (.getfield 15, 3) := by decide +kernel
theorem dX8_goOverIf_108 : decode cX8_goOverIf 108 = .ok (.invokevirtual 74, 3) := by decide +kernel
theorem dX8_goOverIf_111 : decode cX8_goOverIf 111 = .ok (.invokevirtual 84, 3) := by decide +kernel
theorem dX8_goOverIf_114 : decode cX8_goOverIf 114 = .ok (.return_, 1) := by decide +kernel
theorem dX8_goOverWhile_0 : decode cX8_goOverWhile 0 = .ok (.aload_n 0, 1) := by decide +kernel
theorem dX8_goOverWhile_1 : decode cX8_goOverWhile 1 = .ok (.getfield 15, 3) := by decide +kernel
theorem dX8_goOverWhile_4 : decode cX8_goOverWhile 4 = .ok (.invokevirtual 74, 3) := by decide +kernel
theorem dX8_goOverWhile_7 : decode cX8_goOverWhile 7 = .ok (.istore_n 3, 1) := by decide +kernel
theorem dX8_goOverWhile_8 : decode cX8_goOverWhile 8 = .ok (.aload_n 0, 1) := by decide +kernel
theorem dX8_goOverWhile_9 : decode cX8_goOverWhile 9 = .ok (.aload_n 1, 1) := by decide +kernel
theorem dX8_goOverWhile_10 : decode cX8_goOverWhile 10 = .ok (.invokevirtual 68, 3) := by decide +kernel
theorem dX8_goOverWhile_13 : decode cX8_goOverWhile 13 = .ok (.aload_n 0, 1) := by decide +kernel
theorem dX8_goOverWhile_14 : decode cX8_goOverWhile 14 = .ok (.getfield 15, 3) := by decide +kernel
theorem dX8_goOverWhile_17 : decode cX8_goOverWhile 17 = .ok (.invokevirtual 74, 3) := by decide +kernel
theorem dX8_goOverWhile_20 : decode cX8_goOverWhile 20 = .ok (.istore 4, 2) := by decide +kernel
theorem dX8_goOverWhile_22 : decode cX8_goOverWhile 22 = .ok (.aload_n 0, 1) := by decide +kernel
theorem dX8_goOverWhile_23 : decode cX8_goOverWhile 23 = .ok (.bipush 11, 2) := by decide +kernel
theorem dX8_goOverWhile_25 : decode cX8_goOverWhile 25 = .ok (.iconst 0, 1) := by decide +kernel
theorem dX8_goOverWhile_26 : decode cX8_goOverWhile 26 = .ok (.invokevirtual 38, 3) := by decide +kernel
theorem dX8_goOverWhile_29 : decode cX8_goOverWhile 29 = .ok (.aload_n 0, 1) := by decide +kernel
theorem dX8_goOverWhile_30 : decode cX8_goOverWhile 30 = .ok (.aload_n 1, 1) := by decide +kernel
theorem dX8_goOverWhile_31 : decode cX8_goOverWhile 31 = .ok (.getfield 78, 3) := by decide +kernel
theorem dX8_goOverWhile_34 : decode cX8_goOverWhile 34 = .ok (.iload_n 2, 1) := by decide +kernel
theorem dX8_goOverWhile_35 : decode cX8_goOverWhile 35 = .ok (.iconst 1, 1) := by decide +kernel
theorem dX8_goOverWhile_36 : decode cX8_goOverWhile 36 = .ok (.iadd, 1) := by decide +kernel
theorem dX8_goOverWhile_37 : decode cX8_goOverWhile 37 = .ok (.invokevirtual 34, 3) := by decide +kernel
theorem dX8_goOverWhile_40 : decode cX8_goOverWhile 40 = .ok (.aload_n 0, 1) := by decide +kernel
theorem dX8_goOverWhile_41 : decode cX8_goOverWhile 41 = .ok (.bipush 12, 2) := by decide +kernel
theorem dX8_goOverWhile_43 : decode cX8_goOverWhile 43 = .ok (.iload_n 3, 1) := by decide +kernel
theorem dX8_goOverWhile_44 : decode cX8_goOverWhile 44 = .ok (.invokevirtual 38, 3) := by decide +kernel
theorem dX8_goOverWhile_47 : decode cX8_goOverWhile 47 = .ok (.aload_n 0, 1) := by decide +kernel
theorem dX8_goOverWhile_48 : decode cX8_goOverWhile 48 = .ok (.getfield 15, 3) := by decide +kernel
theorem dX8_goOverWhile_51 : decode cX8_goOverWhile 51 = .ok (.iload 4, 2) := by decide +kernel
theorem dX8_goOverWhile_53 : decode cX8_goOverWhile 53 = .ok (.aload_n 0, 1) := by decide +kernel
theorem dX8_goOverWhile_54 : decode cX8_goOverWhile 54 = .ok (.getfield 15, 3) := by decide +kernel
theorem dX8_goOverWhile_57 : decode cX8_goOverWhile 57 = .ok (.invokevirtual 74, 3) := by decide +kernel
theorem dX8_goOverWhile_60 : decode cX8_goOverWhile 60 = .ok (.invokevirtual 84, 3) := by decide +kernel
theorem dX8_goOverWhile_63 : decode cX8_goOverWhile 63 = .ok (.return_, 1) := by decide +kernel
theorem dX8_emitExpressions_0 : decode cX8_emitExpressions 0 = .ok (.aload_n 1, 1) := by decide +kernel
theorem dX8_emitExpressions_1 : decode cX8_emitExpressions 1 = .ok (.getfield 90, 3) := by decide +kernel
theorem dX8_emitExpressions_4 : decode cX8_emitExpressions 4 = .ok (.istore_n 2, 1) := by decide +kernel
theorem dX8_emitExpressions_5 : decode cX8_emitExpressions 5 = .ok (.iload_n 2, 1) := by decide +kernel
theorem dX8_emitExpressions_6 : decode cX8_emitExpressions 6 = .ok (.aload_n 1, 1) := by decide +kernel
theorem dX8_emitExpressions_7 : decode cX8_emitExpressions 7 = .ok (.getfield 93, 3) := by decide +kernel
theorem dX8_emitExpressions_10 : decode cX8_emitExpressions 10 = .ok (.if_icmp .ge 29, 3) := by decide +kernel
theorem dX8_emitExpressions_13 : decode cX8_emitExpressions 13 = .ok (.aload_n 0, 1) := by decide +kernel
theorem dX8_emitExpressions_14 : decode cX8_emitExpressions 14 = .ok (.aload_n 0, 1) := by decide +kernel
theorem dX8_emitExpressions_15 : decode cX8_emitExpressions 15 = .ok (.getfield 9, 3) := by decide +kernel
theorem dX8_emitExpressions_18 : decode cX8_emitExpressions 18 = .ok (.iload_n 2, 1) := by decide +kernel
theorem dX8_emitExpressions_19 : decode cX8_emitExpressions 19 = .ok (.invokevirtual 96, 3) := by decide +kernel
theorem dX8_emitExpressions_22 : decode cX8_emitExpressions 22 = .ok (.aload_n 0, 1) := by decide +kernel
theorem dX8_emitExpressions_23 : decode cX8_emitExpressions 23 = .ok (.getfield 9, 3) := by decide +kernel
theorem dX8_emitExpressions_26 : decode cX8_emitExpressions 26 = .ok (.iload_n 2, 1) := by decide +kernel
theorem dX8_emitExpressions_27 : decode cX8_emitExpressions 27 = .ok (.invokevirtual 100, 3) := by decide +kernel
theorem dX8_emitExpressions_30 : decode cX8_emitExpressions 30 = .ok (.invokevirtual 38, 3) := by decide +kernel
theorem dX8_emitExpressions_33 : decode cX8_emitExpressions 33 = .ok (.iinc 2 1, 3) := by decide +kernel
theorem dX8_emitExpressions_36 : decode cX8_emitExpressions 36 = .ok (.goto (-31), 3) := by decide +kernel
theorem dX8_emitExpressions_39 : decode cX8_emitExpressions 39 = .ok (.return_, 1) := by decide +kernel
theorem dX8_emit_0 : decode cX8_emit 0 = .ok (.aload_n 0, 1) := by decide +kernel
theorem dX8_emit_1 : decode cX8_emit 1 = .ok (.getfield 15, 3) := by decide +kernel
theorem dX8_emit_4 : decode cX8_emit 4 = .ok (.invokevirtual 74, 3) := by decide +kernel
theorem dX8_emit_7 : decode cX8_emit 7 = .ok (.bipush 64, 2) := by decide +kernel
theorem dX8_emit_9 : decode cX8_emit 9 = .ok (.if_icmp .lt 8, 3) := by decide +kernel
theorem dX8_emit_12 : decode cX8_emit 12 = .ok (.aload_n 0, 1) := by decide +kernel
theorem dX8_emit_13 : decode cX8_emit 13 = .ok (.iconst 1, 1) := by decide +kernel
theorem dX8_emit_14 : decode cX8_emit 14 = .ok (.putfield 24, 3) := by decide +kernel
theorem dX8_emit_17 : decode cX8_emit 17 = .ok (.aload_n 0, 1) := by decide +kernel
theorem dX8_emit_18 : decode cX8_emit 18 = .ok (.getfield 15, 3) := by decide +kernel
theorem dX8_emit_21 : decode cX8_emit 21 = .ok (.iload_n 1, 1) := by decide +kernel
theorem dX8_emit_22 : decode cX8_emit 22 = .ok (.iload_n 2, 1) := by decide +kernel
theorem dX8_emit_23 : decode cX8_emit 23 = .ok (.invokevirtual 103, 3) := by decide +kernel
theorem dX8_emit_26 : decode cX8_emit 26 = .ok (.return_, 1) := by decide +kernel
theorem dX9_init_0 : decode cX9_init 0 = .ok (.aload_n 0, 1) := by decide +kernel
theorem dX9_init_1 : decode cX9_init 1 = .ok (.invokespecial 5, 3) := by decide +kernel
theorem dX9_init_4 : decode cX9_init 4 = .ok (.aload_n 0, 1) := by decide +kernel
theorem dX9_init_5 : decode cX9_init 5 = .ok (.new 11, 3) := by decide +kernel
theorem dX9_init_8 : decode cX9_init 8 = .ok (.dup, 1) := by decide +kernel
theorem dX9_init_9 : decode cX9_init 9 = .ok (.invokespecial 13, 3) := by decide +kernel
theorem dX9_init_12 : decode cX9_init 12 = .ok (.putfield 14, 3) := by decide +kernel
theorem dX9_init_15 : decode cX9_init 15 = .ok (.aload_n 0, 1) := by decide +kernel
theorem dX9_init_16 : decode cX9_init 16 = .ok (.bipush 64, 2) := by decide +kernel
theorem dX9_init_18 : decode cX9_init 18 = .ok (.newarray .int, 2) := by decide +kernel
theorem dX9_init_20 : decode cX9_init 20 = .ok (.putfield 18, 3) := by decide +kernel
theorem dX9_init_23 : decode cX9_init 23 = .ok (.aload_n 0, 1) := by decide +kernel
theorem dX9_init_24 : decode cX9_init 24 = .ok (.bipush 64, 2) := by decide +kernel
theorem dX9_init_26 : decode cX9_init 26 = .ok (.newarray .int, 2) := by decide +kernel
theorem dX9_init_28 : decode cX9_init 28 = .ok (.putfield 22, 3) := by decide +kernel
theorem dX9_init_31 : decode cX9_init 31 = .ok (.aload_n 0, 1) := by decide +kernel
theorem dX9_init_32 : decode cX9_init 32 = .ok (.bipush 64, 2) := by decide +kernel
theorem dX9_init_34 : decode cX9_init 34 = .ok (.bipush 56, 2) := by decide +kernel
theorem dX9_init_36 : decode cX9_init 36 = .ok (.multianewarray 25 2, 4) := by decide +kernel
theorem dX9_init_40 : decode cX9_init 40 = .ok (.putfield 27, 3) := by decide +kernel
theorem dX9_init_43 : decode cX9_init 43 = .ok (.aload_n 0, 1) := by decide +kernel
theorem dX9_init_44 : decode cX9_init 44 = .ok (.bipush 56, 2) := by decide +kernel
theorem dX9_init_46 : decode cX9_init 46 = .ok (.newarray .int, 2) := by decide +kernel
theorem dX9_init_48 : decode cX9_init 48 = .ok (.putfield 30, 3) := by decide +kernel
theorem dX9_init_51 : decode cX9_init 51 = .ok (.aload_n 0, 1) := by decide +kernel
theorem dX9_init_52 : decode cX9_init 52 = .ok (.aload_n 1, 1) := by decide +kernel
theorem dX9_init_53 : decode cX9_init 53 = .ok (.putfield 33, 3) := by decide +kernel
theorem dX9_init_56 : decode cX9_init 56 = .ok (.return_, 1) := by decide +kernel
theorem dX9_place_0 : decode cX9_place 0 = .ok (.aload_n 0, 1) := by decide +kernel
theorem dX9_place_1 : decode cX9_place 1 = .ok (.getfield 37, 3) := by decide +kernel
theorem dX9_place_4 : decode cX9_place 4 = .ok (.ireturn, 1) := by decide +kernel
theorem dX9_kind_0 : decode cX9_kind 0 = .ok (.aload_n 0, 1) := by decide +kernel
theorem dX9_kind_1 : decode cX9_kind 1 = .ok (.getfield 41, 3) := by decide +kernel
theorem dX9_kind_4 : decode cX9_kind 4 = .ok (.ireturn, 1) := by decide +kernel
theorem dX9_hasMaps_0 : decode cX9_hasMaps 0 = .ok (.aload_n 0, 1) := by decide +kernel
theorem dX9_hasMaps_1 : decode cX9_hasMaps 1 = .ok (.getfield 44, 3) := by decide +kernel
theorem dX9_hasMaps_4 : decode cX9_hasMaps 4 = .ok (.ireturn, 1) := by decide +kernel
theorem dX9_forget_0 : decode cX9_forget 0 = .ok (.aload_n 0, 1) := by decide +kernel
theorem dX9_forget_1 : decode cX9_forget 1 = .ok (.iconst 0, 1) := by decide +kernel
theorem dX9_forget_2 : decode cX9_forget 2 = .ok (.putfield 44, 3) := by decide +kernel
theorem dX9_forget_5 : decode cX9_forget 5 = .ok (.return_, 1) := by decide +kernel
theorem dX9_heights_0 : decode cX9_heights 0 = .ok (.aload_n 0, 1) := by decide +kernel
theorem dX9_heights_1 : decode cX9_heights 1 = .ok (.getfield 48, 3) := by decide +kernel
theorem dX9_heights_4 : decode cX9_heights 4 = .ok (.invokestatic 52, 3) := by decide +kernel
theorem dX9_heights_7 : decode cX9_heights 7 = .ok (.ireturn, 1) := by decide +kernel
theorem dX9_hasHeight_0 : decode cX9_hasHeight 0 = .ok (.aload_n 0, 1) := by decide +kernel
theorem dX9_hasHeight_1 : decode cX9_hasHeight 1 = .ok (.getfield 48, 3) := by decide +kernel
theorem dX9_hasHeight_4 : decode cX9_hasHeight 4 = .ok (.iload_n 1, 1) := by decide +kernel
theorem dX9_hasHeight_5 : decode cX9_hasHeight 5 = .ok (.invokestatic 58, 3) := by decide +kernel
theorem dX9_hasHeight_8 : decode cX9_hasHeight 8 = .ok (.ireturn, 1) := by decide +kernel
theorem dX9_nextOf_0 : decode cX9_nextOf 0 = .ok (.aload_n 0, 1) := by decide +kernel
theorem dX9_nextOf_1 : decode cX9_nextOf 1 = .ok (.getfield 14, 3) := by decide +kernel
theorem dX9_nextOf_4 : decode cX9_nextOf 4 = .ok (.iload_n 1, 1) := by decide +kernel
theorem dX9_nextOf_5 : decode cX9_nextOf 5 = .ok (.invokevirtual 62, 3) := by decide +kernel
theorem dX9_nextOf_8 : decode cX9_nextOf 8 = .ok (.ireturn, 1) := by decide +kernel
theorem dX9_isInside_0 : decode cX9_isInside 0 = .ok (.aload_n 0, 1) := by decide +kernel
theorem dX9_isInside_1 : decode cX9_isInside 1 = .ok (.getfield 14, 3) := by decide +kernel
theorem dX9_isInside_4 : decode cX9_isInside 4 = .ok (.iload_n 1, 1) := by decide +kernel
theorem dX9_isInside_5 : decode cX9_isInside 5 = .ok (.iload_n 2, 1) := by decide +kernel
theorem dX9_isInside_6 : decode cX9_isInside 6 = .ok (.invokevirtual 66, 3) := by decide +kernel
theorem dX9_isInside_9 : decode cX9_isInside 9 = .ok (.ireturn, 1) := by decide +kernel
theorem dX9_mapped_0 : decode cX9_mapped 0 = .ok (.aload_n 0, 1) := by decide +kernel
theorem dX9_mapped_1 : decode cX9_mapped 1 = .ok (.iload_n 1, 1) := by decide +kernel
theorem dX9_mapped_2 : decode cX9_mapped 2 = .ok (.invokevirtual 70, 3) := by decide +kernel
theorem dX9_mapped_5 : decode cX9_mapped 5 = .ok (.ifCond .ne 6, 3) := by decide +kernel
theorem dX9_mapped_8 : decode cX9_mapped 8 = .ok (.bipush (-2), 2) := by decide +kernel
theorem dX9_mapped_10 : decode cX9_mapped 10 = .ok (.ireturn, 1) := by decide +kernel
theorem dX9_mapped_11 : decode cX9_mapped 11 = .ok (.iload_n 2, 1) := by decide +kernel
theorem dX9_mapped_12 : decode cX9_mapped 12 = .ok (.bipush 26, 2) := by decide +kernel
theorem dX9_mapped_14 : decode cX9_mapped 14 = .ok (.if_icmp .ge 17, 3) := by decide +kernel
theorem dX9_mapped_17 : decode cX9_mapped 17 = .ok (.aload_n 0, 1) := by decide +kernel
theorem dX9_mapped_18 : decode cX9_mapped 18 = .ok (.getfield 33, 3) := by decide +kernel
theorem dX9_mapped_21 : decode cX9_mapped 21 = .ok (.aload_n 0, 1) := by decide +kernel
theorem dX9_mapped_22 : decode cX9_mapped 22 = .ok (.iload_n 1, 1) := by decide +kernel
theorem dX9_mapped_23 : decode cX9_mapped 23 = .ok (.iload_n 2, 1) := by decide +kernel
theorem dX9_mapped_24 : decode cX9_mapped 24 = .ok (.invokevirtual 74, 3) := by decide +kernel
theorem dX9_mapped_27 : decode cX9_mapped 27 = .ok (.invokevirtual 78, 3) := by decide +kernel
theorem dX9_mapped_30 : decode cX9_mapped 30 = .ok (.ireturn, 1) := by decide +kernel
theorem dX9_mapped_31 : decode cX9_mapped 31 = .ok (.iload_n 2, 1) := by decide +kernel
theorem dX9_mapped_32 : decode cX9_mapped 32 = .ok (.bipush 26, 2) := by decide +kernel
theorem dX9_mapped_34 : decode cX9_mapped 34 = .ok (.if_icmp .ne 17, 3) := by decide +kernel
theorem dX9_mapped_37 : decode cX9_mapped 37 = .ok (.aload_n 0, 1) := by decide +kernel
theorem dX9_mapped_38 : decode cX9_mapped 38 = .ok (.getfield 33, 3) := by decide +kernel
theorem dX9_mapped_41 : decode cX9_mapped 41 = .ok (.aload_n 0, 1) := by decide +kernel
theorem dX9_mapped_42 : decode cX9_mapped 42 = .ok (.getfield 22, 3) := by decide +kernel
theorem dX9_mapped_45 : decode cX9_mapped 45 = .ok (.iload_n 1, 1) := by decide +kernel
theorem dX9_mapped_46 : decode cX9_mapped 46 = .ok (.iaload, 1) := by decide +kernel
theorem dX9_mapped_47 : decode cX9_mapped 47 = .ok (.invokevirtual 78, 3) := by decide +kernel
theorem dX9_mapped_50 : decode cX9_mapped 50 = .ok (.ireturn, 1) := by decide +kernel
theorem dX9_mapped_51 : decode cX9_mapped 51 = .ok (.iload_n 2, 1) := by decide +kernel
theorem dX9_mapped_52 : decode cX9_mapped 52 = .ok (.bipush 27, 2) := by decide +kernel
theorem dX9_mapped_54 : decode cX9_mapped 54 = .ok (.if_icmp .ne 10, 3) := by decide +kernel
theorem dX9_mapped_57 : decode cX9_mapped 57 = .ok (.aload_n 0, 1) := by decide +kernel
theorem dX9_mapped_58 : decode cX9_mapped 58 = .ok (.getfield 18, 3) := by decide +kernel
theorem dX9_mapped_61 : decode cX9_mapped 61 = .ok (.iload_n 1, 1) := by decide +kernel
theorem dX9_mapped_62 : decode cX9_mapped 62 = .ok (.iaload, 1) := by decide +kernel
theorem dX9_mapped_63 : decode cX9_mapped 63 = .ok (.ireturn, 1) := by decide +kernel
theorem dX9_mapped_64 : decode cX9_mapped 64 = .ok (.iload_n 2, 1) := by decide +kernel
theorem dX9_mapped_65 : decode cX9_mapped 65 = .ok (.bipush 26, 2) := by decide +kernel
theorem dX9_mapped_67 : decode cX9_mapped 67 = .ok (.isub, 1) := by decide +kernel
theorem dX9_mapped_68 : decode cX9_mapped 68 = .ok (.iconst 2, 1) := by decide +kernel
theorem dX9_mapped_69 : decode cX9_mapped 69 = .ok (.isub, 1) := by decide +kernel
theorem dX9_mapped_70 : decode cX9_mapped 70 = .ok (.istore_n 3, 1) := by decide +kernel
theorem dX9_mapped_71 : decode cX9_mapped 71 = .ok (.iload_n 3, 1) := by decide +kernel
theorem dX9_mapped_72 : decode cX9_mapped 72 = .ok (.aload_n 0, 1) := by decide +kernel
theorem dX9_mapped_73 : decode cX9_mapped 73 = .ok (.getfield 18, 3) := by decide +kernel
theorem dX9_mapped_76 : decode cX9_mapped 76 = .ok (.iload_n 1, 1) := by decide +kernel
theorem dX9_mapped_77 : decode cX9_mapped 77 = .ok (.iaload, 1) := by decide +kernel
theorem dX9_mapped_78 : decode cX9_mapped 78 = .ok (.if_icmp .ge 22, 3) := by decide +kernel
theorem dX9_mapped_81 : decode cX9_mapped 81 = .ok (.aload_n 0, 1) := by decide +kernel
theorem dX9_mapped_82 : decode cX9_mapped 82 = .ok (.getfield 33, 3) := by decide +kernel
theorem dX9_mapped_85 : decode cX9_mapped 85 = .ok (.aload_n 0, 1) := by decide +kernel
theorem dX9_mapped_86 : decode cX9_mapped 86 = .ok (.iload_n 1, 1) := by decide +kernel
theorem dX9_mapped_87 : decode cX9_mapped 87 = .ok (.bipush 26, 2) := by decide +kernel
theorem dX9_mapped_89 : decode cX9_mapped 89 = .ok (.iload_n 3, 1) := by decide +kernel
theorem dX9_mapped_90 : decode cX9_mapped 90 = .ok (.iadd, 1) := by decide +kernel
theorem dX9_mapped_91 : decode cX9_mapped 91 = .ok (.invokevirtual 74, 3) := by decide +kernel
theorem dX9_mapped_94 : decode cX9_mapped 94 = .ok (.invokevirtual 78, 3) := by decide +kernel
theorem dX9_mapped_97 : decode cX9_mapped 97 = .ok (.goto 4, 3) := by decide +kernel
theorem dX9_mapped_100 : decode cX9_mapped 100 = .ok (.iconst (-1), 1) := by decide +kernel
theorem dX9_mapped_101 : decode cX9_mapped 101 = .ok (.ireturn, 1) := by decide +kernel
theorem dX9_heldAt_0 : decode cX9_heldAt 0 = .ok (.iload_n 1, 1) := by decide +kernel
theorem dX9_heldAt_1 : decode cX9_heldAt 1 = .ok (.ifCond .lt 30, 3) := by decide +kernel
theorem dX9_heldAt_4 : decode cX9_heldAt 4 = .ok (.iload_n 1, 1) := by decide +kernel
theorem dX9_heldAt_5 : decode cX9_heldAt 5 = .ok (.bipush 64, 2) := by decide +kernel
theorem dX9_heldAt_7 : decode cX9_heldAt 7 = .ok (.if_icmp .ge 24, 3) := by decide +kernel
theorem dX9_heldAt_10 : decode cX9_heldAt 10 = .ok (.iload_n 2, 1) := by decide +kernel
theorem dX9_heldAt_11 : decode cX9_heldAt 11 = .ok (.ifCond .lt 20, 3) := by decide +kernel
theorem dX9_heldAt_14 : decode cX9_heldAt 14 = .ok (.iload_n 2, 1) := by decide +kernel
theorem dX9_heldAt_15 : decode cX9_heldAt 15 = .ok (.bipush 56, 2) := by decide +kernel
theorem dX9_heldAt_17 : decode cX9_heldAt 17 = .ok (.if_icmp .ge 14, 3) := by decide +kernel
theorem dX9_heldAt_20 : decode cX9_heldAt 20 = .ok (.aload_n 0, 1) := by decide +kernel
theorem dX9_heldAt_21 : decode cX9_heldAt 21 = .ok (.getfield 27, 3) := by decide +kernel
theorem dX9_heldAt_24 : decode cX9_heldAt 24 = .ok (.iload_n 1, 1) := by decide +kernel
theorem dX9_heldAt_25 : decode cX9_heldAt 25 = .ok (.aaload, 1) := by decide +kernel
theorem dX9_heldAt_26 : decode cX9_heldAt 26 = .ok (.iload_n 2, 1) := by decide +kernel
theorem dX9_heldAt_27 : decode cX9_heldAt 27 = .ok (.iaload, 1) := by decide +kernel
theorem dX9_heldAt_28 : decode cX9_heldAt 28 = .ok (.goto 4, 3) := by decide +kernel
theorem dX9_heldAt_31 : decode cX9_heldAt 31 = .ok (.iconst 0, 1) := by decide +kernel
theorem dX9_heldAt_32 : decode cX9_heldAt 32 = .ok (.ireturn, 1) := by decide +kernel
theorem dX9_accepts_0 : decode cX9_accepts 0 = .ok (.aload_n 0, 1) := by decide +kernel
theorem dX9_accepts_1 : decode cX9_accepts 1 = .ok (.aload_n 1, 1) := by decide +kernel
theorem dX9_accepts_2 : decode cX9_accepts 2 = .ok (.putfield 83, 3) := by decide +kernel
theorem dX9_accepts_5 : decode cX9_accepts 5 = .ok (.aload_n 0, 1) := by decide +kernel
theorem dX9_accepts_6 : decode cX9_accepts 6 = .ok (.aload_n 2, 1) := by decide +kernel
theorem dX9_accepts_7 : decode cX9_accepts 7 = .ok (.putfield 87, 3) := by decide +kernel
theorem dX9_accepts_10 : decode cX9_accepts 10 = .ok (.aload_n 0, 1) := by decide +kernel
theorem dX9_accepts_11 : decode cX9_accepts 11 = .ok (.iconst 0, 1) := by decide +kernel
theorem dX9_accepts_12 : decode cX9_accepts 12 = .ok (.putfield 44, 3) := by decide +kernel
theorem dX9_accepts_15 : decode cX9_accepts 15 = .ok (.aload_n 0, 1) := by decide +kernel
theorem dX9_accepts_16 : decode cX9_accepts 16 = .ok (.invokevirtual 90, 3) := by decide +kernel
theorem dX9_accepts_19 : decode cX9_accepts 19 = .ok (.ifCond .eq 17, 3) := by decide +kernel
theorem dX9_accepts_22 : decode cX9_accepts 22 = .ok (.aload_n 0, 1) := by decide +kernel
theorem dX9_accepts_23 : decode cX9_accepts 23 = .ok (.invokevirtual 94, 3) := by decide +kernel
theorem dX9_accepts_26 : decode cX9_accepts 26 = .ok (.ifCond .eq 10, 3) := by decide +kernel
theorem dX9_accepts_29 : decode cX9_accepts 29 = .ok (.aload_n 0, 1) := by decide +kernel
theorem dX9_accepts_30 : decode cX9_accepts 30 = .ok (.invokevirtual 97, 3) := by decide +kernel
theorem dX9_accepts_33 : decode cX9_accepts 33 = .ok (.ifCond .ne 5, 3) := by decide +kernel
theorem dX9_accepts_36 : decode cX9_accepts 36 = .ok (.iconst 0, 1) := by decide +kernel
theorem dX9_accepts_37 : decode cX9_accepts 37 = .ok (.ireturn, 1) := by decide +kernel
theorem dX9_accepts_38 : decode cX9_accepts 38 = .ok (.aload_n 0, 1) := by decide +kernel
theorem dX9_accepts_39 : decode cX9_accepts 39 = .ok (.getfield 14, 3) := by decide +kernel
theorem dX9_accepts_42 : decode cX9_accepts 42 = .ok (.aload_n 0, 1) := by decide +kernel
theorem dX9_accepts_43 : decode cX9_accepts 43 = .ok (.getfield 83, 3) := by decide +kernel
theorem dX9_accepts_46 : decode cX9_accepts 46 = .ok (.aload_n 0, 1) := by decide +kernel
theorem dX9_accepts_47 : decode cX9_accepts 47 = .ok (.getfield 48, 3) := by decide +kernel
theorem dX9_accepts_50 : decode cX9_accepts 50 = .ok (.invokevirtual 100, 3) := by decide +kernel
theorem dX9_accepts_53 : decode cX9_accepts 53 = .ok (.aload_n 0, 1) := by decide +kernel
theorem dX9_accepts_54 : decode cX9_accepts 54 = .ok (.invokevirtual 104, 3) := by decide +kernel
theorem dX9_accepts_57 : decode cX9_accepts 57 = .ok (.aload_n 0, 1) := by decide +kernel
theorem dX9_accepts_58 : decode cX9_accepts 58 = .ok (.iconst 1, 1) := by decide +kernel
theorem dX9_accepts_59 : decode cX9_accepts 59 = .ok (.putfield 44, 3) := by decide +kernel
theorem dX9_accepts_62 : decode cX9_accepts 62 = .ok (.aload_n 0, 1) := by decide +kernel
theorem dX9_accepts_63 : decode cX9_accepts 63 = .ok (.invokevirtual 107, 3) := by decide +kernel
theorem dX9_accepts_66 : decode cX9_accepts 66 = .ok (.ireturn, 1) := by decide +kernel
theorem dX9_refuse_0 : decode cX9_refuse 0 = .ok (.aload_n 0, 1) := by decide +kernel
theorem dX9_refuse_1 : decode cX9_refuse 1 = .ok (.iload_n 1, 1) := by decide +kernel
theorem dX9_refuse_2 : decode cX9_refuse 2 = .ok (.putfield 37, 3) := by decide +kernel
theorem dX9_refuse_5 : decode cX9_refuse 5 = .ok (.aload_n 0, 1) := by decide +kernel
theorem dX9_refuse_6 : decode cX9_refuse 6 = .ok (.iload_n 2, 1) := by decide +kernel
theorem dX9_refuse_7 : decode cX9_refuse 7 = .ok (.putfield 41, 3) := by decide +kernel
theorem dX9_refuse_10 : decode cX9_refuse 10 = .ok (.iconst 0, 1) := by decide +kernel
theorem dX9_refuse_11 : decode cX9_refuse 11 = .ok (.ireturn, 1) := by decide +kernel
theorem dX9_argumentsFit_0 : decode cX9_argumentsFit 0 = .ok (.iconst 0, 1) := by decide +kernel
theorem dX9_argumentsFit_1 : decode cX9_argumentsFit 1 = .ok (.istore_n 1, 1) := by decide +kernel
theorem dX9_argumentsFit_2 : decode cX9_argumentsFit 2 = .ok (.iload_n 1, 1) := by decide +kernel
theorem dX9_argumentsFit_3 : decode cX9_argumentsFit 3 = .ok (.aload_n 0, 1) := by decide +kernel
theorem dX9_argumentsFit_4 : decode cX9_argumentsFit 4 = .ok (.getfield 83, 3) := by decide +kernel
theorem dX9_argumentsFit_7 : decode cX9_argumentsFit 7 = .ok (.invokevirtual 110, 3) := by decide +kernel
theorem dX9_argumentsFit_10 : decode cX9_argumentsFit 10 = .ok (.if_icmp .ge 39, 3) := by decide +kernel
theorem dX9_argumentsFit_13 : decode cX9_argumentsFit 13 = .ok (.aload_n 0, 1) := by decide +kernel
theorem dX9_argumentsFit_14 : decode cX9_argumentsFit 14 = .ok (.aload_n 0, 1) := by decide +kernel
theorem dX9_argumentsFit_15 : decode cX9_argumentsFit 15 = .ok (.getfield 83, 3) := by decide +kernel
theorem dX9_argumentsFit_18 : decode cX9_argumentsFit 18 = .ok (.iload_n 1, 1) := by decide +kernel
theorem dX9_argumentsFit_19 : decode cX9_argumentsFit 19 = .ok (.invokevirtual 116, 3) := by decide +kernel
theorem dX9_argumentsFit_22 : decode cX9_argumentsFit 22 = .ok (.aload_n 0, 1) := by decide +kernel
theorem dX9_argumentsFit_23 : decode cX9_argumentsFit 23 = .ok (.getfield 83, 3) := by decide +kernel
theorem dX9_argumentsFit_26 : decode cX9_argumentsFit 26 = .ok (.iload_n 1, 1) := by decide +kernel
theorem dX9_argumentsFit_27 : decode cX9_argumentsFit 27 = .ok (.invokevirtual 119, 3) := by decide +kernel
theorem dX9_argumentsFit_30 : decode cX9_argumentsFit 30 = .ok (.invokevirtual 122, 3) := by decide +kernel
theorem dX9_argumentsFit_33 : decode cX9_argumentsFit 33 = .ok (.ifCond .ne 10, 3) := by decide +kernel
theorem dX9_argumentsFit_36 : decode cX9_argumentsFit 36 = .ok (.aload_n 0, 1) := by decide +kernel
theorem dX9_argumentsFit_37 : decode cX9_argumentsFit 37 = .ok (.iload_n 1, 1) := by decide +kernel
theorem dX9_argumentsFit_38 : decode cX9_argumentsFit 38 = .ok (.iconst 1, 1) := by decide +kernel
theorem dX9_argumentsFit_39 : decode cX9_argumentsFit 39 = .ok (.invokevirtual 125, 3) := by decide +kernel
theorem dX9_argumentsFit_42 : decode cX9_argumentsFit 42 = .ok (.ireturn, 1) := by decide +kernel
theorem dX9_argumentsFit_43 : decode cX9_argumentsFit 43 = .ok (.iinc 1 1, 3) := by decide +kernel
theorem dX9_argumentsFit_46 : decode cX9_argumentsFit 46 = .ok (.goto (-44), 3) := by decide +kernel
theorem dX9_argumentsFit_49 : decode cX9_argumentsFit 49 = .ok (.iconst 1, 1) := by decide +kernel
theorem dX9_argumentsFit_50 : decode cX9_argumentsFit 50 = .ok (.ireturn, 1) := by decide +kernel
theorem dX9_argumentFits_0 : decode cX9_argumentFits 0 = .ok (.iload_n 1, 1) := by decide +kernel
theorem dX9_argumentFits_1 : decode cX9_argumentFits 1 = .ok (.tableswitch 105 1 14 #[71, 71, 71, 71, 105, 105, 105, 105, 105, 105, 96, 96, 87, 87], 71) := by decide +kernel
theorem dX9_argumentFits_72 : decode cX9_argumentFits 72 = .ok (.iload_n 2, 1) := by decide +kernel
theorem dX9_argumentFits_73 : decode cX9_argumentFits 73 = .ok (.ifCond .lt 13, 3) := by decide +kernel
theorem dX9_argumentFits_76 : decode cX9_argumentFits 76 = .ok (.iload_n 2, 1) := by decide +kernel
theorem dX9_argumentFits_77 : decode cX9_argumentFits 77 = .ok (.bipush 26, 2) := by decide +kernel
theorem dX9_argumentFits_79 : decode cX9_argumentFits 79 = .ok (.if_icmp .ge 7, 3) := by decide +kernel
theorem dX9_argumentFits_82 : decode cX9_argumentFits 82 = .ok (.iconst 1, 1) := by decide +kernel
theorem dX9_argumentFits_83 : decode cX9_argumentFits 83 = .ok (.goto 4, 3) := by decide +kernel
theorem dX9_argumentFits_86 : decode cX9_argumentFits 86 = .ok (.iconst 0, 1) := by decide +kernel
theorem dX9_argumentFits_87 : decode cX9_argumentFits 87 = .ok (.ireturn, 1) := by decide +kernel
theorem dX9_argumentFits_88 : decode cX9_argumentFits 88 = .ok (.aload_n 0, 1) := by decide +kernel
theorem dX9_argumentFits_89 : decode cX9_argumentFits 89 = .ok (.getfield 33, 3) := by decide +kernel
theorem dX9_argumentFits_92 : decode cX9_argumentFits 92 = .ok (.iload_n 2, 1) := by decide +kernel
theorem dX9_argumentFits_93 : decode cX9_argumentFits 93 = .ok (.invokevirtual 128, 3) := by decide +kernel
theorem dX9_argumentFits_96 : decode cX9_argumentFits 96 = .ok (.ireturn, 1) := by decide +kernel
theorem dX9_argumentFits_97 : decode cX9_argumentFits 97 = .ok (.aload_n 0, 1) := by decide +kernel
theorem dX9_argumentFits_98 : decode cX9_argumentFits 98 = .ok (.getfield 83, 3) := by decide +kernel
theorem dX9_argumentFits_101 : decode cX9_argumentFits 101 = .ok (.iload_n 2, 1) := by decide +kernel
theorem dX9_argumentFits_102 : decode cX9_argumentFits 102 = .ok (.invokevirtual 131, 3) := by decide +kernel
theorem dX9_argumentFits_105 : decode cX9_argumentFits 105 = .ok (.ireturn, 1) := by decide +kernel
theorem dX9_argumentFits_106 : decode cX9_argumentFits 106 = .ok (.iconst 1, 1) := by decide +kernel
theorem dX9_argumentFits_107 : decode cX9_argumentFits 107 = .ok (.ireturn, 1) := by decide +kernel
theorem dX9_endFits_0 : decode cX9_endFits 0 = .ok (.aload_n 0, 1) := by decide +kernel
theorem dX9_endFits_1 : decode cX9_endFits 1 = .ok (.getfield 83, 3) := by decide +kernel
theorem dX9_endFits_4 : decode cX9_endFits 4 = .ok (.invokevirtual 110, 3) := by decide +kernel
theorem dX9_endFits_7 : decode cX9_endFits 7 = .ok (.iconst 1, 1) := by decide +kernel
theorem dX9_endFits_8 : decode cX9_endFits 8 = .ok (.isub, 1) := by decide +kernel
theorem dX9_endFits_9 : decode cX9_endFits 9 = .ok (.istore_n 1, 1) := by decide +kernel
theorem dX9_endFits_10 : decode cX9_endFits 10 = .ok (.aload_n 0, 1) := by decide +kernel
theorem dX9_endFits_11 : decode cX9_endFits 11 = .ok (.getfield 83, 3) := by decide +kernel
theorem dX9_endFits_14 : decode cX9_endFits 14 = .ok (.iload_n 1, 1) := by decide +kernel
theorem dX9_endFits_15 : decode cX9_endFits 15 = .ok (.invokevirtual 116, 3) := by decide +kernel
theorem dX9_endFits_18 : decode cX9_endFits 18 = .ok (.istore_n 2, 1) := by decide +kernel
theorem dX9_endFits_19 : decode cX9_endFits 19 = .ok (.iload_n 2, 1) := by decide +kernel
theorem dX9_endFits_20 : decode cX9_endFits 20 = .ok (.bipush 12, 2) := by decide +kernel
theorem dX9_endFits_22 : decode cX9_endFits 22 = .ok (.if_icmp .eq 18, 3) := by decide +kernel
theorem dX9_endFits_25 : decode cX9_endFits 25 = .ok (.iload_n 2, 1) := by decide +kernel
theorem dX9_endFits_26 : decode cX9_endFits 26 = .ok (.bipush 15, 2) := by decide +kernel
theorem dX9_endFits_28 : decode cX9_endFits 28 = .ok (.if_icmp .eq 12, 3) := by decide +kernel
theorem dX9_endFits_31 : decode cX9_endFits 31 = .ok (.aload_n 0, 1) := by decide +kernel
theorem dX9_endFits_32 : decode cX9_endFits 32 = .ok (.iload_n 1, 1) := by decide +kernel
theorem dX9_endFits_33 : decode cX9_endFits 33 = .ok (.iconst 2, 1) := by decide +kernel
theorem dX9_endFits_34 : decode cX9_endFits 34 = .ok (.invokevirtual 125, 3) := by decide +kernel
theorem dX9_endFits_37 : decode cX9_endFits 37 = .ok (.ifCond .eq 7, 3) := by decide +kernel
theorem dX9_endFits_40 : decode cX9_endFits 40 = .ok (.iconst 1, 1) := by decide +kernel
theorem dX9_endFits_41 : decode cX9_endFits 41 = .ok (.goto 4, 3) := by decide +kernel
theorem dX9_endFits_44 : decode cX9_endFits 44 = .ok (.iconst 0, 1) := by decide +kernel
theorem dX9_endFits_45 : decode cX9_endFits 45 = .ok (.ireturn, 1) := by decide +kernel
theorem dX9_heightsFit_0 : decode cX9_heightsFit 0 = .ok (.aload_n 0, 1) := by decide +kernel
theorem dX9_heightsFit_1 : decode cX9_heightsFit 1 = .ok (.getfield 18, 3) := by decide +kernel
theorem dX9_heightsFit_4 : decode cX9_heightsFit 4 = .ok (.iconst (-1), 1) := by decide +kernel
theorem dX9_heightsFit_5 : decode cX9_heightsFit 5 = .ok (.invokestatic 132, 3) := by decide +kernel
theorem dX9_heightsFit_8 : decode cX9_heightsFit 8 = .ok (.aload_n 0, 1) := by decide +kernel
theorem dX9_heightsFit_9 : decode cX9_heightsFit 9 = .ok (.getfield 18, 3) := by decide +kernel
theorem dX9_heightsFit_12 : decode cX9_heightsFit 12 = .ok (.iconst 0, 1) := by decide +kernel
theorem dX9_heightsFit_13 : decode cX9_heightsFit 13 = .ok (.iconst 0, 1) := by decide +kernel
theorem dX9_heightsFit_14 : decode cX9_heightsFit 14 = .ok (.iastore, 1) := by decide +kernel
theorem dX9_heightsFit_15 : decode cX9_heightsFit 15 = .ok (.aload_n 0, 1) := by decide +kernel
theorem dX9_heightsFit_16 : decode cX9_heightsFit 16 = .ok (.iconst 0, 1) := by decide +kernel
theorem dX9_heightsFit_17 : decode cX9_heightsFit 17 = .ok (.invokestatic 138, 3) := by decide +kernel
theorem dX9_heightsFit_20 : decode cX9_heightsFit 20 = .ok (.putfield 48, 3) := by decide +kernel
theorem dX9_heightsFit_23 : decode cX9_heightsFit 23 = .ok (.lconst 0, 1) := by decide +kernel
theorem dX9_heightsFit_24 : decode cX9_heightsFit 24 = .ok (.lstore_n 1, 1) := by decide +kernel
theorem dX9_heightsFit_25 : decode cX9_heightsFit 25 = .ok (.iconst 0, 1) := by decide +kernel
theorem dX9_heightsFit_26 : decode cX9_heightsFit 26 = .ok (.istore_n 3, 1) := by decide +kernel
theorem dX9_heightsFit_27 : decode cX9_heightsFit 27 = .ok (.iload_n 3, 1) := by decide +kernel
theorem dX9_heightsFit_28 : decode cX9_heightsFit 28 = .ok (.aload_n 0, 1) := by decide +kernel
theorem dX9_heightsFit_29 : decode cX9_heightsFit 29 = .ok (.getfield 83, 3) := by decide +kernel
theorem dX9_heightsFit_32 : decode cX9_heightsFit 32 = .ok (.invokevirtual 110, 3) := by decide +kernel
theorem dX9_heightsFit_35 : decode cX9_heightsFit 35 = .ok (.if_icmp .ge 52, 3) := by decide +kernel
theorem dX9_heightsFit_38 : decode cX9_heightsFit 38 = .ok (.aload_n 0, 1) := by decide +kernel
theorem dX9_heightsFit_39 : decode cX9_heightsFit 39 = .ok (.getfield 48, 3) := by decide +kernel
theorem dX9_heightsFit_42 : decode cX9_heightsFit 42 = .ok (.lload_n 1, 1) := by decide +kernel
theorem dX9_heightsFit_43 : decode cX9_heightsFit 43 = .ok (.lcmp, 1) := by decide +kernel
theorem dX9_heightsFit_44 : decode cX9_heightsFit 44 = .ok (.ifCond .eq 43, 3) := by decide +kernel
theorem dX9_heightsFit_47 : decode cX9_heightsFit 47 = .ok (.aload_n 0, 1) := by decide +kernel
theorem dX9_heightsFit_48 : decode cX9_heightsFit 48 = .ok (.getfield 48, 3) := by decide +kernel
theorem dX9_heightsFit_51 : decode cX9_heightsFit 51 = .ok (.lload_n 1, 1) := by decide +kernel
theorem dX9_heightsFit_52 : decode cX9_heightsFit 52 = .ok (.ldc2_w 142, 3) := by decide +kernel
theorem dX9_heightsFit_55 : decode cX9_heightsFit 55 = .ok (.lxor, 1) := by decide +kernel
theorem dX9_heightsFit_56 : decode cX9_heightsFit 56 = .ok (.land, 1) := by decide +kernel
theorem dX9_heightsFit_57 : decode cX9_heightsFit 57 = .ok (.invokestatic 144, 3) := by decide +kernel
theorem dX9_heightsFit_60 : decode cX9_heightsFit 60 = .ok (.istore 4, 2) := by decide +kernel
theorem dX9_heightsFit_62 : decode cX9_heightsFit 62 = .ok (.lload_n 1, 1) := by decide +kernel
theorem dX9_heightsFit_63 : decode cX9_heightsFit 63 = .ok (.iload 4, 2) := by decide +kernel
theorem dX9_heightsFit_65 : decode cX9_heightsFit 65 = .ok (.invokestatic 138, 3) := by decide +kernel
theorem dX9_heightsFit_68 : decode cX9_heightsFit 68 = .ok (.lor, 1) := by decide +kernel
theorem dX9_heightsFit_69 : decode cX9_heightsFit 69 = .ok (.lstore_n 1, 1) := by decide +kernel
theorem dX9_heightsFit_70 : decode cX9_heightsFit 70 = .ok (.aload_n 0, 1) := by decide +kernel
theorem dX9_heightsFit_71 : decode cX9_heightsFit 71 = .ok (.iload 4, 2) := by decide +kernel
theorem dX9_heightsFit_73 : decode cX9_heightsFit 73 = .ok (.invokevirtual 147, 3) := by decide +kernel
theorem dX9_heightsFit_76 : decode cX9_heightsFit 76 = .ok (.ifCond .ne 5, 3) := by decide +kernel
theorem dX9_heightsFit_79 : decode cX9_heightsFit 79 = .ok (.iconst 0, 1) := by decide +kernel
theorem dX9_heightsFit_80 : decode cX9_heightsFit 80 = .ok (.ireturn, 1) := by decide +kernel
theorem dX9_heightsFit_81 : decode cX9_heightsFit 81 = .ok (.iinc 3 1, 3) := by decide +kernel
theorem dX9_heightsFit_84 : decode cX9_heightsFit 84 = .ok (.goto (-57), 3) := by decide +kernel
theorem dX9_heightsFit_87 : decode cX9_heightsFit 87 = .ok (.iconst 1, 1) := by decide +kernel
theorem dX9_heightsFit_88 : decode cX9_heightsFit 88 = .ok (.ireturn, 1) := by decide +kernel
theorem dX9_heightFits_0 : decode cX9_heightFits 0 = .ok (.aload_n 0, 1) := by decide +kernel
theorem dX9_heightFits_1 : decode cX9_heightFits 1 = .ok (.getfield 18, 3) := by decide +kernel
theorem dX9_heightFits_4 : decode cX9_heightFits 4 = .ok (.iload_n 1, 1) := by decide +kernel
theorem dX9_heightFits_5 : decode cX9_heightFits 5 = .ok (.iaload, 1) := by decide +kernel
theorem dX9_heightFits_6 : decode cX9_heightFits 6 = .ok (.aload_n 0, 1) := by decide +kernel
theorem dX9_heightFits_7 : decode cX9_heightFits 7 = .ok (.getfield 83, 3) := by decide +kernel
theorem dX9_heightFits_10 : decode cX9_heightFits 10 = .ok (.iload_n 1, 1) := by decide +kernel
theorem dX9_heightFits_11 : decode cX9_heightFits 11 = .ok (.invokevirtual 150, 3) := by decide +kernel
theorem dX9_heightFits_14 : decode cX9_heightFits 14 = .ok (.isub, 1) := by decide +kernel
theorem dX9_heightFits_15 : decode cX9_heightFits 15 = .ok (.istore_n 2, 1) := by decide +kernel
theorem dX9_heightFits_16 : decode cX9_heightFits 16 = .ok (.iload_n 2, 1) := by decide +kernel
theorem dX9_heightFits_17 : decode cX9_heightFits 17 = .ok (.aload_n 0, 1) := by decide +kernel
theorem dX9_heightFits_18 : decode cX9_heightFits 18 = .ok (.getfield 83, 3) := by decide +kernel
theorem dX9_heightFits_21 : decode cX9_heightFits 21 = .ok (.iload_n 1, 1) := by decide +kernel
theorem dX9_heightFits_22 : decode cX9_heightFits 22 = .ok (.invokevirtual 153, 3) := by decide +kernel
theorem dX9_heightFits_25 : decode cX9_heightFits 25 = .ok (.iadd, 1) := by decide +kernel
theorem dX9_heightFits_26 : decode cX9_heightFits 26 = .ok (.istore_n 3, 1) := by decide +kernel
theorem dX9_heightFits_27 : decode cX9_heightFits 27 = .ok (.iload_n 2, 1) := by decide +kernel
theorem dX9_heightFits_28 : decode cX9_heightFits 28 = .ok (.ifCond .lt 9, 3) := by decide +kernel
theorem dX9_heightFits_31 : decode cX9_heightFits 31 = .ok (.iload_n 3, 1) := by decide +kernel
theorem dX9_heightFits_32 : decode cX9_heightFits 32 = .ok (.bipush 30, 2) := by decide +kernel
theorem dX9_heightFits_34 : decode cX9_heightFits 34 = .ok (.if_icmp .le 10, 3) := by decide +kernel
theorem dX9_heightFits_37 : decode cX9_heightFits 37 = .ok (.aload_n 0, 1) := by decide +kernel
theorem dX9_heightFits_38 : decode cX9_heightFits 38 = .ok (.iload_n 1, 1) := by decide +kernel
theorem dX9_heightFits_39 : decode cX9_heightFits 39 = .ok (.iconst 3, 1) := by decide +kernel
theorem dX9_heightFits_40 : decode cX9_heightFits 40 = .ok (.invokevirtual 125, 3) := by decide +kernel
theorem dX9_heightFits_43 : decode cX9_heightFits 43 = .ok (.ireturn, 1) := by decide +kernel
theorem dX9_heightFits_44 : decode cX9_heightFits 44 = .ok (.aload_n 0, 1) := by decide +kernel
theorem dX9_heightFits_45 : decode cX9_heightFits 45 = .ok (.getfield 83, 3) := by decide +kernel
theorem dX9_heightFits_48 : decode cX9_heightFits 48 = .ok (.iload_n 1, 1) := by decide +kernel
theorem dX9_heightFits_49 : decode cX9_heightFits 49 = .ok (.invokevirtual 156, 3) := by decide +kernel
theorem dX9_heightFits_52 : decode cX9_heightFits 52 = .ok (.ifCond .eq 14, 3) := by decide +kernel
theorem dX9_heightFits_55 : decode cX9_heightFits 55 = .ok (.iload_n 3, 1) := by decide +kernel
theorem dX9_heightFits_56 : decode cX9_heightFits 56 = .ok (.ifCond .eq 10, 3) := by decide +kernel
theorem dX9_heightFits_59 : decode cX9_heightFits 59 = .ok (.aload_n 0, 1) := by decide +kernel
theorem dX9_heightFits_60 : decode cX9_heightFits 60 = .ok (.iload_n 1, 1) := by decide +kernel
theorem dX9_heightFits_61 : decode cX9_heightFits 61 = .ok (.iconst 4, 1) := by decide +kernel
theorem dX9_heightFits_62 : decode cX9_heightFits 62 = .ok (.invokevirtual 125, 3) := by decide +kernel
theorem dX9_heightFits_65 : decode cX9_heightFits 65 = .ok (.ireturn, 1) := by decide +kernel
theorem dX9_heightFits_66 : decode cX9_heightFits 66 = .ok (.aload_n 0, 1) := by decide +kernel
theorem dX9_heightFits_67 : decode cX9_heightFits 67 = .ok (.getfield 83, 3) := by decide +kernel
theorem dX9_heightFits_70 : decode cX9_heightFits 70 = .ok (.iload_n 1, 1) := by decide +kernel
theorem dX9_heightFits_71 : decode cX9_heightFits 71 = .ok (.invokevirtual 159, 3) := by decide +kernel
theorem dX9_heightFits_74 : decode cX9_heightFits 74 = .ok (.lstore 4, 2) := by decide +kernel
theorem dX9_heightFits_76 : decode cX9_heightFits 76 = .ok (.iconst 0, 1) := by decide +kernel
theorem dX9_heightFits_77 : decode cX9_heightFits 77 = .ok (.istore 6, 2) := by decide +kernel
theorem dX9_heightFits_79 : decode cX9_heightFits 79 = .ok (.iload 6, 2) := by decide +kernel
theorem dX9_heightFits_81 : decode cX9_heightFits 81 = .ok (.iconst 2, 1) := by decide +kernel
theorem dX9_heightFits_82 : decode cX9_heightFits 82 = .ok (.if_icmp .ge 83, 3) := by decide +kernel
theorem dX9_heightFits_85 : decode cX9_heightFits 85 = .ok (.lload 4, 2) := by decide +kernel
theorem dX9_heightFits_87 : decode cX9_heightFits 87 = .ok (.lconst 0, 1) := by decide +kernel
theorem dX9_heightFits_88 : decode cX9_heightFits 88 = .ok (.lcmp, 1) := by decide +kernel
theorem dX9_heightFits_89 : decode cX9_heightFits 89 = .ok (.ifCond .eq 76, 3) := by decide +kernel
theorem dX9_heightFits_92 : decode cX9_heightFits 92 = .ok (.lload 4, 2) := by decide +kernel
theorem dX9_heightFits_94 : decode cX9_heightFits 94 = .ok (.invokestatic 144, 3) := by decide +kernel
theorem dX9_heightFits_97 : decode cX9_heightFits 97 = .ok (.istore 7, 2) := by decide +kernel
theorem dX9_heightFits_99 : decode cX9_heightFits 99 = .ok (.lload 4, 2) := by decide +kernel
theorem dX9_heightFits_101 : decode cX9_heightFits 101 = .ok (.lload 4, 2) := by decide +kernel
theorem dX9_heightFits_103 : decode cX9_heightFits 103 = .ok (.lconst 1, 1) := by decide +kernel
theorem dX9_heightFits_104 : decode cX9_heightFits 104 = .ok (.lsub, 1) := by decide +kernel
theorem dX9_heightFits_105 : decode cX9_heightFits 105 = .ok (.land, 1) := by decide +kernel
theorem dX9_heightFits_106 : decode cX9_heightFits 106 = .ok (.lstore 4, 2) := by decide +kernel
theorem dX9_heightFits_108 : decode cX9_heightFits 108 = .ok (.aload_n 0, 1) := by decide +kernel
theorem dX9_heightFits_109 : decode cX9_heightFits 109 = .ok (.getfield 18, 3) := by decide +kernel
theorem dX9_heightFits_112 : decode cX9_heightFits 112 = .ok (.iload 7, 2) := by decide +kernel
theorem dX9_heightFits_114 : decode cX9_heightFits 114 = .ok (.iaload, 1) := by decide +kernel
theorem dX9_heightFits_115 : decode cX9_heightFits 115 = .ok (.iconst (-1), 1) := by decide +kernel
theorem dX9_heightFits_116 : decode cX9_heightFits 116 = .ok (.if_icmp .eq 21, 3) := by decide +kernel
theorem dX9_heightFits_119 : decode cX9_heightFits 119 = .ok (.aload_n 0, 1) := by decide +kernel
theorem dX9_heightFits_120 : decode cX9_heightFits 120 = .ok (.getfield 18, 3) := by decide +kernel
theorem dX9_heightFits_123 : decode cX9_heightFits 123 = .ok (.iload 7, 2) := by decide +kernel
theorem dX9_heightFits_125 : decode cX9_heightFits 125 = .ok (.iaload, 1) := by decide +kernel
theorem dX9_heightFits_126 : decode cX9_heightFits 126 = .ok (.iload_n 3, 1) := by decide +kernel
theorem dX9_heightFits_127 : decode cX9_heightFits 127 = .ok (.if_icmp .eq 10, 3) := by decide +kernel
theorem dX9_heightFits_130 : decode cX9_heightFits 130 = .ok (.aload_n 0, 1) := by decide +kernel
theorem dX9_heightFits_131 : decode cX9_heightFits 131 = .ok (.iload_n 1, 1) := by decide +kernel
theorem dX9_heightFits_132 : decode cX9_heightFits 132 = .ok (.iconst 5, 1) := by decide +kernel
theorem dX9_heightFits_133 : decode cX9_heightFits 133 = .ok (.invokevirtual 125, 3) := by decide +kernel
theorem dX9_heightFits_136 : decode cX9_heightFits 136 = .ok (.ireturn, 1) := by decide +kernel
theorem dX9_heightFits_137 : decode cX9_heightFits 137 = .ok (.aload_n 0, 1) := by decide +kernel
theorem dX9_heightFits_138 : decode cX9_heightFits 138 = .ok (.getfield 18, 3) := by decide +kernel
theorem dX9_heightFits_141 : decode cX9_heightFits 141 = .ok (.iload 7, 2) := by decide +kernel
theorem dX9_heightFits_143 : decode cX9_heightFits 143 = .ok (.iload_n 3, 1) := by decide +kernel
theorem dX9_heightFits_144 : decode cX9_heightFits 144 = .ok (.iastore, 1) := by decide +kernel
theorem dX9_heightFits_145 : decode cX9_heightFits 145 = .ok (.aload_n 0, 1) := by decide +kernel
theorem dX9_heightFits_146 : decode cX9_heightFits 146 = .ok (.dup, 1) := by decide +kernel
theorem dX9_heightFits_147 : decode cX9_heightFits 147 = .ok (.getfield 48, 3) := by decide +kernel
theorem dX9_heightFits_150 : decode cX9_heightFits 150 = .ok (.iload 7, 2) := by decide +kernel
theorem dX9_heightFits_152 : decode cX9_heightFits 152 = .ok (.invokestatic 138, 3) := by decide +kernel
theorem dX9_heightFits_155 : decode cX9_heightFits 155 = .ok (.lor, 1) := by decide +kernel
theorem dX9_heightFits_156 : decode cX9_heightFits 156 = .ok (.putfield 48, 3) := by decide +kernel
theorem dX9_heightFits_159 : decode cX9_heightFits 159 = .ok (.iinc 6 1, 3) := by decide +kernel
theorem dX9_heightFits_162 : decode cX9_heightFits 162 = .ok (.goto (-83), 3) := by decide +kernel
theorem dX9_heightFits_165 : decode cX9_heightFits 165 = .ok (.iconst 1, 1) := by decide +kernel
theorem dX9_heightFits_166 : decode cX9_heightFits 166 = .ok (.ireturn, 1) := by decide +kernel
theorem dX9_findLabels_0 : decode cX9_findLabels 0 = .ok (.aload_n 0, 1) := by decide +kernel
theorem dX9_findLabels_1 : decode cX9_findLabels 1 = .ok (.getfield 22, 3) := by decide +kernel
theorem dX9_findLabels_4 : decode cX9_findLabels 4 = .ok (.iconst 0, 1) := by decide +kernel
theorem dX9_findLabels_5 : decode cX9_findLabels 5 = .ok (.invokestatic 132, 3) := by decide +kernel
theorem dX9_findLabels_8 : decode cX9_findLabels 8 = .ok (.iconst 0, 1) := by decide +kernel
theorem dX9_findLabels_9 : decode cX9_findLabels 9 = .ok (.istore_n 1, 1) := by decide +kernel
theorem dX9_findLabels_10 : decode cX9_findLabels 10 = .ok (.iload_n 1, 1) := by decide +kernel
theorem dX9_findLabels_11 : decode cX9_findLabels 11 = .ok (.aload_n 0, 1) := by decide +kernel
theorem dX9_findLabels_12 : decode cX9_findLabels 12 = .ok (.getfield 83, 3) := by decide +kernel
theorem dX9_findLabels_15 : decode cX9_findLabels 15 = .ok (.invokevirtual 110, 3) := by decide +kernel
theorem dX9_findLabels_18 : decode cX9_findLabels 18 = .ok (.if_icmp .ge 19, 3) := by decide +kernel
theorem dX9_findLabels_21 : decode cX9_findLabels 21 = .ok (.aload_n 0, 1) := by decide +kernel
theorem dX9_findLabels_22 : decode cX9_findLabels 22 = .ok (.getfield 27, 3) := by decide +kernel
theorem dX9_findLabels_25 : decode cX9_findLabels 25 = .ok (.iload_n 1, 1) := by decide +kernel
theorem dX9_findLabels_26 : decode cX9_findLabels 26 = .ok (.aaload, 1) := by decide +kernel
theorem dX9_findLabels_27 : decode cX9_findLabels 27 = .ok (.iconst 0, 1) := by decide +kernel
theorem dX9_findLabels_28 : decode cX9_findLabels 28 = .ok (.invokestatic 132, 3) := by decide +kernel
theorem dX9_findLabels_31 : decode cX9_findLabels 31 = .ok (.iinc 1 1, 3) := by decide +kernel
theorem dX9_findLabels_34 : decode cX9_findLabels 34 = .ok (.goto (-24), 3) := by decide +kernel
theorem dX9_findLabels_37 : decode cX9_findLabels 37 = .ok (.iconst 0, 1) := by decide +kernel
theorem dX9_findLabels_38 : decode cX9_findLabels 38 = .ok (.istore_n 1, 1) := by decide +kernel
theorem dX9_findLabels_39 : decode cX9_findLabels 39 = .ok (.iload_n 1, 1) := by decide +kernel
theorem dX9_findLabels_40 : decode cX9_findLabels 40 = .ok (.bipush 26, 2) := by decide +kernel
theorem dX9_findLabels_42 : decode cX9_findLabels 42 = .ok (.if_icmp .ge 30, 3) := by decide +kernel
theorem dX9_findLabels_45 : decode cX9_findLabels 45 = .ok (.aload_n 0, 1) := by decide +kernel
theorem dX9_findLabels_46 : decode cX9_findLabels 46 = .ok (.getfield 27, 3) := by decide +kernel
theorem dX9_findLabels_49 : decode cX9_findLabels 49 = .ok (.iconst 0, 1) := by decide +kernel
theorem dX9_findLabels_50 : decode cX9_findLabels 50 = .ok (.aaload, 1) := by decide +kernel
theorem dX9_findLabels_51 : decode cX9_findLabels 51 = .ok (.iload_n 1, 1) := by decide +kernel
theorem dX9_findLabels_52 : decode cX9_findLabels 52 = .ok (.aload_n 0, 1) := by decide +kernel
theorem dX9_findLabels_53 : decode cX9_findLabels 53 = .ok (.getfield 33, 3) := by decide +kernel
theorem dX9_findLabels_56 : decode cX9_findLabels 56 = .ok (.aload_n 0, 1) := by decide +kernel
theorem dX9_findLabels_57 : decode cX9_findLabels 57 = .ok (.getfield 87, 3) := by decide +kernel
theorem dX9_findLabels_60 : decode cX9_findLabels 60 = .ok (.iload_n 1, 1) := by decide +kernel
theorem dX9_findLabels_61 : decode cX9_findLabels 61 = .ok (.iaload, 1) := by decide +kernel
theorem dX9_findLabels_62 : decode cX9_findLabels 62 = .ok (.invokevirtual 162, 3) := by decide +kernel
theorem dX9_findLabels_65 : decode cX9_findLabels 65 = .ok (.iastore, 1) := by decide +kernel
theorem dX9_findLabels_66 : decode cX9_findLabels 66 = .ok (.iinc 1 1, 3) := by decide +kernel
theorem dX9_findLabels_69 : decode cX9_findLabels 69 = .ok (.goto (-30), 3) := by decide +kernel
theorem dX9_findLabels_72 : decode cX9_findLabels 72 = .ok (.aload_n 0, 1) := by decide +kernel
theorem dX9_findLabels_73 : decode cX9_findLabels 73 = .ok (.aload_n 0, 1) := by decide +kernel
theorem dX9_findLabels_74 : decode cX9_findLabels 74 = .ok (.getfield 48, 3) := by decide +kernel
theorem dX9_findLabels_77 : decode cX9_findLabels 77 = .ok (.putfield 165, 3) := by decide +kernel
theorem dX9_findLabels_80 : decode cX9_findLabels 80 = .ok (.iconst 0, 1) := by decide +kernel
theorem dX9_findLabels_81 : decode cX9_findLabels 81 = .ok (.istore_n 1, 1) := by decide +kernel
theorem dX9_findLabels_82 : decode cX9_findLabels 82 = .ok (.iload_n 1, 1) := by decide +kernel
theorem dX9_findLabels_83 : decode cX9_findLabels 83 = .ok (.sipush 21888, 3) := by decide +kernel
theorem dX9_findLabels_86 : decode cX9_findLabels 86 = .ok (.if_icmp .ge 70, 3) := by decide +kernel
theorem dX9_findLabels_89 : decode cX9_findLabels 89 = .ok (.aload_n 0, 1) := by decide +kernel
theorem dX9_findLabels_90 : decode cX9_findLabels 90 = .ok (.getfield 165, 3) := by decide +kernel
theorem dX9_findLabels_93 : decode cX9_findLabels 93 = .ok (.lconst 0, 1) := by decide +kernel
theorem dX9_findLabels_94 : decode cX9_findLabels 94 = .ok (.lcmp, 1) := by decide +kernel
theorem dX9_findLabels_95 : decode cX9_findLabels 95 = .ok (.ifCond .eq 61, 3) := by decide +kernel
theorem dX9_findLabels_98 : decode cX9_findLabels 98 = .ok (.iconst 0, 1) := by decide +kernel
theorem dX9_findLabels_99 : decode cX9_findLabels 99 = .ok (.istore_n 2, 1) := by decide +kernel
theorem dX9_findLabels_100 : decode cX9_findLabels 100 = .ok (.iload_n 2, 1) := by decide +kernel
theorem dX9_findLabels_101 : decode cX9_findLabels 101 = .ok (.aload_n 0, 1) := by decide +kernel
theorem dX9_findLabels_102 : decode cX9_findLabels 102 = .ok (.getfield 83, 3) := by decide +kernel
theorem dX9_findLabels_105 : decode cX9_findLabels 105 = .ok (.invokevirtual 110, 3) := by decide +kernel
theorem dX9_findLabels_108 : decode cX9_findLabels 108 = .ok (.if_icmp .ge 42, 3) := by decide +kernel
theorem dX9_findLabels_111 : decode cX9_findLabels 111 = .ok (.aload_n 0, 1) := by decide +kernel
theorem dX9_findLabels_112 : decode cX9_findLabels 112 = .ok (.getfield 165, 3) := by decide +kernel
theorem dX9_findLabels_115 : decode cX9_findLabels 115 = .ok (.iload_n 2, 1) := by decide +kernel
theorem dX9_findLabels_116 : decode cX9_findLabels 116 = .ok (.invokestatic 58, 3) := by decide +kernel
theorem dX9_findLabels_119 : decode cX9_findLabels 119 = .ok (.ifCond .eq 25, 3) := by decide +kernel
theorem dX9_findLabels_122 : decode cX9_findLabels 122 = .ok (.aload_n 0, 1) := by decide +kernel
theorem dX9_findLabels_123 : decode cX9_findLabels 123 = .ok (.dup, 1) := by decide +kernel
theorem dX9_findLabels_124 : decode cX9_findLabels 124 = .ok (.getfield 165, 3) := by decide +kernel
theorem dX9_findLabels_127 : decode cX9_findLabels 127 = .ok (.iload_n 2, 1) := by decide +kernel
theorem dX9_findLabels_128 : decode cX9_findLabels 128 = .ok (.invokestatic 138, 3) := by decide +kernel
theorem dX9_findLabels_131 : decode cX9_findLabels 131 = .ok (.ldc2_w 142, 3) := by decide +kernel
theorem dX9_findLabels_134 : decode cX9_findLabels 134 = .ok (.lxor, 1) := by decide +kernel
theorem dX9_findLabels_135 : decode cX9_findLabels 135 = .ok (.land, 1) := by decide +kernel
theorem dX9_findLabels_136 : decode cX9_findLabels 136 = .ok (.putfield 165, 3) := by decide +kernel
theorem dX9_findLabels_139 : decode cX9_findLabels 139 = .ok (.aload_n 0, 1) := by decide +kernel
theorem dX9_findLabels_140 : decode cX9_findLabels 140 = .ok (.iload_n 2, 1) := by decide +kernel
theorem dX9_findLabels_141 : decode cX9_findLabels 141 = .ok (.invokevirtual 168, 3) := by decide +kernel
theorem dX9_findLabels_144 : decode cX9_findLabels 144 = .ok (.iinc 2 1, 3) := by decide +kernel
theorem dX9_findLabels_147 : decode cX9_findLabels 147 = .ok (.goto (-47), 3) := by decide +kernel
theorem dX9_findLabels_150 : decode cX9_findLabels 150 = .ok (.iinc 1 1, 3) := by decide +kernel
theorem dX9_findLabels_153 : decode cX9_findLabels 153 = .ok (.goto (-71), 3) := by decide +kernel
theorem dX9_findLabels_156 : decode cX9_findLabels 156 = .ok (.return_, 1) := by decide +kernel
theorem dX9_goOver_0 : decode cX9_goOver 0 = .ok (.aload_n 0, 1) := by decide +kernel
theorem dX9_goOver_1 : decode cX9_goOver 1 = .ok (.getfield 27, 3) := by decide +kernel
theorem dX9_goOver_4 : decode cX9_goOver 4 = .ok (.iload_n 1, 1) := by decide +kernel
theorem dX9_goOver_5 : decode cX9_goOver 5 = .ok (.aaload, 1) := by decide +kernel
theorem dX9_goOver_6 : decode cX9_goOver 6 = .ok (.iconst 0, 1) := by decide +kernel
theorem dX9_goOver_7 : decode cX9_goOver 7 = .ok (.aload_n 0, 1) := by decide +kernel
theorem dX9_goOver_8 : decode cX9_goOver 8 = .ok (.getfield 30, 3) := by decide +kernel
theorem dX9_goOver_11 : decode cX9_goOver 11 = .ok (.iconst 0, 1) := by decide +kernel
theorem dX9_goOver_12 : decode cX9_goOver 12 = .ok (.bipush 56, 2) := by decide +kernel
theorem dX9_goOver_14 : decode cX9_goOver 14 = .ok (.invokestatic 172, 3) := by decide +kernel
theorem dX9_goOver_17 : decode cX9_goOver 17 = .ok (.aload_n 0, 1) := by decide +kernel
theorem dX9_goOver_18 : decode cX9_goOver 18 = .ok (.getfield 83, 3) := by decide +kernel
theorem dX9_goOver_21 : decode cX9_goOver 21 = .ok (.iload_n 1, 1) := by decide +kernel
theorem dX9_goOver_22 : decode cX9_goOver 22 = .ok (.invokevirtual 119, 3) := by decide +kernel
theorem dX9_goOver_25 : decode cX9_goOver 25 = .ok (.istore_n 2, 1) := by decide +kernel
theorem dX9_goOver_26 : decode cX9_goOver 26 = .ok (.aload_n 0, 1) := by decide +kernel
theorem dX9_goOver_27 : decode cX9_goOver 27 = .ok (.getfield 18, 3) := by decide +kernel
theorem dX9_goOver_30 : decode cX9_goOver 30 = .ok (.iload_n 1, 1) := by decide +kernel
theorem dX9_goOver_31 : decode cX9_goOver 31 = .ok (.iaload, 1) := by decide +kernel
theorem dX9_goOver_32 : decode cX9_goOver 32 = .ok (.aload_n 0, 1) := by decide +kernel
theorem dX9_goOver_33 : decode cX9_goOver 33 = .ok (.getfield 83, 3) := by decide +kernel
theorem dX9_goOver_36 : decode cX9_goOver 36 = .ok (.iload_n 1, 1) := by decide +kernel
theorem dX9_goOver_37 : decode cX9_goOver 37 = .ok (.invokevirtual 150, 3) := by decide +kernel
theorem dX9_goOver_40 : decode cX9_goOver 40 = .ok (.isub, 1) := by decide +kernel
theorem dX9_goOver_41 : decode cX9_goOver 41 = .ok (.istore_n 3, 1) := by decide +kernel
theorem dX9_goOver_42 : decode cX9_goOver 42 = .ok (.aload_n 0, 1) := by decide +kernel
theorem dX9_goOver_43 : decode cX9_goOver 43 = .ok (.getfield 22, 3) := by decide +kernel
theorem dX9_goOver_46 : decode cX9_goOver 46 = .ok (.iload_n 1, 1) := by decide +kernel
theorem dX9_goOver_47 : decode cX9_goOver 47 = .ok (.iaload, 1) := by decide +kernel
theorem dX9_goOver_48 : decode cX9_goOver 48 = .ok (.aload_n 0, 1) := by decide +kernel
theorem dX9_goOver_49 : decode cX9_goOver 49 = .ok (.iload_n 1, 1) := by decide +kernel
theorem dX9_goOver_50 : decode cX9_goOver 50 = .ok (.invokevirtual 178, 3) := by decide +kernel
theorem dX9_goOver_53 : decode cX9_goOver 53 = .ok (.ior, 1) := by decide +kernel
theorem dX9_goOver_54 : decode cX9_goOver 54 = .ok (.istore 4, 2) := by decide +kernel
theorem dX9_goOver_56 : decode cX9_goOver 56 = .ok (.aload_n 0, 1) := by decide +kernel
theorem dX9_goOver_57 : decode cX9_goOver 57 = .ok (.getfield 83, 3) := by decide +kernel
theorem dX9_goOver_60 : decode cX9_goOver 60 = .ok (.iload_n 1, 1) := by decide +kernel
theorem dX9_goOver_61 : decode cX9_goOver 61 = .ok (.invokevirtual 153, 3) := by decide +kernel
theorem dX9_goOver_64 : decode cX9_goOver 64 = .ok (.iconst 1, 1) := by decide +kernel
theorem dX9_goOver_65 : decode cX9_goOver 65 = .ok (.if_icmp .ne 38, 3) := by decide +kernel
theorem dX9_goOver_68 : decode cX9_goOver 68 = .ok (.iload_n 3, 1) := by decide +kernel
theorem dX9_goOver_69 : decode cX9_goOver 69 = .ok (.ifCond .lt 34, 3) := by decide +kernel
theorem dX9_goOver_72 : decode cX9_goOver 72 = .ok (.iload_n 3, 1) := by decide +kernel
theorem dX9_goOver_73 : decode cX9_goOver 73 = .ok (.bipush 30, 2) := by decide +kernel
theorem dX9_goOver_75 : decode cX9_goOver 75 = .ok (.if_icmp .ge 28, 3) := by decide +kernel
theorem dX9_goOver_78 : decode cX9_goOver 78 = .ok (.aload_n 0, 1) := by decide +kernel
theorem dX9_goOver_79 : decode cX9_goOver 79 = .ok (.getfield 30, 3) := by decide +kernel
theorem dX9_goOver_82 : decode cX9_goOver 82 = .ok (.bipush 26, 2) := by decide +kernel
theorem dX9_goOver_84 : decode cX9_goOver 84 = .ok (.iload_n 3, 1) := by decide +kernel
theorem dX9_goOver_85 : decode cX9_goOver 85 = .ok (.iadd, 1) := by decide +kernel
theorem dX9_goOver_86 : decode cX9_goOver 86 = .ok (.iload 4, 2) := by decide +kernel
theorem dX9_goOver_88 : decode cX9_goOver 88 = .ok (.aload_n 0, 1) := by decide +kernel
theorem dX9_goOver_89 : decode cX9_goOver 89 = .ok (.aload_n 0, 1) := by decide +kernel
theorem dX9_goOver_90 : decode cX9_goOver 90 = .ok (.getfield 83, 3) := by decide +kernel
theorem dX9_goOver_93 : decode cX9_goOver 93 = .ok (.iload_n 1, 1) := by decide +kernel
theorem dX9_goOver_94 : decode cX9_goOver 94 = .ok (.invokevirtual 116, 3) := by decide +kernel
theorem dX9_goOver_97 : decode cX9_goOver 97 = .ok (.iload_n 1, 1) := by decide +kernel
theorem dX9_goOver_98 : decode cX9_goOver 98 = .ok (.invokevirtual 181, 3) := by decide +kernel
theorem dX9_goOver_101 : decode cX9_goOver 101 = .ok (.ior, 1) := by decide +kernel
theorem dX9_goOver_102 : decode cX9_goOver 102 = .ok (.iastore, 1) := by decide +kernel
theorem dX9_goOver_103 : decode cX9_goOver 103 = .ok (.aload_n 0, 1) := by decide +kernel
theorem dX9_goOver_104 : decode cX9_goOver 104 = .ok (.getfield 83, 3) := by decide +kernel
theorem dX9_goOver_107 : decode cX9_goOver 107 = .ok (.iload_n 1, 1) := by decide +kernel
theorem dX9_goOver_108 : decode cX9_goOver 108 = .ok (.invokevirtual 116, 3) := by decide +kernel
theorem dX9_goOver_111 : decode cX9_goOver 111 = .ok (.iconst 2, 1) := by decide +kernel
theorem dX9_goOver_112 : decode cX9_goOver 112 = .ok (.if_icmp .ne 31, 3) := by decide +kernel
theorem dX9_goOver_115 : decode cX9_goOver 115 = .ok (.iload_n 2, 1) := by decide +kernel
theorem dX9_goOver_116 : decode cX9_goOver 116 = .ok (.ifCond .lt 27, 3) := by decide +kernel
theorem dX9_goOver_119 : decode cX9_goOver 119 = .ok (.iload_n 2, 1) := by decide +kernel
theorem dX9_goOver_120 : decode cX9_goOver 120 = .ok (.bipush 26, 2) := by decide +kernel
theorem dX9_goOver_122 : decode cX9_goOver 122 = .ok (.if_icmp .ge 21, 3) := by decide +kernel
theorem dX9_goOver_125 : decode cX9_goOver 125 = .ok (.aload_n 0, 1) := by decide +kernel
theorem dX9_goOver_126 : decode cX9_goOver 126 = .ok (.getfield 87, 3) := by decide +kernel
theorem dX9_goOver_129 : decode cX9_goOver 129 = .ok (.iload_n 2, 1) := by decide +kernel
theorem dX9_goOver_130 : decode cX9_goOver 130 = .ok (.iaload, 1) := by decide +kernel
theorem dX9_goOver_131 : decode cX9_goOver 131 = .ok (.iconst (-1), 1) := by decide +kernel
theorem dX9_goOver_132 : decode cX9_goOver 132 = .ok (.if_icmp .ne 11, 3) := by decide +kernel
theorem dX9_goOver_135 : decode cX9_goOver 135 = .ok (.aload_n 0, 1) := by decide +kernel
theorem dX9_goOver_136 : decode cX9_goOver 136 = .ok (.getfield 30, 3) := by decide +kernel
theorem dX9_goOver_139 : decode cX9_goOver 139 = .ok (.iload_n 2, 1) := by decide +kernel
theorem dX9_goOver_140 : decode cX9_goOver 140 = .ok (.iload 4, 2) := by decide +kernel
theorem dX9_goOver_142 : decode cX9_goOver 142 = .ok (.iastore, 1) := by decide +kernel
theorem dX9_goOver_143 : decode cX9_goOver 143 = .ok (.aload_n 0, 1) := by decide +kernel
theorem dX9_goOver_144 : decode cX9_goOver 144 = .ok (.getfield 83, 3) := by decide +kernel
theorem dX9_goOver_147 : decode cX9_goOver 147 = .ok (.iload_n 1, 1) := by decide +kernel
theorem dX9_goOver_148 : decode cX9_goOver 148 = .ok (.invokevirtual 116, 3) := by decide +kernel
theorem dX9_goOver_151 : decode cX9_goOver 151 = .ok (.bipush 11, 2) := by decide +kernel
theorem dX9_goOver_153 : decode cX9_goOver 153 = .ok (.if_icmp .ne 10, 3) := by decide +kernel
theorem dX9_goOver_156 : decode cX9_goOver 156 = .ok (.aload_n 0, 1) := by decide +kernel
theorem dX9_goOver_157 : decode cX9_goOver 157 = .ok (.iload_n 1, 1) := by decide +kernel
theorem dX9_goOver_158 : decode cX9_goOver 158 = .ok (.iload 4, 2) := by decide +kernel
theorem dX9_goOver_160 : decode cX9_goOver 160 = .ok (.invokevirtual 184, 3) := by decide +kernel
theorem dX9_goOver_163 : decode cX9_goOver 163 = .ok (.bipush 26, 2) := by decide +kernel
theorem dX9_goOver_165 : decode cX9_goOver 165 = .ok (.iload_n 3, 1) := by decide +kernel
theorem dX9_goOver_166 : decode cX9_goOver 166 = .ok (.iadd, 1) := by decide +kernel
theorem dX9_goOver_167 : decode cX9_goOver 167 = .ok (.aload_n 0, 1) := by decide +kernel
theorem dX9_goOver_168 : decode cX9_goOver 168 = .ok (.getfield 83, 3) := by decide +kernel
theorem dX9_goOver_171 : decode cX9_goOver 171 = .ok (.iload_n 1, 1) := by decide +kernel
theorem dX9_goOver_172 : decode cX9_goOver 172 = .ok (.invokevirtual 153, 3) := by decide +kernel
theorem dX9_goOver_175 : decode cX9_goOver 175 = .ok (.iadd, 1) := by decide +kernel
theorem dX9_goOver_176 : decode cX9_goOver 176 = .ok (.istore 5, 2) := by decide +kernel
theorem dX9_goOver_178 : decode cX9_goOver 178 = .ok (.aload_n 0, 1) := by decide +kernel
theorem dX9_goOver_179 : decode cX9_goOver 179 = .ok (.getfield 83, 3) := by decide +kernel
theorem dX9_goOver_182 : decode cX9_goOver 182 = .ok (.iload_n 1, 1) := by decide +kernel
theorem dX9_goOver_183 : decode cX9_goOver 183 = .ok (.invokevirtual 159, 3) := by decide +kernel
theorem dX9_goOver_186 : decode cX9_goOver 186 = .ok (.lstore 6, 2) := by decide +kernel
theorem dX9_goOver_188 : decode cX9_goOver 188 = .ok (.iconst 0, 1) := by decide +kernel
theorem dX9_goOver_189 : decode cX9_goOver 189 = .ok (.istore 8, 2) := by decide +kernel
theorem dX9_goOver_191 : decode cX9_goOver 191 = .ok (.iload 8, 2) := by decide +kernel
