theorem d_L_cell_0 : decode k_L_cell 0 = .ok (.iload_n 1, 1) := by decide +kernel
theorem d_L_cell_1 : decode k_L_cell 1 = .ok (.aload_n 0, 1) := by decide +kernel
theorem d_L_cell_2 : decode k_L_cell 2 = .ok (.arraylength, 1) := by decide +kernel
theorem d_L_cell_3 : decode k_L_cell 3 = .ok (.if_icmp .ge 9, 3) := by decide +kernel
theorem d_L_cell_6 : decode k_L_cell 6 = .ok (.aload_n 0, 1) := by decide +kernel
theorem d_L_cell_7 : decode k_L_cell 7 = .ok (.iload_n 1, 1) := by decide +kernel
theorem d_L_cell_8 : decode k_L_cell 8 = .ok (.iaload, 1) := by decide +kernel
theorem d_L_cell_9 : decode k_L_cell 9 = .ok (.goto 4, 3) := by decide +kernel
theorem d_L_cell_12 : decode k_L_cell 12 = .ok (.iconst 0, 1) := by decide +kernel
theorem d_L_cell_13 : decode k_L_cell 13 = .ok (.ireturn, 1) := by decide +kernel
theorem d_L_time_0 : decode k_L_time 0 = .ok (.aload_n 3, 1) := by decide +kernel
theorem d_L_time_1 : decode k_L_time 1 = .ok (.iconst 0, 1) := by decide +kernel
theorem d_L_time_2 : decode k_L_time 2 = .ok (.aload_n 0, 1) := by decide +kernel
theorem d_L_time_3 : decode k_L_time 3 = .ok (.iload_n 1, 1) := by decide +kernel
theorem d_L_time_4 : decode k_L_time 4 = .ok (.iload_n 2, 1) := by decide +kernel
theorem d_L_time_5 : decode k_L_time 5 = .ok (.invokevirtual 7, 3) := by decide +kernel
theorem d_L_time_8 : decode k_L_time 8 = .ok (.i2l, 1) := by decide +kernel
theorem d_L_time_9 : decode k_L_time 9 = .ok (.lastore, 1) := by decide +kernel
theorem d_L_time_10 : decode k_L_time 10 = .ok (.goto 15, 3) := by decide +kernel
theorem d_L_time_13 : decode k_L_time 13 = .ok (.astore 4, 2) := by decide +kernel
theorem d_L_time_15 : decode k_L_time 15 = .ok (.iconst 1, 1) := by decide +kernel
theorem d_L_time_16 : decode k_L_time 16 = .ok (.ireturn, 1) := by decide +kernel
theorem d_L_time_17 : decode k_L_time 17 = .ok (.astore 4, 2) := by decide +kernel
theorem d_L_time_19 : decode k_L_time 19 = .ok (.iconst 2, 1) := by decide +kernel
theorem d_L_time_20 : decode k_L_time 20 = .ok (.ireturn, 1) := by decide +kernel
theorem d_L_time_21 : decode k_L_time 21 = .ok (.astore 4, 2) := by decide +kernel
theorem d_L_time_23 : decode k_L_time 23 = .ok (.iconst 3, 1) := by decide +kernel
theorem d_L_time_24 : decode k_L_time 24 = .ok (.ireturn, 1) := by decide +kernel
theorem d_L_time_25 : decode k_L_time 25 = .ok (.iconst 0, 1) := by decide +kernel
theorem d_L_time_26 : decode k_L_time 26 = .ok (.ireturn, 1) := by decide +kernel
theorem d_L_span_0 : decode k_L_span 0 = .ok (.aload_n 2, 1) := by decide +kernel
theorem d_L_span_1 : decode k_L_span 1 = .ok (.iconst 0, 1) := by decide +kernel
theorem d_L_span_2 : decode k_L_span 2 = .ok (.aload_n 0, 1) := by decide +kernel
theorem d_L_span_3 : decode k_L_span 3 = .ok (.iload_n 1, 1) := by decide +kernel
theorem d_L_span_4 : decode k_L_span 4 = .ok (.invokevirtual 19, 3) := by decide +kernel
theorem d_L_span_7 : decode k_L_span 7 = .ok (.i2l, 1) := by decide +kernel
theorem d_L_span_8 : decode k_L_span 8 = .ok (.lastore, 1) := by decide +kernel
theorem d_L_span_9 : decode k_L_span 9 = .ok (.goto 6, 3) := by decide +kernel
theorem d_L_span_12 : decode k_L_span 12 = .ok (.astore_n 3, 1) := by decide +kernel
theorem d_L_span_13 : decode k_L_span 13 = .ok (.iconst 1, 1) := by decide +kernel
theorem d_L_span_14 : decode k_L_span 14 = .ok (.ireturn, 1) := by decide +kernel
theorem d_L_span_15 : decode k_L_span 15 = .ok (.iconst 0, 1) := by decide +kernel
theorem d_L_span_16 : decode k_L_span 16 = .ok (.ireturn, 1) := by decide +kernel
theorem d_L_ask_0 : decode k_L_ask 0 = .ok (.aload_n 3, 1) := by decide +kernel
theorem d_L_ask_1 : decode k_L_ask 1 = .ok (.iconst 0, 1) := by decide +kernel
theorem d_L_ask_2 : decode k_L_ask 2 = .ok (.aload_n 0, 1) := by decide +kernel
theorem d_L_ask_3 : decode k_L_ask 3 = .ok (.iload_n 1, 1) := by decide +kernel
theorem d_L_ask_4 : decode k_L_ask 4 = .ok (.iload_n 2, 1) := by decide +kernel
theorem d_L_ask_5 : decode k_L_ask 5 = .ok (.invokevirtual 23, 3) := by decide +kernel
theorem d_L_ask_8 : decode k_L_ask 8 = .ok (.i2l, 1) := by decide +kernel
theorem d_L_ask_9 : decode k_L_ask 9 = .ok (.lastore, 1) := by decide +kernel
theorem d_L_ask_10 : decode k_L_ask 10 = .ok (.goto 11, 3) := by decide +kernel
theorem d_L_ask_13 : decode k_L_ask 13 = .ok (.astore 4, 2) := by decide +kernel
theorem d_L_ask_15 : decode k_L_ask 15 = .ok (.iconst 1, 1) := by decide +kernel
theorem d_L_ask_16 : decode k_L_ask 16 = .ok (.ireturn, 1) := by decide +kernel
theorem d_L_ask_17 : decode k_L_ask 17 = .ok (.astore 4, 2) := by decide +kernel
theorem d_L_ask_19 : decode k_L_ask 19 = .ok (.iconst 2, 1) := by decide +kernel
theorem d_L_ask_20 : decode k_L_ask 20 = .ok (.ireturn, 1) := by decide +kernel
theorem d_L_ask_21 : decode k_L_ask 21 = .ok (.iconst 0, 1) := by decide +kernel
theorem d_L_ask_22 : decode k_L_ask 22 = .ok (.ireturn, 1) := by decide +kernel
theorem d_L_run_0 : decode k_L_run 0 = .ok (.aload_n 2, 1) := by decide +kernel
theorem d_L_run_1 : decode k_L_run 1 = .ok (.iconst 0, 1) := by decide +kernel
theorem d_L_run_2 : decode k_L_run 2 = .ok (.aload_n 0, 1) := by decide +kernel
theorem d_L_run_3 : decode k_L_run 3 = .ok (.iload_n 1, 1) := by decide +kernel
theorem d_L_run_4 : decode k_L_run 4 = .ok (.invokevirtual 29, 3) := by decide +kernel
theorem d_L_run_7 : decode k_L_run 7 = .ok (.i2l, 1) := by decide +kernel
theorem d_L_run_8 : decode k_L_run 8 = .ok (.lastore, 1) := by decide +kernel
theorem d_L_run_9 : decode k_L_run 9 = .ok (.goto 6, 3) := by decide +kernel
theorem d_L_run_12 : decode k_L_run 12 = .ok (.astore_n 3, 1) := by decide +kernel
theorem d_L_run_13 : decode k_L_run 13 = .ok (.iconst 1, 1) := by decide +kernel
theorem d_L_run_14 : decode k_L_run 14 = .ok (.ireturn, 1) := by decide +kernel
theorem d_L_run_15 : decode k_L_run 15 = .ok (.iconst 0, 1) := by decide +kernel
theorem d_L_run_16 : decode k_L_run 16 = .ok (.ireturn, 1) := by decide +kernel
theorem d_L_done_0 : decode k_L_done 0 = .ok (.aload_n 2, 1) := by decide +kernel
theorem d_L_done_1 : decode k_L_done 1 = .ok (.iconst 0, 1) := by decide +kernel
theorem d_L_done_2 : decode k_L_done 2 = .ok (.aload_n 0, 1) := by decide +kernel
theorem d_L_done_3 : decode k_L_done 3 = .ok (.iload_n 1, 1) := by decide +kernel
theorem d_L_done_4 : decode k_L_done 4 = .ok (.invokevirtual 32, 3) := by decide +kernel
theorem d_L_done_7 : decode k_L_done 7 = .ok (.i2l, 1) := by decide +kernel
theorem d_L_done_8 : decode k_L_done 8 = .ok (.lastore, 1) := by decide +kernel
theorem d_L_done_9 : decode k_L_done 9 = .ok (.goto 6, 3) := by decide +kernel
theorem d_L_done_12 : decode k_L_done 12 = .ok (.astore_n 3, 1) := by decide +kernel
theorem d_L_done_13 : decode k_L_done 13 = .ok (.iconst 1, 1) := by decide +kernel
theorem d_L_done_14 : decode k_L_done 14 = .ok (.ireturn, 1) := by decide +kernel
theorem d_L_done_15 : decode k_L_done 15 = .ok (.iconst 0, 1) := by decide +kernel
theorem d_L_done_16 : decode k_L_done 16 = .ok (.ireturn, 1) := by decide +kernel
theorem d_L_command_0 : decode k_L_command 0 = .ok (.aload_n 3, 1) := by decide +kernel
theorem d_L_command_1 : decode k_L_command 1 = .ok (.iconst 0, 1) := by decide +kernel
theorem d_L_command_2 : decode k_L_command 2 = .ok (.aload_n 0, 1) := by decide +kernel
theorem d_L_command_3 : decode k_L_command 3 = .ok (.iload_n 1, 1) := by decide +kernel
theorem d_L_command_4 : decode k_L_command 4 = .ok (.iload_n 2, 1) := by decide +kernel
theorem d_L_command_5 : decode k_L_command 5 = .ok (.invokevirtual 35, 3) := by decide +kernel
theorem d_L_command_8 : decode k_L_command 8 = .ok (.i2l, 1) := by decide +kernel
theorem d_L_command_9 : decode k_L_command 9 = .ok (.lastore, 1) := by decide +kernel
theorem d_L_command_10 : decode k_L_command 10 = .ok (.goto 7, 3) := by decide +kernel
theorem d_L_command_13 : decode k_L_command 13 = .ok (.astore 4, 2) := by decide +kernel
theorem d_L_command_15 : decode k_L_command 15 = .ok (.iconst 1, 1) := by decide +kernel
theorem d_L_command_16 : decode k_L_command 16 = .ok (.ireturn, 1) := by decide +kernel
theorem d_L_command_17 : decode k_L_command 17 = .ok (.iconst 0, 1) := by decide +kernel
theorem d_L_command_18 : decode k_L_command 18 = .ok (.ireturn, 1) := by decide +kernel
theorem d_L_open_0 : decode k_L_open 0 = .ok (.aload_n 3, 1) := by decide +kernel
theorem d_L_open_1 : decode k_L_open 1 = .ok (.iconst 0, 1) := by decide +kernel
theorem d_L_open_2 : decode k_L_open 2 = .ok (.aload_n 0, 1) := by decide +kernel
theorem d_L_open_3 : decode k_L_open 3 = .ok (.iload_n 1, 1) := by decide +kernel
theorem d_L_open_4 : decode k_L_open 4 = .ok (.iload_n 2, 1) := by decide +kernel
theorem d_L_open_5 : decode k_L_open 5 = .ok (.invokevirtual 38, 3) := by decide +kernel
theorem d_L_open_8 : decode k_L_open 8 = .ok (.i2l, 1) := by decide +kernel
theorem d_L_open_9 : decode k_L_open 9 = .ok (.lastore, 1) := by decide +kernel
theorem d_L_open_10 : decode k_L_open 10 = .ok (.goto 7, 3) := by decide +kernel
theorem d_L_open_13 : decode k_L_open 13 = .ok (.astore 4, 2) := by decide +kernel
theorem d_L_open_15 : decode k_L_open 15 = .ok (.iconst 1, 1) := by decide +kernel
theorem d_L_open_16 : decode k_L_open 16 = .ok (.ireturn, 1) := by decide +kernel
theorem d_L_open_17 : decode k_L_open 17 = .ok (.iconst 0, 1) := by decide +kernel
theorem d_L_open_18 : decode k_L_open 18 = .ok (.ireturn, 1) := by decide +kernel
theorem d_L_part_0 : decode k_L_part 0 = .ok (.aload_n 3, 1) := by decide +kernel
theorem d_L_part_1 : decode k_L_part 1 = .ok (.iconst 0, 1) := by decide +kernel
theorem d_L_part_2 : decode k_L_part 2 = .ok (.aload_n 0, 1) := by decide +kernel
theorem d_L_part_3 : decode k_L_part 3 = .ok (.iload_n 1, 1) := by decide +kernel
theorem d_L_part_4 : decode k_L_part 4 = .ok (.iload_n 2, 1) := by decide +kernel
theorem d_L_part_5 : decode k_L_part 5 = .ok (.invokevirtual 41, 3) := by decide +kernel
theorem d_L_part_8 : decode k_L_part 8 = .ok (.i2l, 1) := by decide +kernel
theorem d_L_part_9 : decode k_L_part 9 = .ok (.lastore, 1) := by decide +kernel
theorem d_L_part_10 : decode k_L_part 10 = .ok (.goto 7, 3) := by decide +kernel
theorem d_L_part_13 : decode k_L_part 13 = .ok (.astore 4, 2) := by decide +kernel
theorem d_L_part_15 : decode k_L_part 15 = .ok (.iconst 1, 1) := by decide +kernel
theorem d_L_part_16 : decode k_L_part 16 = .ok (.ireturn, 1) := by decide +kernel
theorem d_L_part_17 : decode k_L_part 17 = .ok (.iconst 0, 1) := by decide +kernel
theorem d_L_part_18 : decode k_L_part 18 = .ok (.ireturn, 1) := by decide +kernel
theorem d_L_check_0 : decode k_L_check 0 = .ok (.aload 6, 2) := by decide +kernel
theorem d_L_check_2 : decode k_L_check 2 = .ok (.iconst 0, 1) := by decide +kernel
theorem d_L_check_3 : decode k_L_check 3 = .ok (.aload_n 0, 1) := by decide +kernel
theorem d_L_check_4 : decode k_L_check 4 = .ok (.iload_n 1, 1) := by decide +kernel
theorem d_L_check_5 : decode k_L_check 5 = .ok (.iload_n 2, 1) := by decide +kernel
theorem d_L_check_6 : decode k_L_check 6 = .ok (.iload_n 3, 1) := by decide +kernel
theorem d_L_check_7 : decode k_L_check 7 = .ok (.iload 4, 2) := by decide +kernel
theorem d_L_check_9 : decode k_L_check 9 = .ok (.iload 5, 2) := by decide +kernel
theorem d_L_check_11 : decode k_L_check 11 = .ok (.invokevirtual 44, 3) := by decide +kernel
theorem d_L_check_14 : decode k_L_check 14 = .ok (.i2l, 1) := by decide +kernel
theorem d_L_check_15 : decode k_L_check 15 = .ok (.lastore, 1) := by decide +kernel
theorem d_L_check_16 : decode k_L_check 16 = .ok (.goto 7, 3) := by decide +kernel
theorem d_L_check_19 : decode k_L_check 19 = .ok (.astore 7, 2) := by decide +kernel
theorem d_L_check_21 : decode k_L_check 21 = .ok (.iconst 1, 1) := by decide +kernel
theorem d_L_check_22 : decode k_L_check 22 = .ok (.ireturn, 1) := by decide +kernel
theorem d_L_check_23 : decode k_L_check 23 = .ok (.iconst 0, 1) := by decide +kernel
theorem d_L_check_24 : decode k_L_check 24 = .ok (.ireturn, 1) := by decide +kernel
theorem d_J_floorMod_0 : decode k_J_floorMod 0 = .ok (.iload_n 0, 1) := by decide +kernel
theorem d_J_floorMod_1 : decode k_J_floorMod 1 = .ok (.iload_n 1, 1) := by decide +kernel
theorem d_J_floorMod_2 : decode k_J_floorMod 2 = .ok (.irem, 1) := by decide +kernel
theorem d_J_floorMod_3 : decode k_J_floorMod 3 = .ok (.istore_n 2, 1) := by decide +kernel
theorem d_J_floorMod_4 : decode k_J_floorMod 4 = .ok (.iload_n 0, 1) := by decide +kernel
theorem d_J_floorMod_5 : decode k_J_floorMod 5 = .ok (.iload_n 1, 1) := by decide +kernel
theorem d_J_floorMod_6 : decode k_J_floorMod 6 = .ok (.ixor, 1) := by decide +kernel
theorem d_J_floorMod_7 : decode k_J_floorMod 7 = .ok (.ifCond .ge 11, 3) := by decide +kernel
theorem d_J_floorMod_10 : decode k_J_floorMod 10 = .ok (.iload_n 2, 1) := by decide +kernel
theorem d_J_floorMod_11 : decode k_J_floorMod 11 = .ok (.ifCond .eq 7, 3) := by decide +kernel
theorem d_J_floorMod_14 : decode k_J_floorMod 14 = .ok (.iload_n 2, 1) := by decide +kernel
theorem d_J_floorMod_15 : decode k_J_floorMod 15 = .ok (.iload_n 1, 1) := by decide +kernel
theorem d_J_floorMod_16 : decode k_J_floorMod 16 = .ok (.iadd, 1) := by decide +kernel
theorem d_J_floorMod_17 : decode k_J_floorMod 17 = .ok (.ireturn, 1) := by decide +kernel
theorem d_J_floorMod_18 : decode k_J_floorMod 18 = .ok (.iload_n 2, 1) := by decide +kernel
theorem d_J_floorMod_19 : decode k_J_floorMod 19 = .ok (.ireturn, 1) := by decide +kernel
theorem d_A_fill_0 : decode k_A_fill 0 = .ok (.iconst 0, 1) := by decide +kernel
theorem d_A_fill_1 : decode k_A_fill 1 = .ok (.istore_n 2, 1) := by decide +kernel
theorem d_A_fill_2 : decode k_A_fill 2 = .ok (.aload_n 0, 1) := by decide +kernel
theorem d_A_fill_3 : decode k_A_fill 3 = .ok (.arraylength, 1) := by decide +kernel
theorem d_A_fill_4 : decode k_A_fill 4 = .ok (.istore_n 3, 1) := by decide +kernel
theorem d_A_fill_5 : decode k_A_fill 5 = .ok (.iload_n 2, 1) := by decide +kernel
theorem d_A_fill_6 : decode k_A_fill 6 = .ok (.iload_n 3, 1) := by decide +kernel
theorem d_A_fill_7 : decode k_A_fill 7 = .ok (.if_icmp .ge 13, 3) := by decide +kernel
theorem d_A_fill_10 : decode k_A_fill 10 = .ok (.aload_n 0, 1) := by decide +kernel
theorem d_A_fill_11 : decode k_A_fill 11 = .ok (.iload_n 2, 1) := by decide +kernel
theorem d_A_fill_12 : decode k_A_fill 12 = .ok (.iload_n 1, 1) := by decide +kernel
theorem d_A_fill_13 : decode k_A_fill 13 = .ok (.iastore, 1) := by decide +kernel
theorem d_A_fill_14 : decode k_A_fill 14 = .ok (.iinc 2 1, 3) := by decide +kernel
theorem d_A_fill_17 : decode k_A_fill 17 = .ok (.goto (-12), 3) := by decide +kernel
theorem d_A_fill_20 : decode k_A_fill 20 = .ok (.return_, 1) := by decide +kernel
