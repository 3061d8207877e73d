theorem d_L_gate_0 : decode b_L_gate 0 = .ok (.aload 6, 2) := by decide +kernel
theorem d_L_gate_2 : decode b_L_gate 2 = .ok (.iconst 0, 1) := by decide +kernel
theorem d_L_gate_3 : decode b_L_gate 3 = .ok (.aload_n 0, 1) := by decide +kernel
theorem d_L_gate_4 : decode b_L_gate 4 = .ok (.iload_n 1, 1) := by decide +kernel
theorem d_L_gate_5 : decode b_L_gate 5 = .ok (.iload_n 2, 1) := by decide +kernel
theorem d_L_gate_6 : decode b_L_gate 6 = .ok (.iload_n 3, 1) := by decide +kernel
theorem d_L_gate_7 : decode b_L_gate 7 = .ok (.iload 4, 2) := by decide +kernel
theorem d_L_gate_9 : decode b_L_gate 9 = .ok (.iload 5, 2) := by decide +kernel
theorem d_L_gate_11 : decode b_L_gate 11 = .ok (.invokevirtual 7, 3) := by decide +kernel
theorem d_L_gate_14 : decode b_L_gate 14 = .ok (.i2l, 1) := by decide +kernel
theorem d_L_gate_15 : decode b_L_gate 15 = .ok (.lastore, 1) := by decide +kernel
theorem d_L_gate_16 : decode b_L_gate 16 = .ok (.goto 11, 3) := by decide +kernel
theorem d_L_gate_19 : decode b_L_gate 19 = .ok (.astore 7, 2) := by decide +kernel
theorem d_L_gate_21 : decode b_L_gate 21 = .ok (.iconst 1, 1) := by decide +kernel
theorem d_L_gate_22 : decode b_L_gate 22 = .ok (.ireturn, 1) := by decide +kernel
theorem d_L_gate_23 : decode b_L_gate 23 = .ok (.astore 7, 2) := by decide +kernel
theorem d_L_gate_25 : decode b_L_gate 25 = .ok (.iconst 2, 1) := by decide +kernel
theorem d_L_gate_26 : decode b_L_gate 26 = .ok (.ireturn, 1) := by decide +kernel
theorem d_L_gate_27 : decode b_L_gate 27 = .ok (.iconst 0, 1) := by decide +kernel
theorem d_L_gate_28 : decode b_L_gate 28 = .ok (.ireturn, 1) := by decide +kernel
theorem d_L_route_0 : decode b_L_route 0 = .ok (.aload_n 1, 1) := by decide +kernel
theorem d_L_route_1 : decode b_L_route 1 = .ok (.iconst 0, 1) := by decide +kernel
theorem d_L_route_2 : decode b_L_route 2 = .ok (.aload_n 0, 1) := by decide +kernel
theorem d_L_route_3 : decode b_L_route 3 = .ok (.invokevirtual 17, 3) := by decide +kernel
theorem d_L_route_6 : decode b_L_route 6 = .ok (.i2l, 1) := by decide +kernel
theorem d_L_route_7 : decode b_L_route 7 = .ok (.lastore, 1) := by decide +kernel
theorem d_L_route_8 : decode b_L_route 8 = .ok (.goto 9, 3) := by decide +kernel
theorem d_L_route_11 : decode b_L_route 11 = .ok (.astore_n 2, 1) := by decide +kernel
theorem d_L_route_12 : decode b_L_route 12 = .ok (.iconst 1, 1) := by decide +kernel
theorem d_L_route_13 : decode b_L_route 13 = .ok (.ireturn, 1) := by decide +kernel
theorem d_L_route_14 : decode b_L_route 14 = .ok (.astore_n 2, 1) := by decide +kernel
theorem d_L_route_15 : decode b_L_route 15 = .ok (.iconst 2, 1) := by decide +kernel
theorem d_L_route_16 : decode b_L_route 16 = .ok (.ireturn, 1) := by decide +kernel
theorem d_L_route_17 : decode b_L_route 17 = .ok (.iconst 0, 1) := by decide +kernel
theorem d_L_route_18 : decode b_L_route 18 = .ok (.ireturn, 1) := by decide +kernel
theorem d_L_column_0 : decode b_L_column 0 = .ok (.aload_n 3, 1) := by decide +kernel
theorem d_L_column_1 : decode b_L_column 1 = .ok (.iconst 0, 1) := by decide +kernel
theorem d_L_column_2 : decode b_L_column 2 = .ok (.aload_n 0, 1) := by decide +kernel
theorem d_L_column_3 : decode b_L_column 3 = .ok (.iload_n 1, 1) := by decide +kernel
theorem d_L_column_4 : decode b_L_column 4 = .ok (.iload_n 2, 1) := by decide +kernel
theorem d_L_column_5 : decode b_L_column 5 = .ok (.invokevirtual 23, 3) := by decide +kernel
theorem d_L_column_8 : decode b_L_column 8 = .ok (.i2l, 1) := by decide +kernel
theorem d_L_column_9 : decode b_L_column 9 = .ok (.lastore, 1) := by decide +kernel
theorem d_L_column_10 : decode b_L_column 10 = .ok (.goto 7, 3) := by decide +kernel
theorem d_L_column_13 : decode b_L_column 13 = .ok (.astore 4, 2) := by decide +kernel
theorem d_L_column_15 : decode b_L_column 15 = .ok (.iconst 1, 1) := by decide +kernel
theorem d_L_column_16 : decode b_L_column 16 = .ok (.ireturn, 1) := by decide +kernel
theorem d_L_column_17 : decode b_L_column 17 = .ok (.iconst 0, 1) := by decide +kernel
theorem d_L_column_18 : decode b_L_column 18 = .ok (.ireturn, 1) := by decide +kernel
theorem d_L_net_0 : decode b_L_net 0 = .ok (.aload_n 3, 1) := by decide +kernel
theorem d_L_net_1 : decode b_L_net 1 = .ok (.iconst 0, 1) := by decide +kernel
theorem d_L_net_2 : decode b_L_net 2 = .ok (.aload_n 0, 1) := by decide +kernel
theorem d_L_net_3 : decode b_L_net 3 = .ok (.iload_n 1, 1) := by decide +kernel
theorem d_L_net_4 : decode b_L_net 4 = .ok (.iload_n 2, 1) := by decide +kernel
theorem d_L_net_5 : decode b_L_net 5 = .ok (.invokevirtual 29, 3) := by decide +kernel
theorem d_L_net_8 : decode b_L_net 8 = .ok (.i2l, 1) := by decide +kernel
theorem d_L_net_9 : decode b_L_net 9 = .ok (.lastore, 1) := by decide +kernel
theorem d_L_net_10 : decode b_L_net 10 = .ok (.goto 7, 3) := by decide +kernel
theorem d_L_net_13 : decode b_L_net 13 = .ok (.astore 4, 2) := by decide +kernel
theorem d_L_net_15 : decode b_L_net 15 = .ok (.iconst 1, 1) := by decide +kernel
theorem d_L_net_16 : decode b_L_net 16 = .ok (.ireturn, 1) := by decide +kernel
theorem d_L_net_17 : decode b_L_net 17 = .ok (.iconst 0, 1) := by decide +kernel
theorem d_L_net_18 : decode b_L_net 18 = .ok (.ireturn, 1) := by decide +kernel
theorem d_L_mask_0 : decode b_L_mask 0 = .ok (.aload_n 3, 1) := by decide +kernel
theorem d_L_mask_1 : decode b_L_mask 1 = .ok (.iconst 0, 1) := by decide +kernel
theorem d_L_mask_2 : decode b_L_mask 2 = .ok (.aload_n 0, 1) := by decide +kernel
theorem d_L_mask_3 : decode b_L_mask 3 = .ok (.iload_n 1, 1) := by decide +kernel
theorem d_L_mask_4 : decode b_L_mask 4 = .ok (.iload_n 2, 1) := by decide +kernel
theorem d_L_mask_5 : decode b_L_mask 5 = .ok (.invokevirtual 32, 3) := by decide +kernel
theorem d_L_mask_8 : decode b_L_mask 8 = .ok (.i2l, 1) := by decide +kernel
theorem d_L_mask_9 : decode b_L_mask 9 = .ok (.lastore, 1) := by decide +kernel
theorem d_L_mask_10 : decode b_L_mask 10 = .ok (.goto 11, 3) := by decide +kernel
theorem d_L_mask_13 : decode b_L_mask 13 = .ok (.astore 4, 2) := by decide +kernel
theorem d_L_mask_15 : decode b_L_mask 15 = .ok (.iconst 1, 1) := by decide +kernel
theorem d_L_mask_16 : decode b_L_mask 16 = .ok (.ireturn, 1) := by decide +kernel
theorem d_L_mask_17 : decode b_L_mask 17 = .ok (.astore 4, 2) := by decide +kernel
theorem d_L_mask_19 : decode b_L_mask 19 = .ok (.iconst 2, 1) := by decide +kernel
theorem d_L_mask_20 : decode b_L_mask 20 = .ok (.ireturn, 1) := by decide +kernel
theorem d_L_mask_21 : decode b_L_mask 21 = .ok (.iconst 0, 1) := by decide +kernel
theorem d_L_mask_22 : decode b_L_mask 22 = .ok (.ireturn, 1) := by decide +kernel
theorem d_L_damage_0 : decode b_L_damage 0 = .ok (.aload 4, 2) := by decide +kernel
theorem d_L_damage_2 : decode b_L_damage 2 = .ok (.iconst 0, 1) := by decide +kernel
theorem d_L_damage_3 : decode b_L_damage 3 = .ok (.aload_n 0, 1) := by decide +kernel
theorem d_L_damage_4 : decode b_L_damage 4 = .ok (.iload_n 1, 1) := by decide +kernel
theorem d_L_damage_5 : decode b_L_damage 5 = .ok (.iload_n 2, 1) := by decide +kernel
theorem d_L_damage_6 : decode b_L_damage 6 = .ok (.iload_n 3, 1) := by decide +kernel
theorem d_L_damage_7 : decode b_L_damage 7 = .ok (.invokevirtual 35, 3) := by decide +kernel
theorem d_L_damage_10 : decode b_L_damage 10 = .ok (.i2l, 1) := by decide +kernel
theorem d_L_damage_11 : decode b_L_damage 11 = .ok (.lastore, 1) := by decide +kernel
theorem d_L_damage_12 : decode b_L_damage 12 = .ok (.goto 15, 3) := by decide +kernel
theorem d_L_damage_15 : decode b_L_damage 15 = .ok (.astore 5, 2) := by decide +kernel
theorem d_L_damage_17 : decode b_L_damage 17 = .ok (.iconst 1, 1) := by decide +kernel
theorem d_L_damage_18 : decode b_L_damage 18 = .ok (.ireturn, 1) := by decide +kernel
theorem d_L_damage_19 : decode b_L_damage 19 = .ok (.astore 5, 2) := by decide +kernel
theorem d_L_damage_21 : decode b_L_damage 21 = .ok (.iconst 2, 1) := by decide +kernel
theorem d_L_damage_22 : decode b_L_damage 22 = .ok (.ireturn, 1) := by decide +kernel
theorem d_L_damage_23 : decode b_L_damage 23 = .ok (.astore 5, 2) := by decide +kernel
theorem d_L_damage_25 : decode b_L_damage 25 = .ok (.iconst 3, 1) := by decide +kernel
theorem d_L_damage_26 : decode b_L_damage 26 = .ok (.ireturn, 1) := by decide +kernel
theorem d_L_damage_27 : decode b_L_damage 27 = .ok (.iconst 0, 1) := by decide +kernel
theorem d_L_damage_28 : decode b_L_damage 28 = .ok (.ireturn, 1) := by decide +kernel
theorem d_L_joined_0 : decode b_L_joined 0 = .ok (.aload 5, 2) := by decide +kernel
theorem d_L_joined_2 : decode b_L_joined 2 = .ok (.iconst 0, 1) := by decide +kernel
theorem d_L_joined_3 : decode b_L_joined 3 = .ok (.aload_n 0, 1) := by decide +kernel
theorem d_L_joined_4 : decode b_L_joined 4 = .ok (.iload_n 1, 1) := by decide +kernel
theorem d_L_joined_5 : decode b_L_joined 5 = .ok (.iload_n 2, 1) := by decide +kernel
theorem d_L_joined_6 : decode b_L_joined 6 = .ok (.iload_n 3, 1) := by decide +kernel
theorem d_L_joined_7 : decode b_L_joined 7 = .ok (.iload 4, 2) := by decide +kernel
theorem d_L_joined_9 : decode b_L_joined 9 = .ok (.invokevirtual 39, 3) := by decide +kernel
theorem d_L_joined_12 : decode b_L_joined 12 = .ok (.ifCond .eq 7, 3) := by decide +kernel
theorem d_L_joined_15 : decode b_L_joined 15 = .ok (.lconst 1, 1) := by decide +kernel
theorem d_L_joined_16 : decode b_L_joined 16 = .ok (.goto 4, 3) := by decide +kernel
theorem d_L_joined_19 : decode b_L_joined 19 = .ok (.lconst 0, 1) := by decide +kernel
theorem d_L_joined_20 : decode b_L_joined 20 = .ok (.lastore, 1) := by decide +kernel
theorem d_L_joined_21 : decode b_L_joined 21 = .ok (.goto 11, 3) := by decide +kernel
theorem d_L_joined_24 : decode b_L_joined 24 = .ok (.astore 6, 2) := by decide +kernel
theorem d_L_joined_26 : decode b_L_joined 26 = .ok (.iconst 1, 1) := by decide +kernel
theorem d_L_joined_27 : decode b_L_joined 27 = .ok (.ireturn, 1) := by decide +kernel
theorem d_L_joined_28 : decode b_L_joined 28 = .ok (.astore 6, 2) := by decide +kernel
theorem d_L_joined_30 : decode b_L_joined 30 = .ok (.iconst 2, 1) := by decide +kernel
theorem d_L_joined_31 : decode b_L_joined 31 = .ok (.ireturn, 1) := by decide +kernel
theorem d_L_joined_32 : decode b_L_joined 32 = .ok (.iconst 0, 1) := by decide +kernel
theorem d_L_joined_33 : decode b_L_joined 33 = .ok (.ireturn, 1) := by decide +kernel
theorem d_L_faults_0 : decode b_L_faults 0 = .ok (.aload_n 2, 1) := by decide +kernel
theorem d_L_faults_1 : decode b_L_faults 1 = .ok (.iconst 0, 1) := by decide +kernel
theorem d_L_faults_2 : decode b_L_faults 2 = .ok (.aload_n 0, 1) := by decide +kernel
theorem d_L_faults_3 : decode b_L_faults 3 = .ok (.iload_n 1, 1) := by decide +kernel
theorem d_L_faults_4 : decode b_L_faults 4 = .ok (.invokevirtual 43, 3) := by decide +kernel
theorem d_L_faults_7 : decode b_L_faults 7 = .ok (.i2l, 1) := by decide +kernel
theorem d_L_faults_8 : decode b_L_faults 8 = .ok (.lastore, 1) := by decide +kernel
theorem d_L_faults_9 : decode b_L_faults 9 = .ok (.goto 6, 3) := by decide +kernel
theorem d_L_faults_12 : decode b_L_faults 12 = .ok (.astore_n 3, 1) := by decide +kernel
theorem d_L_faults_13 : decode b_L_faults 13 = .ok (.iconst 1, 1) := by decide +kernel
theorem d_L_faults_14 : decode b_L_faults 14 = .ok (.ireturn, 1) := by decide +kernel
theorem d_L_faults_15 : decode b_L_faults 15 = .ok (.iconst 0, 1) := by decide +kernel
theorem d_L_faults_16 : decode b_L_faults 16 = .ok (.ireturn, 1) := by decide +kernel
theorem d_L_time_0 : decode b_L_time 0 = .ok (.aload 4, 2) := by decide +kernel
theorem d_L_time_2 : decode b_L_time 2 = .ok (.iconst 0, 1) := by decide +kernel
theorem d_L_time_3 : decode b_L_time 3 = .ok (.aload_n 0, 1) := by decide +kernel
theorem d_L_time_4 : decode b_L_time 4 = .ok (.iload_n 1, 1) := by decide +kernel
theorem d_L_time_5 : decode b_L_time 5 = .ok (.dload_n 2, 1) := by decide +kernel
theorem d_L_time_6 : decode b_L_time 6 = .ok (.invokevirtual 47, 3) := by decide +kernel
theorem d_L_time_9 : decode b_L_time 9 = .ok (.dastore, 1) := by decide +kernel
theorem d_L_time_10 : decode b_L_time 10 = .ok (.goto 7, 3) := by decide +kernel
theorem d_L_time_13 : decode b_L_time 13 = .ok (.astore 5, 2) := by decide +kernel
theorem d_L_time_15 : decode b_L_time 15 = .ok (.iconst 1, 1) := by decide +kernel
theorem d_L_time_16 : decode b_L_time 16 = .ok (.ireturn, 1) := by decide +kernel
theorem d_L_time_17 : decode b_L_time 17 = .ok (.iconst 0, 1) := by decide +kernel
theorem d_L_time_18 : decode b_L_time 18 = .ok (.ireturn, 1) := by decide +kernel
theorem d_L_delay_0 : decode b_L_delay 0 = .ok (.aload_n 2, 1) := by decide +kernel
theorem d_L_delay_1 : decode b_L_delay 1 = .ok (.iconst 0, 1) := by decide +kernel
theorem d_L_delay_2 : decode b_L_delay 2 = .ok (.aload_n 0, 1) := by decide +kernel
theorem d_L_delay_3 : decode b_L_delay 3 = .ok (.iload_n 1, 1) := by decide +kernel
theorem d_L_delay_4 : decode b_L_delay 4 = .ok (.invokevirtual 51, 3) := by decide +kernel
theorem d_L_delay_7 : decode b_L_delay 7 = .ok (.dastore, 1) := by decide +kernel
theorem d_L_delay_8 : decode b_L_delay 8 = .ok (.goto 9, 3) := by decide +kernel
theorem d_L_delay_11 : decode b_L_delay 11 = .ok (.astore_n 3, 1) := by decide +kernel
theorem d_L_delay_12 : decode b_L_delay 12 = .ok (.iconst 1, 1) := by decide +kernel
theorem d_L_delay_13 : decode b_L_delay 13 = .ok (.ireturn, 1) := by decide +kernel
theorem d_L_delay_14 : decode b_L_delay 14 = .ok (.astore_n 3, 1) := by decide +kernel
theorem d_L_delay_15 : decode b_L_delay 15 = .ok (.iconst 2, 1) := by decide +kernel
theorem d_L_delay_16 : decode b_L_delay 16 = .ok (.ireturn, 1) := by decide +kernel
theorem d_L_delay_17 : decode b_L_delay 17 = .ok (.iconst 0, 1) := by decide +kernel
theorem d_L_delay_18 : decode b_L_delay 18 = .ok (.ireturn, 1) := by decide +kernel
theorem d_L_arrival_0 : decode b_L_arrival 0 = .ok (.aload_n 2, 1) := by decide +kernel
theorem d_L_arrival_1 : decode b_L_arrival 1 = .ok (.iconst 0, 1) := by decide +kernel
theorem d_L_arrival_2 : decode b_L_arrival 2 = .ok (.aload_n 0, 1) := by decide +kernel
theorem d_L_arrival_3 : decode b_L_arrival 3 = .ok (.iload_n 1, 1) := by decide +kernel
theorem d_L_arrival_4 : decode b_L_arrival 4 = .ok (.invokevirtual 55, 3) := by decide +kernel
theorem d_L_arrival_7 : decode b_L_arrival 7 = .ok (.dastore, 1) := by decide +kernel
theorem d_L_arrival_8 : decode b_L_arrival 8 = .ok (.goto 12, 3) := by decide +kernel
theorem d_L_arrival_11 : decode b_L_arrival 11 = .ok (.astore_n 3, 1) := by decide +kernel
theorem d_L_arrival_12 : decode b_L_arrival 12 = .ok (.iconst 1, 1) := by decide +kernel
theorem d_L_arrival_13 : decode b_L_arrival 13 = .ok (.ireturn, 1) := by decide +kernel
theorem d_L_arrival_14 : decode b_L_arrival 14 = .ok (.astore_n 3, 1) := by decide +kernel
theorem d_L_arrival_15 : decode b_L_arrival 15 = .ok (.iconst 2, 1) := by decide +kernel
theorem d_L_arrival_16 : decode b_L_arrival 16 = .ok (.ireturn, 1) := by decide +kernel
theorem d_L_arrival_17 : decode b_L_arrival 17 = .ok (.astore_n 3, 1) := by decide +kernel
theorem d_L_arrival_18 : decode b_L_arrival 18 = .ok (.iconst 3, 1) := by decide +kernel
theorem d_L_arrival_19 : decode b_L_arrival 19 = .ok (.ireturn, 1) := by decide +kernel
theorem d_L_arrival_20 : decode b_L_arrival 20 = .ok (.iconst 0, 1) := by decide +kernel
theorem d_L_arrival_21 : decode b_L_arrival 21 = .ok (.ireturn, 1) := by decide +kernel
theorem d_L_simulate_0 : decode b_L_simulate 0 = .ok (.aload_n 2, 1) := by decide +kernel
theorem d_L_simulate_1 : decode b_L_simulate 1 = .ok (.iconst 0, 1) := by decide +kernel
theorem d_L_simulate_2 : decode b_L_simulate 2 = .ok (.aload_n 0, 1) := by decide +kernel
theorem d_L_simulate_3 : decode b_L_simulate 3 = .ok (.iload_n 1, 1) := by decide +kernel
theorem d_L_simulate_4 : decode b_L_simulate 4 = .ok (.invokevirtual 60, 3) := by decide +kernel
theorem d_L_simulate_7 : decode b_L_simulate 7 = .ok (.i2l, 1) := by decide +kernel
theorem d_L_simulate_8 : decode b_L_simulate 8 = .ok (.lastore, 1) := by decide +kernel
theorem d_L_simulate_9 : decode b_L_simulate 9 = .ok (.goto 6, 3) := by decide +kernel
theorem d_L_simulate_12 : decode b_L_simulate 12 = .ok (.astore_n 3, 1) := by decide +kernel
theorem d_L_simulate_13 : decode b_L_simulate 13 = .ok (.iconst 1, 1) := by decide +kernel
theorem d_L_simulate_14 : decode b_L_simulate 14 = .ok (.ireturn, 1) := by decide +kernel
theorem d_L_simulate_15 : decode b_L_simulate 15 = .ok (.iconst 0, 1) := by decide +kernel
theorem d_L_simulate_16 : decode b_L_simulate 16 = .ok (.ireturn, 1) := by decide +kernel
theorem d_L_count_0 : decode b_L_count 0 = .ok (.aload_n 2, 1) := by decide +kernel
theorem d_L_count_1 : decode b_L_count 1 = .ok (.iconst 0, 1) := by decide +kernel
theorem d_L_count_2 : decode b_L_count 2 = .ok (.aload_n 0, 1) := by decide +kernel
theorem d_L_count_3 : decode b_L_count 3 = .ok (.iload_n 1, 1) := by decide +kernel
theorem d_L_count_4 : decode b_L_count 4 = .ok (.invokevirtual 64, 3) := by decide +kernel
theorem d_L_count_7 : decode b_L_count 7 = .ok (.i2l, 1) := by decide +kernel
theorem d_L_count_8 : decode b_L_count 8 = .ok (.lastore, 1) := by decide +kernel
theorem d_L_count_9 : decode b_L_count 9 = .ok (.goto 6, 3) := by decide +kernel
theorem d_L_count_12 : decode b_L_count 12 = .ok (.astore_n 3, 1) := by decide +kernel
theorem d_L_count_13 : decode b_L_count 13 = .ok (.iconst 1, 1) := by decide +kernel
theorem d_L_count_14 : decode b_L_count 14 = .ok (.ireturn, 1) := by decide +kernel
theorem d_L_count_15 : decode b_L_count 15 = .ok (.iconst 0, 1) := by decide +kernel
theorem d_L_count_16 : decode b_L_count 16 = .ok (.ireturn, 1) := by decide +kernel
theorem d_JI_bitCount_0 : decode b_JI_bitCount 0 = .ok (.iload_n 0, 1) := by decide +kernel
theorem d_JI_bitCount_1 : decode b_JI_bitCount 1 = .ok (.iload_n 0, 1) := by decide +kernel
theorem d_JI_bitCount_2 : decode b_JI_bitCount 2 = .ok (.iconst 1, 1) := by decide +kernel
theorem d_JI_bitCount_3 : decode b_JI_bitCount 3 = .ok (.iushr, 1) := by decide +kernel
theorem d_JI_bitCount_4 : decode b_JI_bitCount 4 = .ok (.ldc_w 265, 3) := by decide +kernel
theorem d_JI_bitCount_7 : decode b_JI_bitCount 7 = .ok (.iand, 1) := by decide +kernel
theorem d_JI_bitCount_8 : decode b_JI_bitCount 8 = .ok (.isub, 1) := by decide +kernel
theorem d_JI_bitCount_9 : decode b_JI_bitCount 9 = .ok (.istore_n 0, 1) := by decide +kernel
theorem d_JI_bitCount_10 : decode b_JI_bitCount 10 = .ok (.iload_n 0, 1) := by decide +kernel
theorem d_JI_bitCount_11 : decode b_JI_bitCount 11 = .ok (.ldc_w 266, 3) := by decide +kernel
theorem d_JI_bitCount_14 : decode b_JI_bitCount 14 = .ok (.iand, 1) := by decide +kernel
theorem d_JI_bitCount_15 : decode b_JI_bitCount 15 = .ok (.iload_n 0, 1) := by decide +kernel
theorem d_JI_bitCount_16 : decode b_JI_bitCount 16 = .ok (.iconst 2, 1) := by decide +kernel
theorem d_JI_bitCount_17 : decode b_JI_bitCount 17 = .ok (.iushr, 1) := by decide +kernel
theorem d_JI_bitCount_18 : decode b_JI_bitCount 18 = .ok (.ldc_w 266, 3) := by decide +kernel
theorem d_JI_bitCount_21 : decode b_JI_bitCount 21 = .ok (.iand, 1) := by decide +kernel
theorem d_JI_bitCount_22 : decode b_JI_bitCount 22 = .ok (.iadd, 1) := by decide +kernel
theorem d_JI_bitCount_23 : decode b_JI_bitCount 23 = .ok (.istore_n 0, 1) := by decide +kernel
theorem d_JI_bitCount_24 : decode b_JI_bitCount 24 = .ok (.iload_n 0, 1) := by decide +kernel
theorem d_JI_bitCount_25 : decode b_JI_bitCount 25 = .ok (.iload_n 0, 1) := by decide +kernel
theorem d_JI_bitCount_26 : decode b_JI_bitCount 26 = .ok (.iconst 4, 1) := by decide +kernel
theorem d_JI_bitCount_27 : decode b_JI_bitCount 27 = .ok (.iushr, 1) := by decide +kernel
theorem d_JI_bitCount_28 : decode b_JI_bitCount 28 = .ok (.iadd, 1) := by decide +kernel
theorem d_JI_bitCount_29 : decode b_JI_bitCount 29 = .ok (.ldc_w 267, 3) := by decide +kernel
theorem d_JI_bitCount_32 : decode b_JI_bitCount 32 = .ok (.iand, 1) := by decide +kernel
theorem d_JI_bitCount_33 : decode b_JI_bitCount 33 = .ok (.istore_n 0, 1) := by decide +kernel
theorem d_JI_bitCount_34 : decode b_JI_bitCount 34 = .ok (.iload_n 0, 1) := by decide +kernel
theorem d_JI_bitCount_35 : decode b_JI_bitCount 35 = .ok (.iload_n 0, 1) := by decide +kernel
theorem d_JI_bitCount_36 : decode b_JI_bitCount 36 = .ok (.bipush 8, 2) := by decide +kernel
theorem d_JI_bitCount_38 : decode b_JI_bitCount 38 = .ok (.iushr, 1) := by decide +kernel
theorem d_JI_bitCount_39 : decode b_JI_bitCount 39 = .ok (.iadd, 1) := by decide +kernel
theorem d_JI_bitCount_40 : decode b_JI_bitCount 40 = .ok (.istore_n 0, 1) := by decide +kernel
theorem d_JI_bitCount_41 : decode b_JI_bitCount 41 = .ok (.iload_n 0, 1) := by decide +kernel
theorem d_JI_bitCount_42 : decode b_JI_bitCount 42 = .ok (.iload_n 0, 1) := by decide +kernel
theorem d_JI_bitCount_43 : decode b_JI_bitCount 43 = .ok (.bipush 16, 2) := by decide +kernel
theorem d_JI_bitCount_45 : decode b_JI_bitCount 45 = .ok (.iushr, 1) := by decide +kernel
theorem d_JI_bitCount_46 : decode b_JI_bitCount 46 = .ok (.iadd, 1) := by decide +kernel
theorem d_JI_bitCount_47 : decode b_JI_bitCount 47 = .ok (.istore_n 0, 1) := by decide +kernel
theorem d_JI_bitCount_48 : decode b_JI_bitCount 48 = .ok (.iload_n 0, 1) := by decide +kernel
theorem d_JI_bitCount_49 : decode b_JI_bitCount 49 = .ok (.bipush 63, 2) := by decide +kernel
theorem d_JI_bitCount_51 : decode b_JI_bitCount 51 = .ok (.iand, 1) := by decide +kernel
theorem d_JI_bitCount_52 : decode b_JI_bitCount 52 = .ok (.ireturn, 1) := by decide +kernel
theorem d_JA_fill_0 : decode b_JA_fill 0 = .ok (.iconst 0, 1) := by decide +kernel
theorem d_JA_fill_1 : decode b_JA_fill 1 = .ok (.istore_n 2, 1) := by decide +kernel
theorem d_JA_fill_2 : decode b_JA_fill 2 = .ok (.aload_n 0, 1) := by decide +kernel
theorem d_JA_fill_3 : decode b_JA_fill 3 = .ok (.arraylength, 1) := by decide +kernel
theorem d_JA_fill_4 : decode b_JA_fill 4 = .ok (.istore_n 3, 1) := by decide +kernel
theorem d_JA_fill_5 : decode b_JA_fill 5 = .ok (.iload_n 2, 1) := by decide +kernel
theorem d_JA_fill_6 : decode b_JA_fill 6 = .ok (.iload_n 3, 1) := by decide +kernel
theorem d_JA_fill_7 : decode b_JA_fill 7 = .ok (.if_icmp .ge 13, 3) := by decide +kernel
theorem d_JA_fill_10 : decode b_JA_fill 10 = .ok (.aload_n 0, 1) := by decide +kernel
theorem d_JA_fill_11 : decode b_JA_fill 11 = .ok (.iload_n 2, 1) := by decide +kernel
theorem d_JA_fill_12 : decode b_JA_fill 12 = .ok (.iload_n 1, 1) := by decide +kernel
theorem d_JA_fill_13 : decode b_JA_fill 13 = .ok (.iastore, 1) := by decide +kernel
theorem d_JA_fill_14 : decode b_JA_fill 14 = .ok (.iinc 2 1, 3) := by decide +kernel
theorem d_JA_fill_17 : decode b_JA_fill 17 = .ok (.goto (-12), 3) := by decide +kernel
theorem d_JA_fill_20 : decode b_JA_fill 20 = .ok (.return_, 1) := by decide +kernel
