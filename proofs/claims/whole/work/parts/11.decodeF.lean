theorem d_F_init_0 : decode b_F_init 0 = .ok (.aload_n 0, 1) := by decide +kernel
theorem d_F_init_1 : decode b_F_init 1 = .ok (.invokespecial 3, 3) := by decide +kernel
theorem d_F_init_4 : decode b_F_init 4 = .ok (.aload_n 0, 1) := by decide +kernel
theorem d_F_init_5 : decode b_F_init 5 = .ok (.new 9, 3) := by decide +kernel
theorem d_F_init_8 : decode b_F_init 8 = .ok (.dup, 1) := by decide +kernel
theorem d_F_init_9 : decode b_F_init 9 = .ok (.invokespecial 11, 3) := by decide +kernel
theorem d_F_init_12 : decode b_F_init 12 = .ok (.putfield 12, 3) := by decide +kernel
theorem d_F_init_15 : decode b_F_init 15 = .ok (.aload_n 0, 1) := by decide +kernel
theorem d_F_init_16 : decode b_F_init 16 = .ok (.new 16, 3) := by decide +kernel
theorem d_F_init_19 : decode b_F_init 19 = .ok (.dup, 1) := by decide +kernel
theorem d_F_init_20 : decode b_F_init 20 = .ok (.aload_n 0, 1) := by decide +kernel
theorem d_F_init_21 : decode b_F_init 21 = .ok (.getfield 12, 3) := by decide +kernel
theorem d_F_init_24 : decode b_F_init 24 = .ok (.invokespecial 18, 3) := by decide +kernel
theorem d_F_init_27 : decode b_F_init 27 = .ok (.putfield 21, 3) := by decide +kernel
theorem d_F_init_30 : decode b_F_init 30 = .ok (.aload_n 0, 1) := by decide +kernel
theorem d_F_init_31 : decode b_F_init 31 = .ok (.new 25, 3) := by decide +kernel
theorem d_F_init_34 : decode b_F_init 34 = .ok (.dup, 1) := by decide +kernel
theorem d_F_init_35 : decode b_F_init 35 = .ok (.aload_n 0, 1) := by decide +kernel
theorem d_F_init_36 : decode b_F_init 36 = .ok (.getfield 12, 3) := by decide +kernel
theorem d_F_init_39 : decode b_F_init 39 = .ok (.aload_n 0, 1) := by decide +kernel
theorem d_F_init_40 : decode b_F_init 40 = .ok (.getfield 21, 3) := by decide +kernel
theorem d_F_init_43 : decode b_F_init 43 = .ok (.invokespecial 27, 3) := by decide +kernel
theorem d_F_init_46 : decode b_F_init 46 = .ok (.putfield 30, 3) := by decide +kernel
theorem d_F_init_49 : decode b_F_init 49 = .ok (.aload_n 0, 1) := by decide +kernel
theorem d_F_init_50 : decode b_F_init 50 = .ok (.new 34, 3) := by decide +kernel
theorem d_F_init_53 : decode b_F_init 53 = .ok (.dup, 1) := by decide +kernel
theorem d_F_init_54 : decode b_F_init 54 = .ok (.aload_n 0, 1) := by decide +kernel
theorem d_F_init_55 : decode b_F_init 55 = .ok (.getfield 12, 3) := by decide +kernel
theorem d_F_init_58 : decode b_F_init 58 = .ok (.aload_n 0, 1) := by decide +kernel
theorem d_F_init_59 : decode b_F_init 59 = .ok (.getfield 21, 3) := by decide +kernel
theorem d_F_init_62 : decode b_F_init 62 = .ok (.invokespecial 36, 3) := by decide +kernel
theorem d_F_init_65 : decode b_F_init 65 = .ok (.putfield 37, 3) := by decide +kernel
theorem d_F_init_68 : decode b_F_init 68 = .ok (.aload_n 0, 1) := by decide +kernel
theorem d_F_init_69 : decode b_F_init 69 = .ok (.iconst 0, 1) := by decide +kernel
theorem d_F_init_70 : decode b_F_init 70 = .ok (.putfield 41, 3) := by decide +kernel
theorem d_F_init_73 : decode b_F_init 73 = .ok (.return_, 1) := by decide +kernel
theorem d_F_gate_0 : decode b_F_gate 0 = .ok (.iload_n 1, 1) := by decide +kernel
theorem d_F_gate_1 : decode b_F_gate 1 = .ok (.iconst 4, 1) := by decide +kernel
theorem d_F_gate_2 : decode b_F_gate 2 = .ok (.invokestatic 45, 3) := by decide +kernel
theorem d_F_gate_5 : decode b_F_gate 5 = .ok (.ifCond .eq 31, 3) := by decide +kernel
theorem d_F_gate_8 : decode b_F_gate 8 = .ok (.iload_n 2, 1) := by decide +kernel
theorem d_F_gate_9 : decode b_F_gate 9 = .ok (.bipush 12, 2) := by decide +kernel
theorem d_F_gate_11 : decode b_F_gate 11 = .ok (.invokestatic 45, 3) := by decide +kernel
theorem d_F_gate_14 : decode b_F_gate 14 = .ok (.ifCond .eq 22, 3) := by decide +kernel
theorem d_F_gate_17 : decode b_F_gate 17 = .ok (.iload 4, 2) := by decide +kernel
theorem d_F_gate_19 : decode b_F_gate 19 = .ok (.bipush 12, 2) := by decide +kernel
theorem d_F_gate_21 : decode b_F_gate 21 = .ok (.invokestatic 45, 3) := by decide +kernel
theorem d_F_gate_24 : decode b_F_gate 24 = .ok (.ifCond .eq 12, 3) := by decide +kernel
theorem d_F_gate_27 : decode b_F_gate 27 = .ok (.iload 5, 2) := by decide +kernel
theorem d_F_gate_29 : decode b_F_gate 29 = .ok (.iconst 2, 1) := by decide +kernel
theorem d_F_gate_30 : decode b_F_gate 30 = .ok (.invokestatic 45, 3) := by decide +kernel
theorem d_F_gate_33 : decode b_F_gate 33 = .ok (.ifCond .ne 13, 3) := by decide +kernel
theorem d_F_gate_36 : decode b_F_gate 36 = .ok (.new 49, 3) := by decide +kernel
theorem d_F_gate_39 : decode b_F_gate 39 = .ok (.dup, 1) := by decide +kernel
theorem d_F_gate_40 : decode b_F_gate 40 = .ok (.ldc 51, 2) := by decide +kernel
theorem d_F_gate_42 : decode b_F_gate 42 = .ok (.invokespecial 53, 3) := by decide +kernel
theorem d_F_gate_45 : decode b_F_gate 45 = .ok (.athrow, 1) := by decide +kernel
theorem d_F_gate_46 : decode b_F_gate 46 = .ok (.iload_n 1, 1) := by decide +kernel
theorem d_F_gate_47 : decode b_F_gate 47 = .ok (.invokestatic 56, 3) := by decide +kernel
theorem d_F_gate_50 : decode b_F_gate 50 = .ok (.istore 6, 2) := by decide +kernel
theorem d_F_gate_52 : decode b_F_gate 52 = .ok (.iload 6, 2) := by decide +kernel
theorem d_F_gate_54 : decode b_F_gate 54 = .ok (.ifCond .ne 22, 3) := by decide +kernel
theorem d_F_gate_57 : decode b_F_gate 57 = .ok (.iload_n 3, 1) := by decide +kernel
theorem d_F_gate_58 : decode b_F_gate 58 = .ok (.bipush 12, 2) := by decide +kernel
theorem d_F_gate_60 : decode b_F_gate 60 = .ok (.invokestatic 45, 3) := by decide +kernel
theorem d_F_gate_63 : decode b_F_gate 63 = .ok (.ifCond .ne 13, 3) := by decide +kernel
theorem d_F_gate_66 : decode b_F_gate 66 = .ok (.new 49, 3) := by decide +kernel
theorem d_F_gate_69 : decode b_F_gate 69 = .ok (.dup, 1) := by decide +kernel
theorem d_F_gate_70 : decode b_F_gate 70 = .ok (.ldc 60, 2) := by decide +kernel
theorem d_F_gate_72 : decode b_F_gate 72 = .ok (.invokespecial 53, 3) := by decide +kernel
theorem d_F_gate_75 : decode b_F_gate 75 = .ok (.athrow, 1) := by decide +kernel
theorem d_F_gate_76 : decode b_F_gate 76 = .ok (.aload_n 0, 1) := by decide +kernel
theorem d_F_gate_77 : decode b_F_gate 77 = .ok (.getfield 12, 3) := by decide +kernel
theorem d_F_gate_80 : decode b_F_gate 80 = .ok (.iload_n 1, 1) := by decide +kernel
theorem d_F_gate_81 : decode b_F_gate 81 = .ok (.iload 5, 2) := by decide +kernel
theorem d_F_gate_83 : decode b_F_gate 83 = .ok (.invokevirtual 62, 3) := by decide +kernel
theorem d_F_gate_86 : decode b_F_gate 86 = .ok (.ifCond .eq 15, 3) := by decide +kernel
theorem d_F_gate_89 : decode b_F_gate 89 = .ok (.aload_n 0, 1) := by decide +kernel
theorem d_F_gate_90 : decode b_F_gate 90 = .ok (.getfield 12, 3) := by decide +kernel
theorem d_F_gate_93 : decode b_F_gate 93 = .ok (.iload 4, 2) := by decide +kernel
theorem d_F_gate_95 : decode b_F_gate 95 = .ok (.invokevirtual 65, 3) := by decide +kernel
theorem d_F_gate_98 : decode b_F_gate 98 = .ok (.ifCond .eq 13, 3) := by decide +kernel
theorem d_F_gate_101 : decode b_F_gate 101 = .ok (.new 68, 3) := by decide +kernel
theorem d_F_gate_104 : decode b_F_gate 104 = .ok (.dup, 1) := by decide +kernel
theorem d_F_gate_105 : decode b_F_gate 105 = .ok (.ldc 70, 2) := by decide +kernel
theorem d_F_gate_107 : decode b_F_gate 107 = .ok (.invokespecial 72, 3) := by decide +kernel
theorem d_F_gate_110 : decode b_F_gate 110 = .ok (.athrow, 1) := by decide +kernel
theorem d_F_gate_111 : decode b_F_gate 111 = .ok (.aload_n 0, 1) := by decide +kernel
theorem d_F_gate_112 : decode b_F_gate 112 = .ok (.iconst 0, 1) := by decide +kernel
theorem d_F_gate_113 : decode b_F_gate 113 = .ok (.putfield 41, 3) := by decide +kernel
theorem d_F_gate_116 : decode b_F_gate 116 = .ok (.aload_n 0, 1) := by decide +kernel
theorem d_F_gate_117 : decode b_F_gate 117 = .ok (.getfield 12, 3) := by decide +kernel
theorem d_F_gate_120 : decode b_F_gate 120 = .ok (.iload_n 1, 1) := by decide +kernel
theorem d_F_gate_121 : decode b_F_gate 121 = .ok (.iload_n 2, 1) := by decide +kernel
theorem d_F_gate_122 : decode b_F_gate 122 = .ok (.iload 6, 2) := by decide +kernel
theorem d_F_gate_124 : decode b_F_gate 124 = .ok (.ifCond .eq 7, 3) := by decide +kernel
theorem d_F_gate_127 : decode b_F_gate 127 = .ok (.iload_n 2, 1) := by decide +kernel
theorem d_F_gate_128 : decode b_F_gate 128 = .ok (.goto 4, 3) := by decide +kernel
theorem d_F_gate_131 : decode b_F_gate 131 = .ok (.iload_n 3, 1) := by decide +kernel
theorem d_F_gate_132 : decode b_F_gate 132 = .ok (.iload 4, 2) := by decide +kernel
theorem d_F_gate_134 : decode b_F_gate 134 = .ok (.iload 5, 2) := by decide +kernel
theorem d_F_gate_136 : decode b_F_gate 136 = .ok (.invokevirtual 73, 3) := by decide +kernel
theorem d_F_gate_139 : decode b_F_gate 139 = .ok (.ireturn, 1) := by decide +kernel
theorem d_F_clear_0 : decode b_F_clear 0 = .ok (.aload_n 0, 1) := by decide +kernel
theorem d_F_clear_1 : decode b_F_clear 1 = .ok (.getfield 12, 3) := by decide +kernel
theorem d_F_clear_4 : decode b_F_clear 4 = .ok (.getfield 77, 3) := by decide +kernel
theorem d_F_clear_7 : decode b_F_clear 7 = .ok (.istore_n 1, 1) := by decide +kernel
theorem d_F_clear_8 : decode b_F_clear 8 = .ok (.aload_n 0, 1) := by decide +kernel
theorem d_F_clear_9 : decode b_F_clear 9 = .ok (.getfield 12, 3) := by decide +kernel
theorem d_F_clear_12 : decode b_F_clear 12 = .ok (.invokevirtual 81, 3) := by decide +kernel
theorem d_F_clear_15 : decode b_F_clear 15 = .ok (.aload_n 0, 1) := by decide +kernel
theorem d_F_clear_16 : decode b_F_clear 16 = .ok (.iconst 0, 1) := by decide +kernel
theorem d_F_clear_17 : decode b_F_clear 17 = .ok (.putfield 41, 3) := by decide +kernel
theorem d_F_clear_20 : decode b_F_clear 20 = .ok (.iload_n 1, 1) := by decide +kernel
theorem d_F_clear_21 : decode b_F_clear 21 = .ok (.ireturn, 1) := by decide +kernel
theorem d_F_route_0 : decode b_F_route 0 = .ok (.aload_n 0, 1) := by decide +kernel
theorem d_F_route_1 : decode b_F_route 1 = .ok (.iconst 0, 1) := by decide +kernel
theorem d_F_route_2 : decode b_F_route 2 = .ok (.putfield 41, 3) := by decide +kernel
theorem d_F_route_5 : decode b_F_route 5 = .ok (.aload_n 0, 1) := by decide +kernel
theorem d_F_route_6 : decode b_F_route 6 = .ok (.getfield 21, 3) := by decide +kernel
theorem d_F_route_9 : decode b_F_route 9 = .ok (.invokevirtual 84, 3) := by decide +kernel
theorem d_F_route_12 : decode b_F_route 12 = .ok (.aload_n 0, 1) := by decide +kernel
theorem d_F_route_13 : decode b_F_route 13 = .ok (.getfield 30, 3) := by decide +kernel
theorem d_F_route_16 : decode b_F_route 16 = .ok (.invokevirtual 87, 3) := by decide +kernel
theorem d_F_route_19 : decode b_F_route 19 = .ok (.aload_n 0, 1) := by decide +kernel
theorem d_F_route_20 : decode b_F_route 20 = .ok (.iconst 1, 1) := by decide +kernel
theorem d_F_route_21 : decode b_F_route 21 = .ok (.putfield 41, 3) := by decide +kernel
theorem d_F_route_24 : decode b_F_route 24 = .ok (.aload_n 0, 1) := by decide +kernel
theorem d_F_route_25 : decode b_F_route 25 = .ok (.getfield 21, 3) := by decide +kernel
theorem d_F_route_28 : decode b_F_route 28 = .ok (.getfield 90, 3) := by decide +kernel
theorem d_F_route_31 : decode b_F_route 31 = .ok (.ireturn, 1) := by decide +kernel
theorem d_F_column_0 : decode b_F_column 0 = .ok (.aload_n 0, 1) := by decide +kernel
theorem d_F_column_1 : decode b_F_column 1 = .ok (.iload_n 1, 1) := by decide +kernel
theorem d_F_column_2 : decode b_F_column 2 = .ok (.iload_n 2, 1) := by decide +kernel
theorem d_F_column_3 : decode b_F_column 3 = .ok (.invokevirtual 93, 3) := by decide +kernel
theorem d_F_column_6 : decode b_F_column 6 = .ok (.aload_n 0, 1) := by decide +kernel
theorem d_F_column_7 : decode b_F_column 7 = .ok (.getfield 12, 3) := by decide +kernel
theorem d_F_column_10 : decode b_F_column 10 = .ok (.iload_n 1, 1) := by decide +kernel
theorem d_F_column_11 : decode b_F_column 11 = .ok (.iload_n 2, 1) := by decide +kernel
theorem d_F_column_12 : decode b_F_column 12 = .ok (.invokevirtual 97, 3) := by decide +kernel
theorem d_F_column_15 : decode b_F_column 15 = .ok (.ireturn, 1) := by decide +kernel
theorem d_F_net_0 : decode b_F_net 0 = .ok (.aload_n 0, 1) := by decide +kernel
theorem d_F_net_1 : decode b_F_net 1 = .ok (.iload_n 1, 1) := by decide +kernel
theorem d_F_net_2 : decode b_F_net 2 = .ok (.invokevirtual 101, 3) := by decide +kernel
theorem d_F_net_5 : decode b_F_net 5 = .ok (.iload_n 2, 1) := by decide +kernel
theorem d_F_net_6 : decode b_F_net 6 = .ok (.tableswitch 137 0 6 #[42, 51, 61, 78, 87, 96, 117], 42) := by decide +kernel
theorem d_F_net_48 : decode b_F_net 48 = .ok (.aload_n 0, 1) := by decide +kernel
theorem d_F_net_49 : decode b_F_net 49 = .ok (.getfield 12, 3) := by decide +kernel
theorem d_F_net_52 : decode b_F_net 52 = .ok (.iload_n 1, 1) := by decide +kernel
theorem d_F_net_53 : decode b_F_net 53 = .ok (.invokevirtual 105, 3) := by decide +kernel
theorem d_F_net_56 : decode b_F_net 56 = .ok (.ireturn, 1) := by decide +kernel
theorem d_F_net_57 : decode b_F_net 57 = .ok (.aload_n 0, 1) := by decide +kernel
theorem d_F_net_58 : decode b_F_net 58 = .ok (.getfield 12, 3) := by decide +kernel
theorem d_F_net_61 : decode b_F_net 61 = .ok (.getfield 109, 3) := by decide +kernel
theorem d_F_net_64 : decode b_F_net 64 = .ok (.iload_n 1, 1) := by decide +kernel
theorem d_F_net_65 : decode b_F_net 65 = .ok (.iaload, 1) := by decide +kernel
theorem d_F_net_66 : decode b_F_net 66 = .ok (.ireturn, 1) := by decide +kernel
theorem d_F_net_67 : decode b_F_net 67 = .ok (.aload_n 0, 1) := by decide +kernel
theorem d_F_net_68 : decode b_F_net 68 = .ok (.getfield 12, 3) := by decide +kernel
theorem d_F_net_71 : decode b_F_net 71 = .ok (.iload_n 1, 1) := by decide +kernel
theorem d_F_net_72 : decode b_F_net 72 = .ok (.invokevirtual 113, 3) := by decide +kernel
theorem d_F_net_75 : decode b_F_net 75 = .ok (.ifCond .eq 7, 3) := by decide +kernel
theorem d_F_net_78 : decode b_F_net 78 = .ok (.iconst 1, 1) := by decide +kernel
theorem d_F_net_79 : decode b_F_net 79 = .ok (.goto 4, 3) := by decide +kernel
theorem d_F_net_82 : decode b_F_net 82 = .ok (.iconst 0, 1) := by decide +kernel
theorem d_F_net_83 : decode b_F_net 83 = .ok (.ireturn, 1) := by decide +kernel
theorem d_F_net_84 : decode b_F_net 84 = .ok (.aload_n 0, 1) := by decide +kernel
theorem d_F_net_85 : decode b_F_net 85 = .ok (.getfield 12, 3) := by decide +kernel
theorem d_F_net_88 : decode b_F_net 88 = .ok (.iload_n 1, 1) := by decide +kernel
theorem d_F_net_89 : decode b_F_net 89 = .ok (.invokevirtual 116, 3) := by decide +kernel
theorem d_F_net_92 : decode b_F_net 92 = .ok (.ireturn, 1) := by decide +kernel
theorem d_F_net_93 : decode b_F_net 93 = .ok (.aload_n 0, 1) := by decide +kernel
theorem d_F_net_94 : decode b_F_net 94 = .ok (.getfield 12, 3) := by decide +kernel
theorem d_F_net_97 : decode b_F_net 97 = .ok (.iload_n 1, 1) := by decide +kernel
theorem d_F_net_98 : decode b_F_net 98 = .ok (.invokevirtual 119, 3) := by decide +kernel
theorem d_F_net_101 : decode b_F_net 101 = .ok (.ireturn, 1) := by decide +kernel
theorem d_F_net_102 : decode b_F_net 102 = .ok (.aload_n 0, 1) := by decide +kernel
theorem d_F_net_103 : decode b_F_net 103 = .ok (.getfield 41, 3) := by decide +kernel
theorem d_F_net_106 : decode b_F_net 106 = .ok (.ifCond .eq 15, 3) := by decide +kernel
theorem d_F_net_109 : decode b_F_net 109 = .ok (.aload_n 0, 1) := by decide +kernel
theorem d_F_net_110 : decode b_F_net 110 = .ok (.getfield 21, 3) := by decide +kernel
theorem d_F_net_113 : decode b_F_net 113 = .ok (.getfield 122, 3) := by decide +kernel
theorem d_F_net_116 : decode b_F_net 116 = .ok (.iload_n 1, 1) := by decide +kernel
theorem d_F_net_117 : decode b_F_net 117 = .ok (.iaload, 1) := by decide +kernel
theorem d_F_net_118 : decode b_F_net 118 = .ok (.goto 4, 3) := by decide +kernel
theorem d_F_net_121 : decode b_F_net 121 = .ok (.iconst 0, 1) := by decide +kernel
theorem d_F_net_122 : decode b_F_net 122 = .ok (.ireturn, 1) := by decide +kernel
theorem d_F_net_123 : decode b_F_net 123 = .ok (.aload_n 0, 1) := by decide +kernel
theorem d_F_net_124 : decode b_F_net 124 = .ok (.getfield 41, 3) := by decide +kernel
theorem d_F_net_127 : decode b_F_net 127 = .ok (.ifCond .eq 14, 3) := by decide +kernel
theorem d_F_net_130 : decode b_F_net 130 = .ok (.aload_n 0, 1) := by decide +kernel
theorem d_F_net_131 : decode b_F_net 131 = .ok (.getfield 21, 3) := by decide +kernel
theorem d_F_net_134 : decode b_F_net 134 = .ok (.iload_n 1, 1) := by decide +kernel
theorem d_F_net_135 : decode b_F_net 135 = .ok (.invokevirtual 125, 3) := by decide +kernel
theorem d_F_net_138 : decode b_F_net 138 = .ok (.goto 4, 3) := by decide +kernel
theorem d_F_net_141 : decode b_F_net 141 = .ok (.iconst 0, 1) := by decide +kernel
theorem d_F_net_142 : decode b_F_net 142 = .ok (.ireturn, 1) := by decide +kernel
theorem d_F_net_143 : decode b_F_net 143 = .ok (.new 49, 3) := by decide +kernel
theorem d_F_net_146 : decode b_F_net 146 = .ok (.dup, 1) := by decide +kernel
theorem d_F_net_147 : decode b_F_net 147 = .ok (.ldc 128, 2) := by decide +kernel
theorem d_F_net_149 : decode b_F_net 149 = .ok (.invokespecial 53, 3) := by decide +kernel
theorem d_F_net_152 : decode b_F_net 152 = .ok (.athrow, 1) := by decide +kernel
theorem d_F_mask_0 : decode b_F_mask 0 = .ok (.aload_n 0, 1) := by decide +kernel
theorem d_F_mask_1 : decode b_F_mask 1 = .ok (.iload_n 1, 1) := by decide +kernel
theorem d_F_mask_2 : decode b_F_mask 2 = .ok (.iload_n 2, 1) := by decide +kernel
theorem d_F_mask_3 : decode b_F_mask 3 = .ok (.invokevirtual 130, 3) := by decide +kernel
theorem d_F_mask_6 : decode b_F_mask 6 = .ok (.aload_n 0, 1) := by decide +kernel
theorem d_F_mask_7 : decode b_F_mask 7 = .ok (.getfield 30, 3) := by decide +kernel
theorem d_F_mask_10 : decode b_F_mask 10 = .ok (.getfield 133, 3) := by decide +kernel
theorem d_F_mask_13 : decode b_F_mask 13 = .ok (.iload_n 1, 1) := by decide +kernel
theorem d_F_mask_14 : decode b_F_mask 14 = .ok (.aaload, 1) := by decide +kernel
theorem d_F_mask_15 : decode b_F_mask 15 = .ok (.iload_n 2, 1) := by decide +kernel
theorem d_F_mask_16 : decode b_F_mask 16 = .ok (.iaload, 1) := by decide +kernel
theorem d_F_mask_17 : decode b_F_mask 17 = .ok (.ireturn, 1) := by decide +kernel
theorem d_F_damage_0 : decode b_F_damage 0 = .ok (.iload_n 3, 1) := by decide +kernel
theorem d_F_damage_1 : decode b_F_damage 1 = .ok (.ifCond .lt 9, 3) := by decide +kernel
theorem d_F_damage_4 : decode b_F_damage 4 = .ok (.iload_n 3, 1) := by decide +kernel
theorem d_F_damage_5 : decode b_F_damage 5 = .ok (.bipush 7, 2) := by decide +kernel
theorem d_F_damage_7 : decode b_F_damage 7 = .ok (.if_icmp .le 13, 3) := by decide +kernel
theorem d_F_damage_10 : decode b_F_damage 10 = .ok (.new 49, 3) := by decide +kernel
theorem d_F_damage_13 : decode b_F_damage 13 = .ok (.dup, 1) := by decide +kernel
theorem d_F_damage_14 : decode b_F_damage 14 = .ok (.ldc 137, 2) := by decide +kernel
theorem d_F_damage_16 : decode b_F_damage 16 = .ok (.invokespecial 53, 3) := by decide +kernel
theorem d_F_damage_19 : decode b_F_damage 19 = .ok (.athrow, 1) := by decide +kernel
theorem d_F_damage_20 : decode b_F_damage 20 = .ok (.aload_n 0, 1) := by decide +kernel
theorem d_F_damage_21 : decode b_F_damage 21 = .ok (.iload_n 1, 1) := by decide +kernel
theorem d_F_damage_22 : decode b_F_damage 22 = .ok (.iload_n 2, 1) := by decide +kernel
theorem d_F_damage_23 : decode b_F_damage 23 = .ok (.invokevirtual 130, 3) := by decide +kernel
theorem d_F_damage_26 : decode b_F_damage 26 = .ok (.aload_n 0, 1) := by decide +kernel
theorem d_F_damage_27 : decode b_F_damage 27 = .ok (.getfield 30, 3) := by decide +kernel
theorem d_F_damage_30 : decode b_F_damage 30 = .ok (.getfield 133, 3) := by decide +kernel
theorem d_F_damage_33 : decode b_F_damage 33 = .ok (.iload_n 1, 1) := by decide +kernel
theorem d_F_damage_34 : decode b_F_damage 34 = .ok (.aaload, 1) := by decide +kernel
theorem d_F_damage_35 : decode b_F_damage 35 = .ok (.iload_n 2, 1) := by decide +kernel
theorem d_F_damage_36 : decode b_F_damage 36 = .ok (.iaload, 1) := by decide +kernel
theorem d_F_damage_37 : decode b_F_damage 37 = .ok (.istore 4, 2) := by decide +kernel
theorem d_F_damage_39 : decode b_F_damage 39 = .ok (.aload_n 0, 1) := by decide +kernel
theorem d_F_damage_40 : decode b_F_damage 40 = .ok (.getfield 30, 3) := by decide +kernel
theorem d_F_damage_43 : decode b_F_damage 43 = .ok (.getfield 133, 3) := by decide +kernel
theorem d_F_damage_46 : decode b_F_damage 46 = .ok (.iload_n 1, 1) := by decide +kernel
theorem d_F_damage_47 : decode b_F_damage 47 = .ok (.aaload, 1) := by decide +kernel
theorem d_F_damage_48 : decode b_F_damage 48 = .ok (.iload_n 2, 1) := by decide +kernel
theorem d_F_damage_49 : decode b_F_damage 49 = .ok (.iload_n 3, 1) := by decide +kernel
theorem d_F_damage_50 : decode b_F_damage 50 = .ok (.iastore, 1) := by decide +kernel
theorem d_F_damage_51 : decode b_F_damage 51 = .ok (.iload 4, 2) := by decide +kernel
theorem d_F_damage_53 : decode b_F_damage 53 = .ok (.ireturn, 1) := by decide +kernel
theorem d_F_joined_0 : decode b_F_joined 0 = .ok (.aload_n 0, 1) := by decide +kernel
theorem d_F_joined_1 : decode b_F_joined 1 = .ok (.invokevirtual 139, 3) := by decide +kernel
theorem d_F_joined_4 : decode b_F_joined 4 = .ok (.aload_n 0, 1) := by decide +kernel
theorem d_F_joined_5 : decode b_F_joined 5 = .ok (.iload_n 1, 1) := by decide +kernel
theorem d_F_joined_6 : decode b_F_joined 6 = .ok (.iload_n 2, 1) := by decide +kernel
theorem d_F_joined_7 : decode b_F_joined 7 = .ok (.invokevirtual 93, 3) := by decide +kernel
theorem d_F_joined_10 : decode b_F_joined 10 = .ok (.aload_n 0, 1) := by decide +kernel
theorem d_F_joined_11 : decode b_F_joined 11 = .ok (.iload_n 3, 1) := by decide +kernel
theorem d_F_joined_12 : decode b_F_joined 12 = .ok (.iload 4, 2) := by decide +kernel
theorem d_F_joined_14 : decode b_F_joined 14 = .ok (.invokevirtual 93, 3) := by decide +kernel
theorem d_F_joined_17 : decode b_F_joined 17 = .ok (.aload_n 0, 1) := by decide +kernel
theorem d_F_joined_18 : decode b_F_joined 18 = .ok (.getfield 30, 3) := by decide +kernel
theorem d_F_joined_21 : decode b_F_joined 21 = .ok (.invokevirtual 142, 3) := by decide +kernel
theorem d_F_joined_24 : decode b_F_joined 24 = .ok (.aload_n 0, 1) := by decide +kernel
theorem d_F_joined_25 : decode b_F_joined 25 = .ok (.getfield 30, 3) := by decide +kernel
theorem d_F_joined_28 : decode b_F_joined 28 = .ok (.iload_n 1, 1) := by decide +kernel
theorem d_F_joined_29 : decode b_F_joined 29 = .ok (.iload_n 2, 1) := by decide +kernel
theorem d_F_joined_30 : decode b_F_joined 30 = .ok (.invokevirtual 145, 3) := by decide +kernel
theorem d_F_joined_33 : decode b_F_joined 33 = .ok (.aload_n 0, 1) := by decide +kernel
theorem d_F_joined_34 : decode b_F_joined 34 = .ok (.getfield 30, 3) := by decide +kernel
theorem d_F_joined_37 : decode b_F_joined 37 = .ok (.iload_n 3, 1) := by decide +kernel
theorem d_F_joined_38 : decode b_F_joined 38 = .ok (.iload 4, 2) := by decide +kernel
theorem d_F_joined_40 : decode b_F_joined 40 = .ok (.invokevirtual 145, 3) := by decide +kernel
theorem d_F_joined_43 : decode b_F_joined 43 = .ok (.if_icmp .ne 7, 3) := by decide +kernel
theorem d_F_joined_46 : decode b_F_joined 46 = .ok (.iconst 1, 1) := by decide +kernel
theorem d_F_joined_47 : decode b_F_joined 47 = .ok (.goto 4, 3) := by decide +kernel
theorem d_F_joined_50 : decode b_F_joined 50 = .ok (.iconst 0, 1) := by decide +kernel
theorem d_F_joined_51 : decode b_F_joined 51 = .ok (.ireturn, 1) := by decide +kernel
theorem d_F_faults_0 : decode b_F_faults 0 = .ok (.aload_n 0, 1) := by decide +kernel
theorem d_F_faults_1 : decode b_F_faults 1 = .ok (.invokevirtual 139, 3) := by decide +kernel
theorem d_F_faults_4 : decode b_F_faults 4 = .ok (.aload_n 0, 1) := by decide +kernel
theorem d_F_faults_5 : decode b_F_faults 5 = .ok (.getfield 30, 3) := by decide +kernel
theorem d_F_faults_8 : decode b_F_faults 8 = .ok (.invokevirtual 142, 3) := by decide +kernel
theorem d_F_faults_11 : decode b_F_faults 11 = .ok (.aload_n 0, 1) := by decide +kernel
theorem d_F_faults_12 : decode b_F_faults 12 = .ok (.getfield 30, 3) := by decide +kernel
theorem d_F_faults_15 : decode b_F_faults 15 = .ok (.invokevirtual 148, 3) := by decide +kernel
theorem d_F_faults_18 : decode b_F_faults 18 = .ok (.iload_n 1, 1) := by decide +kernel
theorem d_F_faults_19 : decode b_F_faults 19 = .ok (.ifCond .eq 13, 3) := by decide +kernel
theorem d_F_faults_22 : decode b_F_faults 22 = .ok (.aload_n 0, 1) := by decide +kernel
theorem d_F_faults_23 : decode b_F_faults 23 = .ok (.getfield 30, 3) := by decide +kernel
theorem d_F_faults_26 : decode b_F_faults 26 = .ok (.invokevirtual 151, 3) := by decide +kernel
theorem d_F_faults_29 : decode b_F_faults 29 = .ok (.goto 10, 3) := by decide +kernel
theorem d_F_faults_32 : decode b_F_faults 32 = .ok (.aload_n 0, 1) := by decide +kernel
theorem d_F_faults_33 : decode b_F_faults 33 = .ok (.getfield 30, 3) := by decide +kernel
theorem d_F_faults_36 : decode b_F_faults 36 = .ok (.invokevirtual 155, 3) := by decide +kernel
theorem d_F_faults_39 : decode b_F_faults 39 = .ok (.ireturn, 1) := by decide +kernel
theorem d_F_time_0 : decode b_F_time 0 = .ok (.dload_n 2, 1) := by decide +kernel
theorem d_F_time_1 : decode b_F_time 1 = .ok (.dconst 0, 1) := by decide +kernel
theorem d_F_time_2 : decode b_F_time 2 = .ok (.dcmp .l, 1) := by decide +kernel
theorem d_F_time_3 : decode b_F_time 3 = .ok (.ifCond .lt 15, 3) := by decide +kernel
theorem d_F_time_6 : decode b_F_time 6 = .ok (.dload_n 2, 1) := by decide +kernel
theorem d_F_time_7 : decode b_F_time 7 = .ok (.ldc2_w 158, 3) := by decide +kernel
theorem d_F_time_10 : decode b_F_time 10 = .ok (.dcmp .g, 1) := by decide +kernel
theorem d_F_time_11 : decode b_F_time 11 = .ok (.ifCond .gt 7, 3) := by decide +kernel
theorem d_F_time_14 : decode b_F_time 14 = .ok (.iconst 1, 1) := by decide +kernel
theorem d_F_time_15 : decode b_F_time 15 = .ok (.goto 4, 3) := by decide +kernel
theorem d_F_time_18 : decode b_F_time 18 = .ok (.iconst 0, 1) := by decide +kernel
theorem d_F_time_19 : decode b_F_time 19 = .ok (.istore 4, 2) := by decide +kernel
theorem d_F_time_21 : decode b_F_time 21 = .ok (.iload_n 1, 1) := by decide +kernel
theorem d_F_time_22 : decode b_F_time 22 = .ok (.iconst 4, 1) := by decide +kernel
theorem d_F_time_23 : decode b_F_time 23 = .ok (.invokestatic 45, 3) := by decide +kernel
theorem d_F_time_26 : decode b_F_time 26 = .ok (.ifCond .eq 8, 3) := by decide +kernel
theorem d_F_time_29 : decode b_F_time 29 = .ok (.iload 4, 2) := by decide +kernel
theorem d_F_time_31 : decode b_F_time 31 = .ok (.ifCond .ne 13, 3) := by decide +kernel
theorem d_F_time_34 : decode b_F_time 34 = .ok (.new 49, 3) := by decide +kernel
theorem d_F_time_37 : decode b_F_time 37 = .ok (.dup, 1) := by decide +kernel
theorem d_F_time_38 : decode b_F_time 38 = .ok (.ldc 160, 2) := by decide +kernel
theorem d_F_time_40 : decode b_F_time 40 = .ok (.invokespecial 53, 3) := by decide +kernel
theorem d_F_time_43 : decode b_F_time 43 = .ok (.athrow, 1) := by decide +kernel
theorem d_F_time_44 : decode b_F_time 44 = .ok (.aload_n 0, 1) := by decide +kernel
theorem d_F_time_45 : decode b_F_time 45 = .ok (.getfield 37, 3) := by decide +kernel
theorem d_F_time_48 : decode b_F_time 48 = .ok (.getfield 162, 3) := by decide +kernel
theorem d_F_time_51 : decode b_F_time 51 = .ok (.iload_n 1, 1) := by decide +kernel
theorem d_F_time_52 : decode b_F_time 52 = .ok (.daload, 1) := by decide +kernel
theorem d_F_time_53 : decode b_F_time 53 = .ok (.dstore 5, 2) := by decide +kernel
theorem d_F_time_55 : decode b_F_time 55 = .ok (.aload_n 0, 1) := by decide +kernel
theorem d_F_time_56 : decode b_F_time 56 = .ok (.getfield 37, 3) := by decide +kernel
theorem d_F_time_59 : decode b_F_time 59 = .ok (.getfield 162, 3) := by decide +kernel
theorem d_F_time_62 : decode b_F_time 62 = .ok (.iload_n 1, 1) := by decide +kernel
theorem d_F_time_63 : decode b_F_time 63 = .ok (.dload_n 2, 1) := by decide +kernel
theorem d_F_time_64 : decode b_F_time 64 = .ok (.dastore, 1) := by decide +kernel
theorem d_F_time_65 : decode b_F_time 65 = .ok (.dload 5, 2) := by decide +kernel
theorem d_F_time_67 : decode b_F_time 67 = .ok (.dreturn, 1) := by decide +kernel
theorem d_F_delay_0 : decode b_F_delay 0 = .ok (.aload_n 0, 1) := by decide +kernel
theorem d_F_delay_1 : decode b_F_delay 1 = .ok (.iload_n 1, 1) := by decide +kernel
theorem d_F_delay_2 : decode b_F_delay 2 = .ok (.invokevirtual 101, 3) := by decide +kernel
theorem d_F_delay_5 : decode b_F_delay 5 = .ok (.aload_n 0, 1) := by decide +kernel
theorem d_F_delay_6 : decode b_F_delay 6 = .ok (.invokevirtual 139, 3) := by decide +kernel
theorem d_F_delay_9 : decode b_F_delay 9 = .ok (.aload_n 0, 1) := by decide +kernel
theorem d_F_delay_10 : decode b_F_delay 10 = .ok (.getfield 21, 3) := by decide +kernel
theorem d_F_delay_13 : decode b_F_delay 13 = .ok (.iload_n 1, 1) := by decide +kernel
theorem d_F_delay_14 : decode b_F_delay 14 = .ok (.invokevirtual 166, 3) := by decide +kernel
theorem d_F_delay_17 : decode b_F_delay 17 = .ok (.dreturn, 1) := by decide +kernel
theorem d_F_arrival_0 : decode b_F_arrival 0 = .ok (.aload_n 0, 1) := by decide +kernel
theorem d_F_arrival_1 : decode b_F_arrival 1 = .ok (.iload_n 1, 1) := by decide +kernel
theorem d_F_arrival_2 : decode b_F_arrival 2 = .ok (.invokevirtual 101, 3) := by decide +kernel
theorem d_F_arrival_5 : decode b_F_arrival 5 = .ok (.aload_n 0, 1) := by decide +kernel
theorem d_F_arrival_6 : decode b_F_arrival 6 = .ok (.invokevirtual 139, 3) := by decide +kernel
theorem d_F_arrival_9 : decode b_F_arrival 9 = .ok (.aload_n 0, 1) := by decide +kernel
theorem d_F_arrival_10 : decode b_F_arrival 10 = .ok (.getfield 37, 3) := by decide +kernel
theorem d_F_arrival_13 : decode b_F_arrival 13 = .ok (.invokevirtual 170, 3) := by decide +kernel
theorem d_F_arrival_16 : decode b_F_arrival 16 = .ok (.aload_n 0, 1) := by decide +kernel
theorem d_F_arrival_17 : decode b_F_arrival 17 = .ok (.getfield 37, 3) := by decide +kernel
theorem d_F_arrival_20 : decode b_F_arrival 20 = .ok (.iload_n 1, 1) := by decide +kernel
theorem d_F_arrival_21 : decode b_F_arrival 21 = .ok (.invokevirtual 173, 3) := by decide +kernel
theorem d_F_arrival_24 : decode b_F_arrival 24 = .ok (.ifCond .ne 13, 3) := by decide +kernel
theorem d_F_arrival_27 : decode b_F_arrival 27 = .ok (.new 176, 3) := by decide +kernel
theorem d_F_arrival_30 : decode b_F_arrival 30 = .ok (.dup, 1) := by decide +kernel
theorem d_F_arrival_31 : decode b_F_arrival 31 = .ok (.ldc 178, 2) := by decide +kernel
theorem d_F_arrival_33 : decode b_F_arrival 33 = .ok (.invokespecial 180, 3) := by decide +kernel
theorem d_F_arrival_36 : decode b_F_arrival 36 = .ok (.athrow, 1) := by decide +kernel
theorem d_F_arrival_37 : decode b_F_arrival 37 = .ok (.aload_n 0, 1) := by decide +kernel
theorem d_F_arrival_38 : decode b_F_arrival 38 = .ok (.getfield 37, 3) := by decide +kernel
theorem d_F_arrival_41 : decode b_F_arrival 41 = .ok (.iload_n 1, 1) := by decide +kernel
theorem d_F_arrival_42 : decode b_F_arrival 42 = .ok (.invokevirtual 181, 3) := by decide +kernel
theorem d_F_arrival_45 : decode b_F_arrival 45 = .ok (.dreturn, 1) := by decide +kernel
theorem d_F_simulate_0 : decode b_F_simulate 0 = .ok (.aload_n 0, 1) := by decide +kernel
theorem d_F_simulate_1 : decode b_F_simulate 1 = .ok (.getfield 37, 3) := by decide +kernel
theorem d_F_simulate_4 : decode b_F_simulate 4 = .ok (.invokevirtual 170, 3) := by decide +kernel
theorem d_F_simulate_7 : decode b_F_simulate 7 = .ok (.aload_n 0, 1) := by decide +kernel
theorem d_F_simulate_8 : decode b_F_simulate 8 = .ok (.getfield 37, 3) := by decide +kernel
theorem d_F_simulate_11 : decode b_F_simulate 11 = .ok (.invokevirtual 184, 3) := by decide +kernel
theorem d_F_simulate_14 : decode b_F_simulate 14 = .ok (.ifCond .ne 13, 3) := by decide +kernel
theorem d_F_simulate_17 : decode b_F_simulate 17 = .ok (.new 176, 3) := by decide +kernel
theorem d_F_simulate_20 : decode b_F_simulate 20 = .ok (.dup, 1) := by decide +kernel
theorem d_F_simulate_21 : decode b_F_simulate 21 = .ok (.ldc 188, 2) := by decide +kernel
theorem d_F_simulate_23 : decode b_F_simulate 23 = .ok (.invokespecial 180, 3) := by decide +kernel
theorem d_F_simulate_26 : decode b_F_simulate 26 = .ok (.athrow, 1) := by decide +kernel
theorem d_F_simulate_27 : decode b_F_simulate 27 = .ok (.aload_n 0, 1) := by decide +kernel
theorem d_F_simulate_28 : decode b_F_simulate 28 = .ok (.getfield 37, 3) := by decide +kernel
theorem d_F_simulate_31 : decode b_F_simulate 31 = .ok (.iload_n 1, 1) := by decide +kernel
theorem d_F_simulate_32 : decode b_F_simulate 32 = .ok (.invokevirtual 190, 3) := by decide +kernel
theorem d_F_simulate_35 : decode b_F_simulate 35 = .ok (.ireturn, 1) := by decide +kernel
theorem d_F_count_0 : decode b_F_count 0 = .ok (.iload_n 1, 1) := by decide +kernel
theorem d_F_count_1 : decode b_F_count 1 = .ok (.tableswitch 134 0 5 #[39, 47, 55, 74, 94, 114], 39) := by decide +kernel
theorem d_F_count_40 : decode b_F_count 40 = .ok (.aload_n 0, 1) := by decide +kernel
theorem d_F_count_41 : decode b_F_count 41 = .ok (.getfield 12, 3) := by decide +kernel
theorem d_F_count_44 : decode b_F_count 44 = .ok (.getfield 77, 3) := by decide +kernel
theorem d_F_count_47 : decode b_F_count 47 = .ok (.ireturn, 1) := by decide +kernel
theorem d_F_count_48 : decode b_F_count 48 = .ok (.aload_n 0, 1) := by decide +kernel
theorem d_F_count_49 : decode b_F_count 49 = .ok (.getfield 12, 3) := by decide +kernel
theorem d_F_count_52 : decode b_F_count 52 = .ok (.invokevirtual 193, 3) := by decide +kernel
theorem d_F_count_55 : decode b_F_count 55 = .ok (.ireturn, 1) := by decide +kernel
theorem d_F_count_56 : decode b_F_count 56 = .ok (.aload_n 0, 1) := by decide +kernel
theorem d_F_count_57 : decode b_F_count 57 = .ok (.getfield 41, 3) := by decide +kernel
theorem d_F_count_60 : decode b_F_count 60 = .ok (.ifCond .eq 13, 3) := by decide +kernel
theorem d_F_count_63 : decode b_F_count 63 = .ok (.aload_n 0, 1) := by decide +kernel
theorem d_F_count_64 : decode b_F_count 64 = .ok (.getfield 21, 3) := by decide +kernel
theorem d_F_count_67 : decode b_F_count 67 = .ok (.getfield 90, 3) := by decide +kernel
theorem d_F_count_70 : decode b_F_count 70 = .ok (.goto 4, 3) := by decide +kernel
theorem d_F_count_73 : decode b_F_count 73 = .ok (.iconst 0, 1) := by decide +kernel
theorem d_F_count_74 : decode b_F_count 74 = .ok (.ireturn, 1) := by decide +kernel
theorem d_F_count_75 : decode b_F_count 75 = .ok (.aload_n 0, 1) := by decide +kernel
theorem d_F_count_76 : decode b_F_count 76 = .ok (.getfield 41, 3) := by decide +kernel
theorem d_F_count_79 : decode b_F_count 79 = .ok (.ifCond .eq 14, 3) := by decide +kernel
theorem d_F_count_82 : decode b_F_count 82 = .ok (.aload_n 0, 1) := by decide +kernel
theorem d_F_count_83 : decode b_F_count 83 = .ok (.getfield 30, 3) := by decide +kernel
theorem d_F_count_86 : decode b_F_count 86 = .ok (.iconst 1, 1) := by decide +kernel
theorem d_F_count_87 : decode b_F_count 87 = .ok (.invokevirtual 196, 3) := by decide +kernel
theorem d_F_count_90 : decode b_F_count 90 = .ok (.goto 4, 3) := by decide +kernel
theorem d_F_count_93 : decode b_F_count 93 = .ok (.iconst 0, 1) := by decide +kernel
theorem d_F_count_94 : decode b_F_count 94 = .ok (.ireturn, 1) := by decide +kernel
theorem d_F_count_95 : decode b_F_count 95 = .ok (.aload_n 0, 1) := by decide +kernel
theorem d_F_count_96 : decode b_F_count 96 = .ok (.getfield 41, 3) := by decide +kernel
theorem d_F_count_99 : decode b_F_count 99 = .ok (.ifCond .eq 14, 3) := by decide +kernel
theorem d_F_count_102 : decode b_F_count 102 = .ok (.aload_n 0, 1) := by decide +kernel
theorem d_F_count_103 : decode b_F_count 103 = .ok (.getfield 30, 3) := by decide +kernel
theorem d_F_count_106 : decode b_F_count 106 = .ok (.iconst 2, 1) := by decide +kernel
theorem d_F_count_107 : decode b_F_count 107 = .ok (.invokevirtual 196, 3) := by decide +kernel
theorem d_F_count_110 : decode b_F_count 110 = .ok (.goto 4, 3) := by decide +kernel
theorem d_F_count_113 : decode b_F_count 113 = .ok (.iconst 0, 1) := by decide +kernel
theorem d_F_count_114 : decode b_F_count 114 = .ok (.ireturn, 1) := by decide +kernel
theorem d_F_count_115 : decode b_F_count 115 = .ok (.aload_n 0, 1) := by decide +kernel
theorem d_F_count_116 : decode b_F_count 116 = .ok (.getfield 41, 3) := by decide +kernel
theorem d_F_count_119 : decode b_F_count 119 = .ok (.ifCond .eq 14, 3) := by decide +kernel
theorem d_F_count_122 : decode b_F_count 122 = .ok (.aload_n 0, 1) := by decide +kernel
theorem d_F_count_123 : decode b_F_count 123 = .ok (.getfield 30, 3) := by decide +kernel
theorem d_F_count_126 : decode b_F_count 126 = .ok (.iconst 4, 1) := by decide +kernel
theorem d_F_count_127 : decode b_F_count 127 = .ok (.invokevirtual 196, 3) := by decide +kernel
theorem d_F_count_130 : decode b_F_count 130 = .ok (.goto 4, 3) := by decide +kernel
theorem d_F_count_133 : decode b_F_count 133 = .ok (.iconst 0, 1) := by decide +kernel
theorem d_F_count_134 : decode b_F_count 134 = .ok (.ireturn, 1) := by decide +kernel
theorem d_F_count_135 : decode b_F_count 135 = .ok (.new 49, 3) := by decide +kernel
theorem d_F_count_138 : decode b_F_count 138 = .ok (.dup, 1) := by decide +kernel
theorem d_F_count_139 : decode b_F_count 139 = .ok (.ldc 199, 2) := by decide +kernel
theorem d_F_count_141 : decode b_F_count 141 = .ok (.invokespecial 53, 3) := by decide +kernel
theorem d_F_count_144 : decode b_F_count 144 = .ok (.athrow, 1) := by decide +kernel
theorem d_F_needNet_0 : decode b_F_needNet 0 = .ok (.iload_n 1, 1) := by decide +kernel
theorem d_F_needNet_1 : decode b_F_needNet 1 = .ok (.bipush 12, 2) := by decide +kernel
theorem d_F_needNet_3 : decode b_F_needNet 3 = .ok (.invokestatic 45, 3) := by decide +kernel
theorem d_F_needNet_6 : decode b_F_needNet 6 = .ok (.ifCond .ne 13, 3) := by decide +kernel
theorem d_F_needNet_9 : decode b_F_needNet 9 = .ok (.new 49, 3) := by decide +kernel
theorem d_F_needNet_12 : decode b_F_needNet 12 = .ok (.dup, 1) := by decide +kernel
theorem d_F_needNet_13 : decode b_F_needNet 13 = .ok (.ldc 201, 2) := by decide +kernel
theorem d_F_needNet_15 : decode b_F_needNet 15 = .ok (.invokespecial 53, 3) := by decide +kernel
theorem d_F_needNet_18 : decode b_F_needNet 18 = .ok (.athrow, 1) := by decide +kernel
theorem d_F_needNet_19 : decode b_F_needNet 19 = .ok (.return_, 1) := by decide +kernel
theorem d_F_needRouted_0 : decode b_F_needRouted 0 = .ok (.aload_n 0, 1) := by decide +kernel
theorem d_F_needRouted_1 : decode b_F_needRouted 1 = .ok (.getfield 41, 3) := by decide +kernel
theorem d_F_needRouted_4 : decode b_F_needRouted 4 = .ok (.ifCond .ne 13, 3) := by decide +kernel
theorem d_F_needRouted_7 : decode b_F_needRouted 7 = .ok (.new 68, 3) := by decide +kernel
theorem d_F_needRouted_10 : decode b_F_needRouted 10 = .ok (.dup, 1) := by decide +kernel
theorem d_F_needRouted_11 : decode b_F_needRouted 11 = .ok (.ldc 203, 2) := by decide +kernel
theorem d_F_needRouted_13 : decode b_F_needRouted 13 = .ok (.invokespecial 72, 3) := by decide +kernel
theorem d_F_needRouted_16 : decode b_F_needRouted 16 = .ok (.athrow, 1) := by decide +kernel
theorem d_F_needRouted_17 : decode b_F_needRouted 17 = .ok (.return_, 1) := by decide +kernel
theorem d_F_needPin_0 : decode b_F_needPin 0 = .ok (.aload_n 0, 1) := by decide +kernel
theorem d_F_needPin_1 : decode b_F_needPin 1 = .ok (.getfield 12, 3) := by decide +kernel
theorem d_F_needPin_4 : decode b_F_needPin 4 = .ok (.iload_n 1, 1) := by decide +kernel
theorem d_F_needPin_5 : decode b_F_needPin 5 = .ok (.iload_n 2, 1) := by decide +kernel
theorem d_F_needPin_6 : decode b_F_needPin 6 = .ok (.invokevirtual 205, 3) := by decide +kernel
theorem d_F_needPin_9 : decode b_F_needPin 9 = .ok (.ifCond .ne 13, 3) := by decide +kernel
theorem d_F_needPin_12 : decode b_F_needPin 12 = .ok (.new 208, 3) := by decide +kernel
theorem d_F_needPin_15 : decode b_F_needPin 15 = .ok (.dup, 1) := by decide +kernel
theorem d_F_needPin_16 : decode b_F_needPin 16 = .ok (.ldc 210, 2) := by decide +kernel
theorem d_F_needPin_18 : decode b_F_needPin 18 = .ok (.invokespecial 212, 3) := by decide +kernel
theorem d_F_needPin_21 : decode b_F_needPin 21 = .ok (.athrow, 1) := by decide +kernel
theorem d_F_needPin_22 : decode b_F_needPin 22 = .ok (.return_, 1) := by decide +kernel
theorem d_F_needPoint_0 : decode b_F_needPoint 0 = .ok (.aload_n 0, 1) := by decide +kernel
theorem d_F_needPoint_1 : decode b_F_needPoint 1 = .ok (.invokevirtual 139, 3) := by decide +kernel
theorem d_F_needPoint_4 : decode b_F_needPoint 4 = .ok (.iload_n 1, 1) := by decide +kernel
theorem d_F_needPoint_5 : decode b_F_needPoint 5 = .ok (.aload_n 0, 1) := by decide +kernel
theorem d_F_needPoint_6 : decode b_F_needPoint 6 = .ok (.getfield 21, 3) := by decide +kernel
theorem d_F_needPoint_9 : decode b_F_needPoint 9 = .ok (.invokevirtual 213, 3) := by decide +kernel
theorem d_F_needPoint_12 : decode b_F_needPoint 12 = .ok (.invokestatic 45, 3) := by decide +kernel
theorem d_F_needPoint_15 : decode b_F_needPoint 15 = .ok (.ifCond .eq 12, 3) := by decide +kernel
theorem d_F_needPoint_18 : decode b_F_needPoint 18 = .ok (.iload_n 2, 1) := by decide +kernel
theorem d_F_needPoint_19 : decode b_F_needPoint 19 = .ok (.bipush 24, 2) := by decide +kernel
theorem d_F_needPoint_21 : decode b_F_needPoint 21 = .ok (.invokestatic 45, 3) := by decide +kernel
theorem d_F_needPoint_24 : decode b_F_needPoint 24 = .ok (.ifCond .ne 13, 3) := by decide +kernel
theorem d_F_needPoint_27 : decode b_F_needPoint 27 = .ok (.new 208, 3) := by decide +kernel
theorem d_F_needPoint_30 : decode b_F_needPoint 30 = .ok (.dup, 1) := by decide +kernel
theorem d_F_needPoint_31 : decode b_F_needPoint 31 = .ok (.ldc 216, 2) := by decide +kernel
theorem d_F_needPoint_33 : decode b_F_needPoint 33 = .ok (.invokespecial 212, 3) := by decide +kernel
theorem d_F_needPoint_36 : decode b_F_needPoint 36 = .ok (.athrow, 1) := by decide +kernel
theorem d_F_needPoint_37 : decode b_F_needPoint 37 = .ok (.return_, 1) := by decide +kernel
theorem d_F_within_0 : decode b_F_within 0 = .ok (.iload_n 0, 1) := by decide +kernel
theorem d_F_within_1 : decode b_F_within 1 = .ok (.ifCond .lt 12, 3) := by decide +kernel
theorem d_F_within_4 : decode b_F_within 4 = .ok (.iload_n 0, 1) := by decide +kernel
theorem d_F_within_5 : decode b_F_within 5 = .ok (.iload_n 1, 1) := by decide +kernel
theorem d_F_within_6 : decode b_F_within 6 = .ok (.if_icmp .ge 7, 3) := by decide +kernel
theorem d_F_within_9 : decode b_F_within 9 = .ok (.iconst 1, 1) := by decide +kernel
theorem d_F_within_10 : decode b_F_within 10 = .ok (.goto 4, 3) := by decide +kernel
theorem d_F_within_13 : decode b_F_within 13 = .ok (.iconst 0, 1) := by decide +kernel
theorem d_F_within_14 : decode b_F_within 14 = .ok (.ireturn, 1) := by decide +kernel
theorem d_F_hasOneInput_0 : decode b_F_hasOneInput 0 = .ok (.iload_n 0, 1) := by decide +kernel
theorem d_F_hasOneInput_1 : decode b_F_hasOneInput 1 = .ok (.ifCond .eq 8, 3) := by decide +kernel
theorem d_F_hasOneInput_4 : decode b_F_hasOneInput 4 = .ok (.iload_n 0, 1) := by decide +kernel
theorem d_F_hasOneInput_5 : decode b_F_hasOneInput 5 = .ok (.iconst 1, 1) := by decide +kernel
theorem d_F_hasOneInput_6 : decode b_F_hasOneInput 6 = .ok (.if_icmp .ne 7, 3) := by decide +kernel
theorem d_F_hasOneInput_9 : decode b_F_hasOneInput 9 = .ok (.iconst 1, 1) := by decide +kernel
theorem d_F_hasOneInput_10 : decode b_F_hasOneInput 10 = .ok (.goto 4, 3) := by decide +kernel
theorem d_F_hasOneInput_13 : decode b_F_hasOneInput 13 = .ok (.iconst 0, 1) := by decide +kernel
theorem d_F_hasOneInput_14 : decode b_F_hasOneInput 14 = .ok (.ireturn, 1) := by decide +kernel
theorem d_F_pinsOfKind_0 : decode b_F_pinsOfKind 0 = .ok (.iload_n 0, 1) := by decide +kernel
theorem d_F_pinsOfKind_1 : decode b_F_pinsOfKind 1 = .ok (.invokestatic 56, 3) := by decide +kernel
theorem d_F_pinsOfKind_4 : decode b_F_pinsOfKind 4 = .ok (.ifCond .eq 7, 3) := by decide +kernel
theorem d_F_pinsOfKind_7 : decode b_F_pinsOfKind 7 = .ok (.iconst 2, 1) := by decide +kernel
theorem d_F_pinsOfKind_8 : decode b_F_pinsOfKind 8 = .ok (.goto 4, 3) := by decide +kernel
theorem d_F_pinsOfKind_11 : decode b_F_pinsOfKind 11 = .ok (.iconst 3, 1) := by decide +kernel
theorem d_F_pinsOfKind_12 : decode b_F_pinsOfKind 12 = .ok (.ireturn, 1) := by decide +kernel
