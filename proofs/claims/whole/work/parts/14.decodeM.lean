theorem d_M_init_0 : decode b_M_init 0 = .ok (.aload_n 0, 1) := by decide +kernel
theorem d_M_init_1 : decode b_M_init 1 = .ok (.invokespecial 1, 3) := by decide +kernel
theorem d_M_init_4 : decode b_M_init 4 = .ok (.aload_n 0, 1) := by decide +kernel
theorem d_M_init_5 : decode b_M_init 5 = .ok (.iconst (-1), 1) := by decide +kernel
theorem d_M_init_6 : decode b_M_init 6 = .ok (.putfield 9, 3) := by decide +kernel
theorem d_M_init_9 : decode b_M_init 9 = .ok (.aload_n 0, 1) := by decide +kernel
theorem d_M_init_10 : decode b_M_init 10 = .ok (.bipush 12, 2) := by decide +kernel
theorem d_M_init_12 : decode b_M_init 12 = .ok (.newarray .int, 2) := by decide +kernel
theorem d_M_init_14 : decode b_M_init 14 = .ok (.putfield 13, 3) := by decide +kernel
theorem d_M_init_17 : decode b_M_init 17 = .ok (.aload_n 0, 1) := by decide +kernel
theorem d_M_init_18 : decode b_M_init 18 = .ok (.bipush 12, 2) := by decide +kernel
theorem d_M_init_20 : decode b_M_init 20 = .ok (.newarray .int, 2) := by decide +kernel
theorem d_M_init_22 : decode b_M_init 22 = .ok (.putfield 17, 3) := by decide +kernel
theorem d_M_init_25 : decode b_M_init 25 = .ok (.aload_n 0, 1) := by decide +kernel
theorem d_M_init_26 : decode b_M_init 26 = .ok (.bipush 12, 2) := by decide +kernel
theorem d_M_init_28 : decode b_M_init 28 = .ok (.newarray .int, 2) := by decide +kernel
theorem d_M_init_30 : decode b_M_init 30 = .ok (.putfield 20, 3) := by decide +kernel
theorem d_M_init_33 : decode b_M_init 33 = .ok (.aload_n 0, 1) := by decide +kernel
theorem d_M_init_34 : decode b_M_init 34 = .ok (.bipush 12, 2) := by decide +kernel
theorem d_M_init_36 : decode b_M_init 36 = .ok (.newarray .int, 2) := by decide +kernel
theorem d_M_init_38 : decode b_M_init 38 = .ok (.putfield 23, 3) := by decide +kernel
theorem d_M_init_41 : decode b_M_init 41 = .ok (.aload_n 0, 1) := by decide +kernel
theorem d_M_init_42 : decode b_M_init 42 = .ok (.bipush 12, 2) := by decide +kernel
theorem d_M_init_44 : decode b_M_init 44 = .ok (.newarray .int, 2) := by decide +kernel
theorem d_M_init_46 : decode b_M_init 46 = .ok (.putfield 26, 3) := by decide +kernel
theorem d_M_init_49 : decode b_M_init 49 = .ok (.aload_n 0, 1) := by decide +kernel
theorem d_M_init_50 : decode b_M_init 50 = .ok (.bipush 12, 2) := by decide +kernel
theorem d_M_init_52 : decode b_M_init 52 = .ok (.newarray .int, 2) := by decide +kernel
theorem d_M_init_54 : decode b_M_init 54 = .ok (.putfield 29, 3) := by decide +kernel
theorem d_M_init_57 : decode b_M_init 57 = .ok (.aload_n 0, 1) := by decide +kernel
theorem d_M_init_58 : decode b_M_init 58 = .ok (.iconst 2, 1) := by decide +kernel
theorem d_M_init_59 : decode b_M_init 59 = .ok (.newarray .int, 2) := by decide +kernel
theorem d_M_init_61 : decode b_M_init 61 = .ok (.dup, 1) := by decide +kernel
theorem d_M_init_62 : decode b_M_init 62 = .ok (.iconst 0, 1) := by decide +kernel
theorem d_M_init_63 : decode b_M_init 63 = .ok (.iconst 1, 1) := by decide +kernel
theorem d_M_init_64 : decode b_M_init 64 = .ok (.iastore, 1) := by decide +kernel
theorem d_M_init_65 : decode b_M_init 65 = .ok (.dup, 1) := by decide +kernel
theorem d_M_init_66 : decode b_M_init 66 = .ok (.iconst 1, 1) := by decide +kernel
theorem d_M_init_67 : decode b_M_init 67 = .ok (.iconst 1, 1) := by decide +kernel
theorem d_M_init_68 : decode b_M_init 68 = .ok (.iastore, 1) := by decide +kernel
theorem d_M_init_69 : decode b_M_init 69 = .ok (.putfield 32, 3) := by decide +kernel
theorem d_M_init_72 : decode b_M_init 72 = .ok (.aload_n 0, 1) := by decide +kernel
theorem d_M_init_73 : decode b_M_init 73 = .ok (.iconst 4, 1) := by decide +kernel
theorem d_M_init_74 : decode b_M_init 74 = .ok (.newarray .double, 2) := by decide +kernel
theorem d_M_init_76 : decode b_M_init 76 = .ok (.dup, 1) := by decide +kernel
theorem d_M_init_77 : decode b_M_init 77 = .ok (.iconst 0, 1) := by decide +kernel
theorem d_M_init_78 : decode b_M_init 78 = .ok (.dconst 1, 1) := by decide +kernel
theorem d_M_init_79 : decode b_M_init 79 = .ok (.dastore, 1) := by decide +kernel
theorem d_M_init_80 : decode b_M_init 80 = .ok (.dup, 1) := by decide +kernel
theorem d_M_init_81 : decode b_M_init 81 = .ok (.iconst 1, 1) := by decide +kernel
theorem d_M_init_82 : decode b_M_init 82 = .ok (.dconst 1, 1) := by decide +kernel
theorem d_M_init_83 : decode b_M_init 83 = .ok (.dastore, 1) := by decide +kernel
theorem d_M_init_84 : decode b_M_init 84 = .ok (.dup, 1) := by decide +kernel
theorem d_M_init_85 : decode b_M_init 85 = .ok (.iconst 2, 1) := by decide +kernel
theorem d_M_init_86 : decode b_M_init 86 = .ok (.dconst 1, 1) := by decide +kernel
theorem d_M_init_87 : decode b_M_init 87 = .ok (.dastore, 1) := by decide +kernel
theorem d_M_init_88 : decode b_M_init 88 = .ok (.dup, 1) := by decide +kernel
theorem d_M_init_89 : decode b_M_init 89 = .ok (.iconst 3, 1) := by decide +kernel
theorem d_M_init_90 : decode b_M_init 90 = .ok (.dconst 1, 1) := by decide +kernel
theorem d_M_init_91 : decode b_M_init 91 = .ok (.dastore, 1) := by decide +kernel
theorem d_M_init_92 : decode b_M_init 92 = .ok (.putfield 35, 3) := by decide +kernel
theorem d_M_init_95 : decode b_M_init 95 = .ok (.aload_n 0, 1) := by decide +kernel
theorem d_M_init_96 : decode b_M_init 96 = .ok (.bipush 12, 2) := by decide +kernel
theorem d_M_init_98 : decode b_M_init 98 = .ok (.newarray .int, 2) := by decide +kernel
theorem d_M_init_100 : decode b_M_init 100 = .ok (.putfield 39, 3) := by decide +kernel
theorem d_M_init_103 : decode b_M_init 103 = .ok (.aload_n 0, 1) := by decide +kernel
theorem d_M_init_104 : decode b_M_init 104 = .ok (.sipush 264, 3) := by decide +kernel
theorem d_M_init_107 : decode b_M_init 107 = .ok (.newarray .int, 2) := by decide +kernel
theorem d_M_init_109 : decode b_M_init 109 = .ok (.putfield 42, 3) := by decide +kernel
theorem d_M_init_112 : decode b_M_init 112 = .ok (.aload_n 0, 1) := by decide +kernel
theorem d_M_init_113 : decode b_M_init 113 = .ok (.sipush 528, 3) := by decide +kernel
theorem d_M_init_116 : decode b_M_init 116 = .ok (.newarray .int, 2) := by decide +kernel
theorem d_M_init_118 : decode b_M_init 118 = .ok (.putfield 45, 3) := by decide +kernel
theorem d_M_init_121 : decode b_M_init 121 = .ok (.aload_n 0, 1) := by decide +kernel
theorem d_M_init_122 : decode b_M_init 122 = .ok (.bipush 12, 2) := by decide +kernel
theorem d_M_init_124 : decode b_M_init 124 = .ok (.newarray .double, 2) := by decide +kernel
theorem d_M_init_126 : decode b_M_init 126 = .ok (.putfield 48, 3) := by decide +kernel
theorem d_M_init_129 : decode b_M_init 129 = .ok (.aload_n 0, 1) := by decide +kernel
theorem d_M_init_130 : decode b_M_init 130 = .ok (.bipush 12, 2) := by decide +kernel
theorem d_M_init_132 : decode b_M_init 132 = .ok (.newarray .boolean, 2) := by decide +kernel
theorem d_M_init_134 : decode b_M_init 134 = .ok (.putfield 51, 3) := by decide +kernel
theorem d_M_init_137 : decode b_M_init 137 = .ok (.return_, 1) := by decide +kernel
theorem d_M_thrown_0 : decode b_M_thrown 0 = .ok (.aload_n 0, 1) := by decide +kernel
theorem d_M_thrown_1 : decode b_M_thrown 1 = .ok (.getfield 55, 3) := by decide +kernel
theorem d_M_thrown_4 : decode b_M_thrown 4 = .ok (.ireturn, 1) := by decide +kernel
theorem d_M_in_0 : decode b_M_in 0 = .ok (.iload_n 0, 1) := by decide +kernel
theorem d_M_in_1 : decode b_M_in 1 = .ok (.iload_n 1, 1) := by decide +kernel
theorem d_M_in_2 : decode b_M_in 2 = .ok (.if_icmp .lt 12, 3) := by decide +kernel
theorem d_M_in_5 : decode b_M_in 5 = .ok (.iload_n 0, 1) := by decide +kernel
theorem d_M_in_6 : decode b_M_in 6 = .ok (.iload_n 2, 1) := by decide +kernel
theorem d_M_in_7 : decode b_M_in 7 = .ok (.if_icmp .gt 7, 3) := by decide +kernel
theorem d_M_in_10 : decode b_M_in 10 = .ok (.iconst 1, 1) := by decide +kernel
theorem d_M_in_11 : decode b_M_in 11 = .ok (.goto 4, 3) := by decide +kernel
theorem d_M_in_14 : decode b_M_in 14 = .ok (.iconst 0, 1) := by decide +kernel
theorem d_M_in_15 : decode b_M_in 15 = .ok (.ireturn, 1) := by decide +kernel
theorem d_M_refuse_0 : decode b_M_refuse 0 = .ok (.aload_n 0, 1) := by decide +kernel
theorem d_M_refuse_1 : decode b_M_refuse 1 = .ok (.iload_n 1, 1) := by decide +kernel
theorem d_M_refuse_2 : decode b_M_refuse 2 = .ok (.putfield 55, 3) := by decide +kernel
theorem d_M_refuse_5 : decode b_M_refuse 5 = .ok (.iconst 0, 1) := by decide +kernel
theorem d_M_refuse_6 : decode b_M_refuse 6 = .ok (.ireturn, 1) := by decide +kernel
theorem d_M_pinsOf_0 : decode b_M_pinsOf 0 = .ok (.aload_n 0, 1) := by decide +kernel
theorem d_M_pinsOf_1 : decode b_M_pinsOf 1 = .ok (.getfield 13, 3) := by decide +kernel
theorem d_M_pinsOf_4 : decode b_M_pinsOf 4 = .ok (.iload_n 1, 1) := by decide +kernel
theorem d_M_pinsOf_5 : decode b_M_pinsOf 5 = .ok (.iaload, 1) := by decide +kernel
theorem d_M_pinsOf_6 : decode b_M_pinsOf 6 = .ok (.iconst 2, 1) := by decide +kernel
theorem d_M_pinsOf_7 : decode b_M_pinsOf 7 = .ok (.if_icmp .ge 7, 3) := by decide +kernel
theorem d_M_pinsOf_10 : decode b_M_pinsOf 10 = .ok (.iconst 2, 1) := by decide +kernel
theorem d_M_pinsOf_11 : decode b_M_pinsOf 11 = .ok (.goto 4, 3) := by decide +kernel
theorem d_M_pinsOf_14 : decode b_M_pinsOf 14 = .ok (.iconst 3, 1) := by decide +kernel
theorem d_M_pinsOf_15 : decode b_M_pinsOf 15 = .ok (.ireturn, 1) := by decide +kernel
theorem d_M_netOf_0 : decode b_M_netOf 0 = .ok (.iload_n 2, 1) := by decide +kernel
theorem d_M_netOf_1 : decode b_M_netOf 1 = .ok (.aload_n 0, 1) := by decide +kernel
theorem d_M_netOf_2 : decode b_M_netOf 2 = .ok (.iload_n 1, 1) := by decide +kernel
theorem d_M_netOf_3 : decode b_M_netOf 3 = .ok (.invokevirtual 58, 3) := by decide +kernel
theorem d_M_netOf_6 : decode b_M_netOf 6 = .ok (.iconst 1, 1) := by decide +kernel
theorem d_M_netOf_7 : decode b_M_netOf 7 = .ok (.isub, 1) := by decide +kernel
theorem d_M_netOf_8 : decode b_M_netOf 8 = .ok (.if_icmp .ne 12, 3) := by decide +kernel
theorem d_M_netOf_11 : decode b_M_netOf 11 = .ok (.aload_n 0, 1) := by decide +kernel
theorem d_M_netOf_12 : decode b_M_netOf 12 = .ok (.getfield 23, 3) := by decide +kernel
theorem d_M_netOf_15 : decode b_M_netOf 15 = .ok (.iload_n 1, 1) := by decide +kernel
theorem d_M_netOf_16 : decode b_M_netOf 16 = .ok (.iaload, 1) := by decide +kernel
theorem d_M_netOf_17 : decode b_M_netOf 17 = .ok (.goto 22, 3) := by decide +kernel
theorem d_M_netOf_20 : decode b_M_netOf 20 = .ok (.iload_n 2, 1) := by decide +kernel
theorem d_M_netOf_21 : decode b_M_netOf 21 = .ok (.ifCond .ne 12, 3) := by decide +kernel
theorem d_M_netOf_24 : decode b_M_netOf 24 = .ok (.aload_n 0, 1) := by decide +kernel
theorem d_M_netOf_25 : decode b_M_netOf 25 = .ok (.getfield 17, 3) := by decide +kernel
theorem d_M_netOf_28 : decode b_M_netOf 28 = .ok (.iload_n 1, 1) := by decide +kernel
theorem d_M_netOf_29 : decode b_M_netOf 29 = .ok (.iaload, 1) := by decide +kernel
theorem d_M_netOf_30 : decode b_M_netOf 30 = .ok (.goto 9, 3) := by decide +kernel
theorem d_M_netOf_33 : decode b_M_netOf 33 = .ok (.aload_n 0, 1) := by decide +kernel
theorem d_M_netOf_34 : decode b_M_netOf 34 = .ok (.getfield 20, 3) := by decide +kernel
theorem d_M_netOf_37 : decode b_M_netOf 37 = .ok (.iload_n 1, 1) := by decide +kernel
theorem d_M_netOf_38 : decode b_M_netOf 38 = .ok (.iaload, 1) := by decide +kernel
theorem d_M_netOf_39 : decode b_M_netOf 39 = .ok (.ireturn, 1) := by decide +kernel
theorem d_M_driver_0 : decode b_M_driver 0 = .ok (.iconst 0, 1) := by decide +kernel
theorem d_M_driver_1 : decode b_M_driver 1 = .ok (.istore_n 2, 1) := by decide +kernel
theorem d_M_driver_2 : decode b_M_driver 2 = .ok (.iload_n 2, 1) := by decide +kernel
theorem d_M_driver_3 : decode b_M_driver 3 = .ok (.aload_n 0, 1) := by decide +kernel
theorem d_M_driver_4 : decode b_M_driver 4 = .ok (.getfield 62, 3) := by decide +kernel
theorem d_M_driver_7 : decode b_M_driver 7 = .ok (.if_icmp .ge 21, 3) := by decide +kernel
theorem d_M_driver_10 : decode b_M_driver 10 = .ok (.aload_n 0, 1) := by decide +kernel
theorem d_M_driver_11 : decode b_M_driver 11 = .ok (.getfield 23, 3) := by decide +kernel
theorem d_M_driver_14 : decode b_M_driver 14 = .ok (.iload_n 2, 1) := by decide +kernel
theorem d_M_driver_15 : decode b_M_driver 15 = .ok (.iaload, 1) := by decide +kernel
theorem d_M_driver_16 : decode b_M_driver 16 = .ok (.iload_n 1, 1) := by decide +kernel
theorem d_M_driver_17 : decode b_M_driver 17 = .ok (.if_icmp .ne 5, 3) := by decide +kernel
theorem d_M_driver_20 : decode b_M_driver 20 = .ok (.iload_n 2, 1) := by decide +kernel
theorem d_M_driver_21 : decode b_M_driver 21 = .ok (.ireturn, 1) := by decide +kernel
theorem d_M_driver_22 : decode b_M_driver 22 = .ok (.iinc 2 1, 3) := by decide +kernel
theorem d_M_driver_25 : decode b_M_driver 25 = .ok (.goto (-23), 3) := by decide +kernel
theorem d_M_driver_28 : decode b_M_driver 28 = .ok (.iconst (-1), 1) := by decide +kernel
theorem d_M_driver_29 : decode b_M_driver 29 = .ok (.ireturn, 1) := by decide +kernel
theorem d_M_gate_0 : decode b_M_gate 0 = .ok (.iload_n 1, 1) := by decide +kernel
theorem d_M_gate_1 : decode b_M_gate 1 = .ok (.iconst 0, 1) := by decide +kernel
theorem d_M_gate_2 : decode b_M_gate 2 = .ok (.iconst 3, 1) := by decide +kernel
theorem d_M_gate_3 : decode b_M_gate 3 = .ok (.invokestatic 65, 3) := by decide +kernel
theorem d_M_gate_6 : decode b_M_gate 6 = .ok (.ifCond .eq 49, 3) := by decide +kernel
theorem d_M_gate_9 : decode b_M_gate 9 = .ok (.iload_n 2, 1) := by decide +kernel
theorem d_M_gate_10 : decode b_M_gate 10 = .ok (.iconst 0, 1) := by decide +kernel
theorem d_M_gate_11 : decode b_M_gate 11 = .ok (.bipush 11, 2) := by decide +kernel
theorem d_M_gate_13 : decode b_M_gate 13 = .ok (.invokestatic 65, 3) := by decide +kernel
theorem d_M_gate_16 : decode b_M_gate 16 = .ok (.ifCond .eq 39, 3) := by decide +kernel
theorem d_M_gate_19 : decode b_M_gate 19 = .ok (.iload_n 1, 1) := by decide +kernel
theorem d_M_gate_20 : decode b_M_gate 20 = .ok (.iconst 1, 1) := by decide +kernel
theorem d_M_gate_21 : decode b_M_gate 21 = .ok (.if_icmp .le 13, 3) := by decide +kernel
theorem d_M_gate_24 : decode b_M_gate 24 = .ok (.iload_n 3, 1) := by decide +kernel
theorem d_M_gate_25 : decode b_M_gate 25 = .ok (.iconst 0, 1) := by decide +kernel
theorem d_M_gate_26 : decode b_M_gate 26 = .ok (.bipush 11, 2) := by decide +kernel
theorem d_M_gate_28 : decode b_M_gate 28 = .ok (.invokestatic 65, 3) := by decide +kernel
theorem d_M_gate_31 : decode b_M_gate 31 = .ok (.ifCond .eq 24, 3) := by decide +kernel
theorem d_M_gate_34 : decode b_M_gate 34 = .ok (.iload 4, 2) := by decide +kernel
theorem d_M_gate_36 : decode b_M_gate 36 = .ok (.iconst 0, 1) := by decide +kernel
theorem d_M_gate_37 : decode b_M_gate 37 = .ok (.bipush 11, 2) := by decide +kernel
theorem d_M_gate_39 : decode b_M_gate 39 = .ok (.invokestatic 65, 3) := by decide +kernel
theorem d_M_gate_42 : decode b_M_gate 42 = .ok (.ifCond .eq 13, 3) := by decide +kernel
theorem d_M_gate_45 : decode b_M_gate 45 = .ok (.iload 5, 2) := by decide +kernel
theorem d_M_gate_47 : decode b_M_gate 47 = .ok (.iconst 0, 1) := by decide +kernel
theorem d_M_gate_48 : decode b_M_gate 48 = .ok (.iconst 1, 1) := by decide +kernel
theorem d_M_gate_49 : decode b_M_gate 49 = .ok (.invokestatic 65, 3) := by decide +kernel
theorem d_M_gate_52 : decode b_M_gate 52 = .ok (.ifCond .ne 9, 3) := by decide +kernel
theorem d_M_gate_55 : decode b_M_gate 55 = .ok (.aload_n 0, 1) := by decide +kernel
theorem d_M_gate_56 : decode b_M_gate 56 = .ok (.iconst 1, 1) := by decide +kernel
theorem d_M_gate_57 : decode b_M_gate 57 = .ok (.invokevirtual 69, 3) := by decide +kernel
theorem d_M_gate_60 : decode b_M_gate 60 = .ok (.ireturn, 1) := by decide +kernel
theorem d_M_gate_61 : decode b_M_gate 61 = .ok (.iload_n 1, 1) := by decide +kernel
theorem d_M_gate_62 : decode b_M_gate 62 = .ok (.iconst 2, 1) := by decide +kernel
theorem d_M_gate_63 : decode b_M_gate 63 = .ok (.if_icmp .ge 7, 3) := by decide +kernel
theorem d_M_gate_66 : decode b_M_gate 66 = .ok (.iconst 2, 1) := by decide +kernel
theorem d_M_gate_67 : decode b_M_gate 67 = .ok (.goto 4, 3) := by decide +kernel
theorem d_M_gate_70 : decode b_M_gate 70 = .ok (.iconst 3, 1) := by decide +kernel
theorem d_M_gate_71 : decode b_M_gate 71 = .ok (.istore 6, 2) := by decide +kernel
theorem d_M_gate_73 : decode b_M_gate 73 = .ok (.aload_n 0, 1) := by decide +kernel
theorem d_M_gate_74 : decode b_M_gate 74 = .ok (.getfield 62, 3) := by decide +kernel
theorem d_M_gate_77 : decode b_M_gate 77 = .ok (.bipush 12, 2) := by decide +kernel
theorem d_M_gate_79 : decode b_M_gate 79 = .ok (.if_icmp .eq 28, 3) := by decide +kernel
theorem d_M_gate_82 : decode b_M_gate 82 = .ok (.aload_n 0, 1) := by decide +kernel
theorem d_M_gate_83 : decode b_M_gate 83 = .ok (.getfield 32, 3) := by decide +kernel
theorem d_M_gate_86 : decode b_M_gate 86 = .ok (.iload 5, 2) := by decide +kernel
theorem d_M_gate_88 : decode b_M_gate 88 = .ok (.iaload, 1) := by decide +kernel
theorem d_M_gate_89 : decode b_M_gate 89 = .ok (.iload 6, 2) := by decide +kernel
theorem d_M_gate_91 : decode b_M_gate 91 = .ok (.iadd, 1) := by decide +kernel
theorem d_M_gate_92 : decode b_M_gate 92 = .ok (.bipush 24, 2) := by decide +kernel
theorem d_M_gate_94 : decode b_M_gate 94 = .ok (.if_icmp .gt 13, 3) := by decide +kernel
theorem d_M_gate_97 : decode b_M_gate 97 = .ok (.aload_n 0, 1) := by decide +kernel
theorem d_M_gate_98 : decode b_M_gate 98 = .ok (.iload 4, 2) := by decide +kernel
theorem d_M_gate_100 : decode b_M_gate 100 = .ok (.invokevirtual 72, 3) := by decide +kernel
theorem d_M_gate_103 : decode b_M_gate 103 = .ok (.iconst (-1), 1) := by decide +kernel
theorem d_M_gate_104 : decode b_M_gate 104 = .ok (.if_icmp .eq 9, 3) := by decide +kernel
theorem d_M_gate_107 : decode b_M_gate 107 = .ok (.aload_n 0, 1) := by decide +kernel
theorem d_M_gate_108 : decode b_M_gate 108 = .ok (.iconst 2, 1) := by decide +kernel
theorem d_M_gate_109 : decode b_M_gate 109 = .ok (.invokevirtual 69, 3) := by decide +kernel
theorem d_M_gate_112 : decode b_M_gate 112 = .ok (.ireturn, 1) := by decide +kernel
theorem d_M_gate_113 : decode b_M_gate 113 = .ok (.aload_n 0, 1) := by decide +kernel
theorem d_M_gate_114 : decode b_M_gate 114 = .ok (.iconst 0, 1) := by decide +kernel
theorem d_M_gate_115 : decode b_M_gate 115 = .ok (.putfield 55, 3) := by decide +kernel
theorem d_M_gate_118 : decode b_M_gate 118 = .ok (.aload_n 0, 1) := by decide +kernel
theorem d_M_gate_119 : decode b_M_gate 119 = .ok (.getfield 13, 3) := by decide +kernel
theorem d_M_gate_122 : decode b_M_gate 122 = .ok (.aload_n 0, 1) := by decide +kernel
theorem d_M_gate_123 : decode b_M_gate 123 = .ok (.getfield 62, 3) := by decide +kernel
theorem d_M_gate_126 : decode b_M_gate 126 = .ok (.iload_n 1, 1) := by decide +kernel
theorem d_M_gate_127 : decode b_M_gate 127 = .ok (.iastore, 1) := by decide +kernel
theorem d_M_gate_128 : decode b_M_gate 128 = .ok (.aload_n 0, 1) := by decide +kernel
theorem d_M_gate_129 : decode b_M_gate 129 = .ok (.getfield 17, 3) := by decide +kernel
theorem d_M_gate_132 : decode b_M_gate 132 = .ok (.aload_n 0, 1) := by decide +kernel
theorem d_M_gate_133 : decode b_M_gate 133 = .ok (.getfield 62, 3) := by decide +kernel
theorem d_M_gate_136 : decode b_M_gate 136 = .ok (.iload_n 2, 1) := by decide +kernel
theorem d_M_gate_137 : decode b_M_gate 137 = .ok (.iastore, 1) := by decide +kernel
theorem d_M_gate_138 : decode b_M_gate 138 = .ok (.aload_n 0, 1) := by decide +kernel
theorem d_M_gate_139 : decode b_M_gate 139 = .ok (.getfield 20, 3) := by decide +kernel
theorem d_M_gate_142 : decode b_M_gate 142 = .ok (.aload_n 0, 1) := by decide +kernel
theorem d_M_gate_143 : decode b_M_gate 143 = .ok (.getfield 62, 3) := by decide +kernel
theorem d_M_gate_146 : decode b_M_gate 146 = .ok (.iload_n 1, 1) := by decide +kernel
theorem d_M_gate_147 : decode b_M_gate 147 = .ok (.iconst 1, 1) := by decide +kernel
theorem d_M_gate_148 : decode b_M_gate 148 = .ok (.if_icmp .le 7, 3) := by decide +kernel
theorem d_M_gate_151 : decode b_M_gate 151 = .ok (.iload_n 3, 1) := by decide +kernel
theorem d_M_gate_152 : decode b_M_gate 152 = .ok (.goto 4, 3) := by decide +kernel
theorem d_M_gate_155 : decode b_M_gate 155 = .ok (.iconst (-1), 1) := by decide +kernel
theorem d_M_gate_156 : decode b_M_gate 156 = .ok (.iastore, 1) := by decide +kernel
theorem d_M_gate_157 : decode b_M_gate 157 = .ok (.aload_n 0, 1) := by decide +kernel
theorem d_M_gate_158 : decode b_M_gate 158 = .ok (.getfield 23, 3) := by decide +kernel
theorem d_M_gate_161 : decode b_M_gate 161 = .ok (.aload_n 0, 1) := by decide +kernel
theorem d_M_gate_162 : decode b_M_gate 162 = .ok (.getfield 62, 3) := by decide +kernel
theorem d_M_gate_165 : decode b_M_gate 165 = .ok (.iload 4, 2) := by decide +kernel
theorem d_M_gate_167 : decode b_M_gate 167 = .ok (.iastore, 1) := by decide +kernel
theorem d_M_gate_168 : decode b_M_gate 168 = .ok (.aload_n 0, 1) := by decide +kernel
theorem d_M_gate_169 : decode b_M_gate 169 = .ok (.getfield 26, 3) := by decide +kernel
theorem d_M_gate_172 : decode b_M_gate 172 = .ok (.aload_n 0, 1) := by decide +kernel
theorem d_M_gate_173 : decode b_M_gate 173 = .ok (.getfield 62, 3) := by decide +kernel
theorem d_M_gate_176 : decode b_M_gate 176 = .ok (.iload 5, 2) := by decide +kernel
theorem d_M_gate_178 : decode b_M_gate 178 = .ok (.iastore, 1) := by decide +kernel
theorem d_M_gate_179 : decode b_M_gate 179 = .ok (.aload_n 0, 1) := by decide +kernel
theorem d_M_gate_180 : decode b_M_gate 180 = .ok (.getfield 29, 3) := by decide +kernel
theorem d_M_gate_183 : decode b_M_gate 183 = .ok (.aload_n 0, 1) := by decide +kernel
theorem d_M_gate_184 : decode b_M_gate 184 = .ok (.getfield 62, 3) := by decide +kernel
theorem d_M_gate_187 : decode b_M_gate 187 = .ok (.aload_n 0, 1) := by decide +kernel
theorem d_M_gate_188 : decode b_M_gate 188 = .ok (.getfield 32, 3) := by decide +kernel
theorem d_M_gate_191 : decode b_M_gate 191 = .ok (.iload 5, 2) := by decide +kernel
theorem d_M_gate_193 : decode b_M_gate 193 = .ok (.iaload, 1) := by decide +kernel
theorem d_M_gate_194 : decode b_M_gate 194 = .ok (.iastore, 1) := by decide +kernel
theorem d_M_gate_195 : decode b_M_gate 195 = .ok (.aload_n 0, 1) := by decide +kernel
theorem d_M_gate_196 : decode b_M_gate 196 = .ok (.getfield 32, 3) := by decide +kernel
theorem d_M_gate_199 : decode b_M_gate 199 = .ok (.iload 5, 2) := by decide +kernel
theorem d_M_gate_201 : decode b_M_gate 201 = .ok (.dup2, 1) := by decide +kernel
theorem d_M_gate_202 : decode b_M_gate 202 = .ok (.iaload, 1) := by decide +kernel
theorem d_M_gate_203 : decode b_M_gate 203 = .ok (.iload 6, 2) := by decide +kernel
theorem d_M_gate_205 : decode b_M_gate 205 = .ok (.iconst 1, 1) := by decide +kernel
theorem d_M_gate_206 : decode b_M_gate 206 = .ok (.iadd, 1) := by decide +kernel
theorem d_M_gate_207 : decode b_M_gate 207 = .ok (.iadd, 1) := by decide +kernel
theorem d_M_gate_208 : decode b_M_gate 208 = .ok (.iastore, 1) := by decide +kernel
theorem d_M_gate_209 : decode b_M_gate 209 = .ok (.aload_n 0, 1) := by decide +kernel
theorem d_M_gate_210 : decode b_M_gate 210 = .ok (.dup, 1) := by decide +kernel
theorem d_M_gate_211 : decode b_M_gate 211 = .ok (.getfield 62, 3) := by decide +kernel
theorem d_M_gate_214 : decode b_M_gate 214 = .ok (.iconst 1, 1) := by decide +kernel
theorem d_M_gate_215 : decode b_M_gate 215 = .ok (.iadd, 1) := by decide +kernel
theorem d_M_gate_216 : decode b_M_gate 216 = .ok (.putfield 62, 3) := by decide +kernel
theorem d_M_gate_219 : decode b_M_gate 219 = .ok (.aload_n 0, 1) := by decide +kernel
theorem d_M_gate_220 : decode b_M_gate 220 = .ok (.iconst (-1), 1) := by decide +kernel
theorem d_M_gate_221 : decode b_M_gate 221 = .ok (.putfield 9, 3) := by decide +kernel
theorem d_M_gate_224 : decode b_M_gate 224 = .ok (.aload_n 0, 1) := by decide +kernel
theorem d_M_gate_225 : decode b_M_gate 225 = .ok (.getfield 62, 3) := by decide +kernel
theorem d_M_gate_228 : decode b_M_gate 228 = .ok (.iconst 1, 1) := by decide +kernel
theorem d_M_gate_229 : decode b_M_gate 229 = .ok (.isub, 1) := by decide +kernel
theorem d_M_gate_230 : decode b_M_gate 230 = .ok (.ireturn, 1) := by decide +kernel
theorem d_M_clear_0 : decode b_M_clear 0 = .ok (.aload_n 0, 1) := by decide +kernel
theorem d_M_clear_1 : decode b_M_clear 1 = .ok (.iconst 0, 1) := by decide +kernel
theorem d_M_clear_2 : decode b_M_clear 2 = .ok (.putfield 55, 3) := by decide +kernel
theorem d_M_clear_5 : decode b_M_clear 5 = .ok (.aload_n 0, 1) := by decide +kernel
theorem d_M_clear_6 : decode b_M_clear 6 = .ok (.getfield 62, 3) := by decide +kernel
theorem d_M_clear_9 : decode b_M_clear 9 = .ok (.istore_n 1, 1) := by decide +kernel
theorem d_M_clear_10 : decode b_M_clear 10 = .ok (.aload_n 0, 1) := by decide +kernel
theorem d_M_clear_11 : decode b_M_clear 11 = .ok (.iconst 0, 1) := by decide +kernel
theorem d_M_clear_12 : decode b_M_clear 12 = .ok (.putfield 62, 3) := by decide +kernel
theorem d_M_clear_15 : decode b_M_clear 15 = .ok (.aload_n 0, 1) := by decide +kernel
theorem d_M_clear_16 : decode b_M_clear 16 = .ok (.getfield 32, 3) := by decide +kernel
theorem d_M_clear_19 : decode b_M_clear 19 = .ok (.iconst 0, 1) := by decide +kernel
theorem d_M_clear_20 : decode b_M_clear 20 = .ok (.iconst 1, 1) := by decide +kernel
theorem d_M_clear_21 : decode b_M_clear 21 = .ok (.iastore, 1) := by decide +kernel
theorem d_M_clear_22 : decode b_M_clear 22 = .ok (.aload_n 0, 1) := by decide +kernel
theorem d_M_clear_23 : decode b_M_clear 23 = .ok (.getfield 32, 3) := by decide +kernel
theorem d_M_clear_26 : decode b_M_clear 26 = .ok (.iconst 1, 1) := by decide +kernel
theorem d_M_clear_27 : decode b_M_clear 27 = .ok (.iconst 1, 1) := by decide +kernel
theorem d_M_clear_28 : decode b_M_clear 28 = .ok (.iastore, 1) := by decide +kernel
theorem d_M_clear_29 : decode b_M_clear 29 = .ok (.aload_n 0, 1) := by decide +kernel
theorem d_M_clear_30 : decode b_M_clear 30 = .ok (.iconst (-1), 1) := by decide +kernel
theorem d_M_clear_31 : decode b_M_clear 31 = .ok (.putfield 9, 3) := by decide +kernel
theorem d_M_clear_34 : decode b_M_clear 34 = .ok (.iload_n 1, 1) := by decide +kernel
theorem d_M_clear_35 : decode b_M_clear 35 = .ok (.ireturn, 1) := by decide +kernel
theorem d_M_pins_0 : decode b_M_pins 0 = .ok (.iconst 0, 1) := by decide +kernel
theorem d_M_pins_1 : decode b_M_pins 1 = .ok (.istore_n 2, 1) := by decide +kernel
theorem d_M_pins_2 : decode b_M_pins 2 = .ok (.iconst 0, 1) := by decide +kernel
theorem d_M_pins_3 : decode b_M_pins 3 = .ok (.istore_n 3, 1) := by decide +kernel
theorem d_M_pins_4 : decode b_M_pins 4 = .ok (.iload_n 3, 1) := by decide +kernel
theorem d_M_pins_5 : decode b_M_pins 5 = .ok (.aload_n 0, 1) := by decide +kernel
theorem d_M_pins_6 : decode b_M_pins 6 = .ok (.getfield 62, 3) := by decide +kernel
theorem d_M_pins_9 : decode b_M_pins 9 = .ok (.if_icmp .ge 42, 3) := by decide +kernel
theorem d_M_pins_12 : decode b_M_pins 12 = .ok (.iconst 0, 1) := by decide +kernel
theorem d_M_pins_13 : decode b_M_pins 13 = .ok (.istore 4, 2) := by decide +kernel
theorem d_M_pins_15 : decode b_M_pins 15 = .ok (.iload 4, 2) := by decide +kernel
theorem d_M_pins_17 : decode b_M_pins 17 = .ok (.aload_n 0, 1) := by decide +kernel
theorem d_M_pins_18 : decode b_M_pins 18 = .ok (.iload_n 3, 1) := by decide +kernel
theorem d_M_pins_19 : decode b_M_pins 19 = .ok (.invokevirtual 58, 3) := by decide +kernel
theorem d_M_pins_22 : decode b_M_pins 22 = .ok (.if_icmp .ge 23, 3) := by decide +kernel
theorem d_M_pins_25 : decode b_M_pins 25 = .ok (.aload_n 0, 1) := by decide +kernel
theorem d_M_pins_26 : decode b_M_pins 26 = .ok (.iload_n 3, 1) := by decide +kernel
theorem d_M_pins_27 : decode b_M_pins 27 = .ok (.iload 4, 2) := by decide +kernel
theorem d_M_pins_29 : decode b_M_pins 29 = .ok (.invokevirtual 75, 3) := by decide +kernel
theorem d_M_pins_32 : decode b_M_pins 32 = .ok (.iload_n 1, 1) := by decide +kernel
theorem d_M_pins_33 : decode b_M_pins 33 = .ok (.if_icmp .ne 6, 3) := by decide +kernel
theorem d_M_pins_36 : decode b_M_pins 36 = .ok (.iinc 2 1, 3) := by decide +kernel
theorem d_M_pins_39 : decode b_M_pins 39 = .ok (.iinc 4 1, 3) := by decide +kernel
theorem d_M_pins_42 : decode b_M_pins 42 = .ok (.goto (-27), 3) := by decide +kernel
theorem d_M_pins_45 : decode b_M_pins 45 = .ok (.iinc 3 1, 3) := by decide +kernel
theorem d_M_pins_48 : decode b_M_pins 48 = .ok (.goto (-44), 3) := by decide +kernel
theorem d_M_pins_51 : decode b_M_pins 51 = .ok (.iload_n 2, 1) := by decide +kernel
theorem d_M_pins_52 : decode b_M_pins 52 = .ok (.ireturn, 1) := by decide +kernel
theorem d_M_hasPad_0 : decode b_M_hasPad 0 = .ok (.aload_n 0, 1) := by decide +kernel
theorem d_M_hasPad_1 : decode b_M_hasPad 1 = .ok (.iload_n 1, 1) := by decide +kernel
theorem d_M_hasPad_2 : decode b_M_hasPad 2 = .ok (.invokevirtual 72, 3) := by decide +kernel
theorem d_M_hasPad_5 : decode b_M_hasPad 5 = .ok (.iconst (-1), 1) := by decide +kernel
theorem d_M_hasPad_6 : decode b_M_hasPad 6 = .ok (.if_icmp .ne 15, 3) := by decide +kernel
theorem d_M_hasPad_9 : decode b_M_hasPad 9 = .ok (.aload_n 0, 1) := by decide +kernel
theorem d_M_hasPad_10 : decode b_M_hasPad 10 = .ok (.iload_n 1, 1) := by decide +kernel
theorem d_M_hasPad_11 : decode b_M_hasPad 11 = .ok (.invokevirtual 79, 3) := by decide +kernel
theorem d_M_hasPad_14 : decode b_M_hasPad 14 = .ok (.ifCond .le 7, 3) := by decide +kernel
theorem d_M_hasPad_17 : decode b_M_hasPad 17 = .ok (.iconst 1, 1) := by decide +kernel
theorem d_M_hasPad_18 : decode b_M_hasPad 18 = .ok (.goto 4, 3) := by decide +kernel
theorem d_M_hasPad_21 : decode b_M_hasPad 21 = .ok (.iconst 0, 1) := by decide +kernel
theorem d_M_hasPad_22 : decode b_M_hasPad 22 = .ok (.ireturn, 1) := by decide +kernel
theorem d_M_isWired_0 : decode b_M_isWired 0 = .ok (.aload_n 0, 1) := by decide +kernel
theorem d_M_isWired_1 : decode b_M_isWired 1 = .ok (.iload_n 1, 1) := by decide +kernel
theorem d_M_isWired_2 : decode b_M_isWired 2 = .ok (.invokevirtual 79, 3) := by decide +kernel
theorem d_M_isWired_5 : decode b_M_isWired 5 = .ok (.iconst 1, 1) := by decide +kernel
theorem d_M_isWired_6 : decode b_M_isWired 6 = .ok (.if_icmp .gt 11, 3) := by decide +kernel
theorem d_M_isWired_9 : decode b_M_isWired 9 = .ok (.aload_n 0, 1) := by decide +kernel
theorem d_M_isWired_10 : decode b_M_isWired 10 = .ok (.iload_n 1, 1) := by decide +kernel
theorem d_M_isWired_11 : decode b_M_isWired 11 = .ok (.invokevirtual 82, 3) := by decide +kernel
theorem d_M_isWired_14 : decode b_M_isWired 14 = .ok (.ifCond .eq 7, 3) := by decide +kernel
theorem d_M_isWired_17 : decode b_M_isWired 17 = .ok (.iconst 1, 1) := by decide +kernel
theorem d_M_isWired_18 : decode b_M_isWired 18 = .ok (.goto 4, 3) := by decide +kernel
theorem d_M_isWired_21 : decode b_M_isWired 21 = .ok (.iconst 0, 1) := by decide +kernel
theorem d_M_isWired_22 : decode b_M_isWired 22 = .ok (.ireturn, 1) := by decide +kernel
theorem d_M_left_0 : decode b_M_left 0 = .ok (.aload_n 0, 1) := by decide +kernel
theorem d_M_left_1 : decode b_M_left 1 = .ok (.iload_n 1, 1) := by decide +kernel
theorem d_M_left_2 : decode b_M_left 2 = .ok (.invokevirtual 82, 3) := by decide +kernel
theorem d_M_left_5 : decode b_M_left 5 = .ok (.ifCond .eq 7, 3) := by decide +kernel
theorem d_M_left_8 : decode b_M_left 8 = .ok (.iconst 0, 1) := by decide +kernel
theorem d_M_left_9 : decode b_M_left 9 = .ok (.goto 5, 3) := by decide +kernel
theorem d_M_left_12 : decode b_M_left 12 = .ok (.bipush 24, 2) := by decide +kernel
theorem d_M_left_14 : decode b_M_left 14 = .ok (.istore_n 2, 1) := by decide +kernel
theorem d_M_left_15 : decode b_M_left 15 = .ok (.iconst 0, 1) := by decide +kernel
theorem d_M_left_16 : decode b_M_left 16 = .ok (.istore_n 3, 1) := by decide +kernel
theorem d_M_left_17 : decode b_M_left 17 = .ok (.iload_n 3, 1) := by decide +kernel
theorem d_M_left_18 : decode b_M_left 18 = .ok (.aload_n 0, 1) := by decide +kernel
theorem d_M_left_19 : decode b_M_left 19 = .ok (.getfield 62, 3) := by decide +kernel
theorem d_M_left_22 : decode b_M_left 22 = .ok (.if_icmp .ge 62, 3) := by decide +kernel
theorem d_M_left_25 : decode b_M_left 25 = .ok (.iconst 0, 1) := by decide +kernel
theorem d_M_left_26 : decode b_M_left 26 = .ok (.istore 4, 2) := by decide +kernel
theorem d_M_left_28 : decode b_M_left 28 = .ok (.iload 4, 2) := by decide +kernel
theorem d_M_left_30 : decode b_M_left 30 = .ok (.aload_n 0, 1) := by decide +kernel
theorem d_M_left_31 : decode b_M_left 31 = .ok (.iload_n 3, 1) := by decide +kernel
theorem d_M_left_32 : decode b_M_left 32 = .ok (.invokevirtual 58, 3) := by decide +kernel
theorem d_M_left_35 : decode b_M_left 35 = .ok (.if_icmp .ge 43, 3) := by decide +kernel
theorem d_M_left_38 : decode b_M_left 38 = .ok (.aload_n 0, 1) := by decide +kernel
theorem d_M_left_39 : decode b_M_left 39 = .ok (.iload_n 3, 1) := by decide +kernel
theorem d_M_left_40 : decode b_M_left 40 = .ok (.iload 4, 2) := by decide +kernel
theorem d_M_left_42 : decode b_M_left 42 = .ok (.invokevirtual 75, 3) := by decide +kernel
theorem d_M_left_45 : decode b_M_left 45 = .ok (.iload_n 1, 1) := by decide +kernel
theorem d_M_left_46 : decode b_M_left 46 = .ok (.if_icmp .ne 26, 3) := by decide +kernel
theorem d_M_left_49 : decode b_M_left 49 = .ok (.aload_n 0, 1) := by decide +kernel
theorem d_M_left_50 : decode b_M_left 50 = .ok (.getfield 29, 3) := by decide +kernel
theorem d_M_left_53 : decode b_M_left 53 = .ok (.iload_n 3, 1) := by decide +kernel
theorem d_M_left_54 : decode b_M_left 54 = .ok (.iaload, 1) := by decide +kernel
theorem d_M_left_55 : decode b_M_left 55 = .ok (.iload 4, 2) := by decide +kernel
theorem d_M_left_57 : decode b_M_left 57 = .ok (.iadd, 1) := by decide +kernel
theorem d_M_left_58 : decode b_M_left 58 = .ok (.iload_n 2, 1) := by decide +kernel
theorem d_M_left_59 : decode b_M_left 59 = .ok (.if_icmp .ge 13, 3) := by decide +kernel
theorem d_M_left_62 : decode b_M_left 62 = .ok (.aload_n 0, 1) := by decide +kernel
theorem d_M_left_63 : decode b_M_left 63 = .ok (.getfield 29, 3) := by decide +kernel
theorem d_M_left_66 : decode b_M_left 66 = .ok (.iload_n 3, 1) := by decide +kernel
theorem d_M_left_67 : decode b_M_left 67 = .ok (.iaload, 1) := by decide +kernel
theorem d_M_left_68 : decode b_M_left 68 = .ok (.iload 4, 2) := by decide +kernel
theorem d_M_left_70 : decode b_M_left 70 = .ok (.iadd, 1) := by decide +kernel
theorem d_M_left_71 : decode b_M_left 71 = .ok (.istore_n 2, 1) := by decide +kernel
theorem d_M_left_72 : decode b_M_left 72 = .ok (.iinc 4 1, 3) := by decide +kernel
theorem d_M_left_75 : decode b_M_left 75 = .ok (.goto (-47), 3) := by decide +kernel
theorem d_M_left_78 : decode b_M_left 78 = .ok (.iinc 3 1, 3) := by decide +kernel
theorem d_M_left_81 : decode b_M_left 81 = .ok (.goto (-64), 3) := by decide +kernel
theorem d_M_left_84 : decode b_M_left 84 = .ok (.iload_n 2, 1) := by decide +kernel
theorem d_M_left_85 : decode b_M_left 85 = .ok (.ireturn, 1) := by decide +kernel
theorem d_M_right_0 : decode b_M_right 0 = .ok (.iconst 0, 1) := by decide +kernel
theorem d_M_right_1 : decode b_M_right 1 = .ok (.istore_n 2, 1) := by decide +kernel
theorem d_M_right_2 : decode b_M_right 2 = .ok (.iconst 0, 1) := by decide +kernel
theorem d_M_right_3 : decode b_M_right 3 = .ok (.istore_n 3, 1) := by decide +kernel
theorem d_M_right_4 : decode b_M_right 4 = .ok (.iload_n 3, 1) := by decide +kernel
theorem d_M_right_5 : decode b_M_right 5 = .ok (.aload_n 0, 1) := by decide +kernel
theorem d_M_right_6 : decode b_M_right 6 = .ok (.getfield 62, 3) := by decide +kernel
theorem d_M_right_9 : decode b_M_right 9 = .ok (.if_icmp .ge 62, 3) := by decide +kernel
theorem d_M_right_12 : decode b_M_right 12 = .ok (.iconst 0, 1) := by decide +kernel
theorem d_M_right_13 : decode b_M_right 13 = .ok (.istore 4, 2) := by decide +kernel
theorem d_M_right_15 : decode b_M_right 15 = .ok (.iload 4, 2) := by decide +kernel
theorem d_M_right_17 : decode b_M_right 17 = .ok (.aload_n 0, 1) := by decide +kernel
theorem d_M_right_18 : decode b_M_right 18 = .ok (.iload_n 3, 1) := by decide +kernel
theorem d_M_right_19 : decode b_M_right 19 = .ok (.invokevirtual 58, 3) := by decide +kernel
theorem d_M_right_22 : decode b_M_right 22 = .ok (.if_icmp .ge 43, 3) := by decide +kernel
theorem d_M_right_25 : decode b_M_right 25 = .ok (.aload_n 0, 1) := by decide +kernel
theorem d_M_right_26 : decode b_M_right 26 = .ok (.iload_n 3, 1) := by decide +kernel
theorem d_M_right_27 : decode b_M_right 27 = .ok (.iload 4, 2) := by decide +kernel
theorem d_M_right_29 : decode b_M_right 29 = .ok (.invokevirtual 75, 3) := by decide +kernel
theorem d_M_right_32 : decode b_M_right 32 = .ok (.iload_n 1, 1) := by decide +kernel
theorem d_M_right_33 : decode b_M_right 33 = .ok (.if_icmp .ne 26, 3) := by decide +kernel
theorem d_M_right_36 : decode b_M_right 36 = .ok (.aload_n 0, 1) := by decide +kernel
theorem d_M_right_37 : decode b_M_right 37 = .ok (.getfield 29, 3) := by decide +kernel
theorem d_M_right_40 : decode b_M_right 40 = .ok (.iload_n 3, 1) := by decide +kernel
theorem d_M_right_41 : decode b_M_right 41 = .ok (.iaload, 1) := by decide +kernel
theorem d_M_right_42 : decode b_M_right 42 = .ok (.iload 4, 2) := by decide +kernel
theorem d_M_right_44 : decode b_M_right 44 = .ok (.iadd, 1) := by decide +kernel
theorem d_M_right_45 : decode b_M_right 45 = .ok (.iload_n 2, 1) := by decide +kernel
theorem d_M_right_46 : decode b_M_right 46 = .ok (.if_icmp .le 13, 3) := by decide +kernel
theorem d_M_right_49 : decode b_M_right 49 = .ok (.aload_n 0, 1) := by decide +kernel
theorem d_M_right_50 : decode b_M_right 50 = .ok (.getfield 29, 3) := by decide +kernel
theorem d_M_right_53 : decode b_M_right 53 = .ok (.iload_n 3, 1) := by decide +kernel
theorem d_M_right_54 : decode b_M_right 54 = .ok (.iaload, 1) := by decide +kernel
theorem d_M_right_55 : decode b_M_right 55 = .ok (.iload 4, 2) := by decide +kernel
theorem d_M_right_57 : decode b_M_right 57 = .ok (.iadd, 1) := by decide +kernel
theorem d_M_right_58 : decode b_M_right 58 = .ok (.istore_n 2, 1) := by decide +kernel
theorem d_M_right_59 : decode b_M_right 59 = .ok (.iinc 4 1, 3) := by decide +kernel
theorem d_M_right_62 : decode b_M_right 62 = .ok (.goto (-47), 3) := by decide +kernel
theorem d_M_right_65 : decode b_M_right 65 = .ok (.iinc 3 1, 3) := by decide +kernel
theorem d_M_right_68 : decode b_M_right 68 = .ok (.goto (-64), 3) := by decide +kernel
theorem d_M_right_71 : decode b_M_right 71 = .ok (.iload_n 2, 1) := by decide +kernel
theorem d_M_right_72 : decode b_M_right 72 = .ok (.ireturn, 1) := by decide +kernel
theorem d_M_at_0 : decode b_M_at 0 = .ok (.iconst 0, 1) := by decide +kernel
theorem d_M_at_1 : decode b_M_at 1 = .ok (.istore_n 3, 1) := by decide +kernel
theorem d_M_at_2 : decode b_M_at 2 = .ok (.iload_n 3, 1) := by decide +kernel
theorem d_M_at_3 : decode b_M_at 3 = .ok (.aload_n 0, 1) := by decide +kernel
theorem d_M_at_4 : decode b_M_at 4 = .ok (.getfield 62, 3) := by decide +kernel
theorem d_M_at_7 : decode b_M_at 7 = .ok (.if_icmp .ge 55, 3) := by decide +kernel
theorem d_M_at_10 : decode b_M_at 10 = .ok (.aload_n 0, 1) := by decide +kernel
theorem d_M_at_11 : decode b_M_at 11 = .ok (.getfield 26, 3) := by decide +kernel
theorem d_M_at_14 : decode b_M_at 14 = .ok (.iload_n 3, 1) := by decide +kernel
theorem d_M_at_15 : decode b_M_at 15 = .ok (.iaload, 1) := by decide +kernel
theorem d_M_at_16 : decode b_M_at 16 = .ok (.iload_n 1, 1) := by decide +kernel
theorem d_M_at_17 : decode b_M_at 17 = .ok (.if_icmp .ne 39, 3) := by decide +kernel
theorem d_M_at_20 : decode b_M_at 20 = .ok (.iload_n 2, 1) := by decide +kernel
theorem d_M_at_21 : decode b_M_at 21 = .ok (.aload_n 0, 1) := by decide +kernel
theorem d_M_at_22 : decode b_M_at 22 = .ok (.getfield 29, 3) := by decide +kernel
theorem d_M_at_25 : decode b_M_at 25 = .ok (.iload_n 3, 1) := by decide +kernel
theorem d_M_at_26 : decode b_M_at 26 = .ok (.iaload, 1) := by decide +kernel
theorem d_M_at_27 : decode b_M_at 27 = .ok (.isub, 1) := by decide +kernel
theorem d_M_at_28 : decode b_M_at 28 = .ok (.iconst 0, 1) := by decide +kernel
theorem d_M_at_29 : decode b_M_at 29 = .ok (.aload_n 0, 1) := by decide +kernel
theorem d_M_at_30 : decode b_M_at 30 = .ok (.iload_n 3, 1) := by decide +kernel
theorem d_M_at_31 : decode b_M_at 31 = .ok (.invokevirtual 58, 3) := by decide +kernel
theorem d_M_at_34 : decode b_M_at 34 = .ok (.iconst 1, 1) := by decide +kernel
theorem d_M_at_35 : decode b_M_at 35 = .ok (.isub, 1) := by decide +kernel
theorem d_M_at_36 : decode b_M_at 36 = .ok (.invokestatic 65, 3) := by decide +kernel
theorem d_M_at_39 : decode b_M_at 39 = .ok (.ifCond .eq 17, 3) := by decide +kernel
theorem d_M_at_42 : decode b_M_at 42 = .ok (.aload_n 0, 1) := by decide +kernel
theorem d_M_at_43 : decode b_M_at 43 = .ok (.iload_n 3, 1) := by decide +kernel
theorem d_M_at_44 : decode b_M_at 44 = .ok (.iload_n 2, 1) := by decide +kernel
theorem d_M_at_45 : decode b_M_at 45 = .ok (.aload_n 0, 1) := by decide +kernel
theorem d_M_at_46 : decode b_M_at 46 = .ok (.getfield 29, 3) := by decide +kernel
theorem d_M_at_49 : decode b_M_at 49 = .ok (.iload_n 3, 1) := by decide +kernel
theorem d_M_at_50 : decode b_M_at 50 = .ok (.iaload, 1) := by decide +kernel
theorem d_M_at_51 : decode b_M_at 51 = .ok (.isub, 1) := by decide +kernel
theorem d_M_at_52 : decode b_M_at 52 = .ok (.invokevirtual 75, 3) := by decide +kernel
theorem d_M_at_55 : decode b_M_at 55 = .ok (.ireturn, 1) := by decide +kernel
theorem d_M_at_56 : decode b_M_at 56 = .ok (.iinc 3 1, 3) := by decide +kernel
theorem d_M_at_59 : decode b_M_at 59 = .ok (.goto (-57), 3) := by decide +kernel
theorem d_M_at_62 : decode b_M_at 62 = .ok (.iconst (-1), 1) := by decide +kernel
theorem d_M_at_63 : decode b_M_at 63 = .ok (.ireturn, 1) := by decide +kernel
theorem d_M_isFree_0 : decode b_M_isFree 0 = .ok (.iconst 1, 1) := by decide +kernel
theorem d_M_isFree_1 : decode b_M_isFree 1 = .ok (.istore_n 3, 1) := by decide +kernel
theorem d_M_isFree_2 : decode b_M_isFree 2 = .ok (.iload_n 3, 1) := by decide +kernel
theorem d_M_isFree_3 : decode b_M_isFree 3 = .ok (.bipush 24, 2) := by decide +kernel
theorem d_M_isFree_5 : decode b_M_isFree 5 = .ok (.if_icmp .ge 74, 3) := by decide +kernel
theorem d_M_isFree_8 : decode b_M_isFree 8 = .ok (.aload_n 0, 1) := by decide +kernel
theorem d_M_isFree_9 : decode b_M_isFree 9 = .ok (.iconst 0, 1) := by decide +kernel
theorem d_M_isFree_10 : decode b_M_isFree 10 = .ok (.iload_n 3, 1) := by decide +kernel
theorem d_M_isFree_11 : decode b_M_isFree 11 = .ok (.invokevirtual 86, 3) := by decide +kernel
theorem d_M_isFree_14 : decode b_M_isFree 14 = .ok (.istore 4, 2) := by decide +kernel
theorem d_M_isFree_16 : decode b_M_isFree 16 = .ok (.aload_n 0, 1) := by decide +kernel
theorem d_M_isFree_17 : decode b_M_isFree 17 = .ok (.iconst 1, 1) := by decide +kernel
theorem d_M_isFree_18 : decode b_M_isFree 18 = .ok (.iload_n 3, 1) := by decide +kernel
theorem d_M_isFree_19 : decode b_M_isFree 19 = .ok (.invokevirtual 86, 3) := by decide +kernel
theorem d_M_isFree_22 : decode b_M_isFree 22 = .ok (.iload_n 1, 1) := by decide +kernel
theorem d_M_isFree_23 : decode b_M_isFree 23 = .ok (.if_icmp .ne 50, 3) := by decide +kernel
theorem d_M_isFree_26 : decode b_M_isFree 26 = .ok (.iload 4, 2) := by decide +kernel
theorem d_M_isFree_28 : decode b_M_isFree 28 = .ok (.iconst (-1), 1) := by decide +kernel
theorem d_M_isFree_29 : decode b_M_isFree 29 = .ok (.if_icmp .eq 44, 3) := by decide +kernel
theorem d_M_isFree_32 : decode b_M_isFree 32 = .ok (.iload 4, 2) := by decide +kernel
theorem d_M_isFree_34 : decode b_M_isFree 34 = .ok (.iload_n 1, 1) := by decide +kernel
theorem d_M_isFree_35 : decode b_M_isFree 35 = .ok (.if_icmp .eq 38, 3) := by decide +kernel
theorem d_M_isFree_38 : decode b_M_isFree 38 = .ok (.aload_n 0, 1) := by decide +kernel
theorem d_M_isFree_39 : decode b_M_isFree 39 = .ok (.iload 4, 2) := by decide +kernel
theorem d_M_isFree_41 : decode b_M_isFree 41 = .ok (.invokevirtual 89, 3) := by decide +kernel
theorem d_M_isFree_44 : decode b_M_isFree 44 = .ok (.ifCond .ne 6, 3) := by decide +kernel
theorem d_M_isFree_47 : decode b_M_isFree 47 = .ok (.goto 26, 3) := by decide +kernel
theorem d_M_isFree_50 : decode b_M_isFree 50 = .ok (.aload_n 0, 1) := by decide +kernel
theorem d_M_isFree_51 : decode b_M_isFree 51 = .ok (.getfield 39, 3) := by decide +kernel
theorem d_M_isFree_54 : decode b_M_isFree 54 = .ok (.iload 4, 2) := by decide +kernel
theorem d_M_isFree_56 : decode b_M_isFree 56 = .ok (.iaload, 1) := by decide +kernel
theorem d_M_isFree_57 : decode b_M_isFree 57 = .ok (.ifCond .eq 14, 3) := by decide +kernel
theorem d_M_isFree_60 : decode b_M_isFree 60 = .ok (.aload_n 0, 1) := by decide +kernel
theorem d_M_isFree_61 : decode b_M_isFree 61 = .ok (.getfield 39, 3) := by decide +kernel
theorem d_M_isFree_64 : decode b_M_isFree 64 = .ok (.iload 4, 2) := by decide +kernel
theorem d_M_isFree_66 : decode b_M_isFree 66 = .ok (.iaload, 1) := by decide +kernel
theorem d_M_isFree_67 : decode b_M_isFree 67 = .ok (.iload_n 2, 1) := by decide +kernel
theorem d_M_isFree_68 : decode b_M_isFree 68 = .ok (.if_icmp .lt 5, 3) := by decide +kernel
theorem d_M_isFree_71 : decode b_M_isFree 71 = .ok (.iconst 0, 1) := by decide +kernel
theorem d_M_isFree_72 : decode b_M_isFree 72 = .ok (.ireturn, 1) := by decide +kernel
theorem d_M_isFree_73 : decode b_M_isFree 73 = .ok (.iinc 3 1, 3) := by decide +kernel
theorem d_M_isFree_76 : decode b_M_isFree 76 = .ok (.goto (-74), 3) := by decide +kernel
theorem d_M_isFree_79 : decode b_M_isFree 79 = .ok (.iconst 1, 1) := by decide +kernel
theorem d_M_isFree_80 : decode b_M_isFree 80 = .ok (.ireturn, 1) := by decide +kernel
theorem d_M_waiting_0 : decode b_M_waiting 0 = .ok (.iconst 0, 1) := by decide +kernel
theorem d_M_waiting_1 : decode b_M_waiting 1 = .ok (.istore_n 1, 1) := by decide +kernel
theorem d_M_waiting_2 : decode b_M_waiting 2 = .ok (.iconst 0, 1) := by decide +kernel
theorem d_M_waiting_3 : decode b_M_waiting 3 = .ok (.istore_n 2, 1) := by decide +kernel
theorem d_M_waiting_4 : decode b_M_waiting 4 = .ok (.iload_n 2, 1) := by decide +kernel
theorem d_M_waiting_5 : decode b_M_waiting 5 = .ok (.bipush 12, 2) := by decide +kernel
theorem d_M_waiting_7 : decode b_M_waiting 7 = .ok (.if_icmp .ge 29, 3) := by decide +kernel
theorem d_M_waiting_10 : decode b_M_waiting 10 = .ok (.aload_n 0, 1) := by decide +kernel
theorem d_M_waiting_11 : decode b_M_waiting 11 = .ok (.iload_n 2, 1) := by decide +kernel
theorem d_M_waiting_12 : decode b_M_waiting 12 = .ok (.invokevirtual 89, 3) := by decide +kernel
theorem d_M_waiting_15 : decode b_M_waiting 15 = .ok (.ifCond .eq 15, 3) := by decide +kernel
theorem d_M_waiting_18 : decode b_M_waiting 18 = .ok (.aload_n 0, 1) := by decide +kernel
theorem d_M_waiting_19 : decode b_M_waiting 19 = .ok (.getfield 39, 3) := by decide +kernel
theorem d_M_waiting_22 : decode b_M_waiting 22 = .ok (.iload_n 2, 1) := by decide +kernel
theorem d_M_waiting_23 : decode b_M_waiting 23 = .ok (.iaload, 1) := by decide +kernel
theorem d_M_waiting_24 : decode b_M_waiting 24 = .ok (.ifCond .ne 6, 3) := by decide +kernel
theorem d_M_waiting_27 : decode b_M_waiting 27 = .ok (.iinc 1 1, 3) := by decide +kernel
theorem d_M_waiting_30 : decode b_M_waiting 30 = .ok (.iinc 2 1, 3) := by decide +kernel
theorem d_M_waiting_33 : decode b_M_waiting 33 = .ok (.goto (-29), 3) := by decide +kernel
theorem d_M_waiting_36 : decode b_M_waiting 36 = .ok (.iload_n 1, 1) := by decide +kernel
theorem d_M_waiting_37 : decode b_M_waiting 37 = .ok (.ireturn, 1) := by decide +kernel
theorem d_M_give_0 : decode b_M_give 0 = .ok (.iconst 0, 1) := by decide +kernel
theorem d_M_give_1 : decode b_M_give 1 = .ok (.istore_n 2, 1) := by decide +kernel
theorem d_M_give_2 : decode b_M_give 2 = .ok (.iconst (-1), 1) := by decide +kernel
theorem d_M_give_3 : decode b_M_give 3 = .ok (.istore_n 3, 1) := by decide +kernel
theorem d_M_give_4 : decode b_M_give 4 = .ok (.iconst 0, 1) := by decide +kernel
theorem d_M_give_5 : decode b_M_give 5 = .ok (.istore 4, 2) := by decide +kernel
theorem d_M_give_7 : decode b_M_give 7 = .ok (.iconst 0, 1) := by decide +kernel
theorem d_M_give_8 : decode b_M_give 8 = .ok (.istore 5, 2) := by decide +kernel
theorem d_M_give_10 : decode b_M_give 10 = .ok (.iload 5, 2) := by decide +kernel
theorem d_M_give_12 : decode b_M_give 12 = .ok (.bipush 12, 2) := by decide +kernel
theorem d_M_give_14 : decode b_M_give 14 = .ok (.if_icmp .ge 139, 3) := by decide +kernel
theorem d_M_give_17 : decode b_M_give 17 = .ok (.iconst (-1), 1) := by decide +kernel
theorem d_M_give_18 : decode b_M_give 18 = .ok (.istore 6, 2) := by decide +kernel
theorem d_M_give_20 : decode b_M_give 20 = .ok (.iconst 0, 1) := by decide +kernel
theorem d_M_give_21 : decode b_M_give 21 = .ok (.istore 7, 2) := by decide +kernel
theorem d_M_give_23 : decode b_M_give 23 = .ok (.iload 7, 2) := by decide +kernel
theorem d_M_give_25 : decode b_M_give 25 = .ok (.bipush 12, 2) := by decide +kernel
theorem d_M_give_27 : decode b_M_give 27 = .ok (.if_icmp .ge 62, 3) := by decide +kernel
theorem d_M_give_30 : decode b_M_give 30 = .ok (.aload_n 0, 1) := by decide +kernel
theorem d_M_give_31 : decode b_M_give 31 = .ok (.iload 7, 2) := by decide +kernel
theorem d_M_give_33 : decode b_M_give 33 = .ok (.invokevirtual 89, 3) := by decide +kernel
theorem d_M_give_36 : decode b_M_give 36 = .ok (.ifCond .eq 47, 3) := by decide +kernel
theorem d_M_give_39 : decode b_M_give 39 = .ok (.aload_n 0, 1) := by decide +kernel
theorem d_M_give_40 : decode b_M_give 40 = .ok (.getfield 39, 3) := by decide +kernel
theorem d_M_give_43 : decode b_M_give 43 = .ok (.iload 7, 2) := by decide +kernel
theorem d_M_give_45 : decode b_M_give 45 = .ok (.iaload, 1) := by decide +kernel
theorem d_M_give_46 : decode b_M_give 46 = .ok (.ifCond .ne 37, 3) := by decide +kernel
theorem d_M_give_49 : decode b_M_give 49 = .ok (.iload 4, 2) := by decide +kernel
theorem d_M_give_51 : decode b_M_give 51 = .ok (.iload 7, 2) := by decide +kernel
theorem d_M_give_53 : decode b_M_give 53 = .ok (.ishr, 1) := by decide +kernel
theorem d_M_give_54 : decode b_M_give 54 = .ok (.iconst 1, 1) := by decide +kernel
theorem d_M_give_55 : decode b_M_give 55 = .ok (.iand, 1) := by decide +kernel
theorem d_M_give_56 : decode b_M_give 56 = .ok (.ifCond .ne 27, 3) := by decide +kernel
theorem d_M_give_59 : decode b_M_give 59 = .ok (.iload 6, 2) := by decide +kernel
theorem d_M_give_61 : decode b_M_give 61 = .ok (.ifCond .lt 18, 3) := by decide +kernel
theorem d_M_give_64 : decode b_M_give 64 = .ok (.aload_n 0, 1) := by decide +kernel
theorem d_M_give_65 : decode b_M_give 65 = .ok (.iload 7, 2) := by decide +kernel
theorem d_M_give_67 : decode b_M_give 67 = .ok (.invokevirtual 92, 3) := by decide +kernel
theorem d_M_give_70 : decode b_M_give 70 = .ok (.aload_n 0, 1) := by decide +kernel
theorem d_M_give_71 : decode b_M_give 71 = .ok (.iload 6, 2) := by decide +kernel
theorem d_M_give_73 : decode b_M_give 73 = .ok (.invokevirtual 92, 3) := by decide +kernel
theorem d_M_give_76 : decode b_M_give 76 = .ok (.if_icmp .ge 7, 3) := by decide +kernel
theorem d_M_give_79 : decode b_M_give 79 = .ok (.iload 7, 2) := by decide +kernel
theorem d_M_give_81 : decode b_M_give 81 = .ok (.istore 6, 2) := by decide +kernel
theorem d_M_give_83 : decode b_M_give 83 = .ok (.iinc 7 1, 3) := by decide +kernel
theorem d_M_give_86 : decode b_M_give 86 = .ok (.goto (-63), 3) := by decide +kernel
theorem d_M_give_89 : decode b_M_give 89 = .ok (.iload 6, 2) := by decide +kernel
theorem d_M_give_91 : decode b_M_give 91 = .ok (.iconst (-1), 1) := by decide +kernel
theorem d_M_give_92 : decode b_M_give 92 = .ok (.if_icmp .ne 5, 3) := by decide +kernel
theorem d_M_give_95 : decode b_M_give 95 = .ok (.iload_n 2, 1) := by decide +kernel
theorem d_M_give_96 : decode b_M_give 96 = .ok (.ireturn, 1) := by decide +kernel
theorem d_M_give_97 : decode b_M_give 97 = .ok (.iload 4, 2) := by decide +kernel
theorem d_M_give_99 : decode b_M_give 99 = .ok (.iconst 1, 1) := by decide +kernel
theorem d_M_give_100 : decode b_M_give 100 = .ok (.iload 6, 2) := by decide +kernel
theorem d_M_give_102 : decode b_M_give 102 = .ok (.ishl, 1) := by decide +kernel
theorem d_M_give_103 : decode b_M_give 103 = .ok (.ior, 1) := by decide +kernel
theorem d_M_give_104 : decode b_M_give 104 = .ok (.istore 4, 2) := by decide +kernel
theorem d_M_give_106 : decode b_M_give 106 = .ok (.aload_n 0, 1) := by decide +kernel
theorem d_M_give_107 : decode b_M_give 107 = .ok (.iload 6, 2) := by decide +kernel
theorem d_M_give_109 : decode b_M_give 109 = .ok (.invokevirtual 92, 3) := by decide +kernel
theorem d_M_give_112 : decode b_M_give 112 = .ok (.iload_n 3, 1) := by decide +kernel
theorem d_M_give_113 : decode b_M_give 113 = .ok (.if_icmp .le 34, 3) := by decide +kernel
theorem d_M_give_116 : decode b_M_give 116 = .ok (.aload_n 0, 1) := by decide +kernel
theorem d_M_give_117 : decode b_M_give 117 = .ok (.iload 6, 2) := by decide +kernel
theorem d_M_give_119 : decode b_M_give 119 = .ok (.iload_n 1, 1) := by decide +kernel
theorem d_M_give_120 : decode b_M_give 120 = .ok (.invokevirtual 95, 3) := by decide +kernel
theorem d_M_give_123 : decode b_M_give 123 = .ok (.ifCond .ne 6, 3) := by decide +kernel
theorem d_M_give_126 : decode b_M_give 126 = .ok (.goto 21, 3) := by decide +kernel
theorem d_M_give_129 : decode b_M_give 129 = .ok (.aload_n 0, 1) := by decide +kernel
theorem d_M_give_130 : decode b_M_give 130 = .ok (.getfield 39, 3) := by decide +kernel
theorem d_M_give_133 : decode b_M_give 133 = .ok (.iload 6, 2) := by decide +kernel
theorem d_M_give_135 : decode b_M_give 135 = .ok (.iload_n 1, 1) := by decide +kernel
theorem d_M_give_136 : decode b_M_give 136 = .ok (.iastore, 1) := by decide +kernel
theorem d_M_give_137 : decode b_M_give 137 = .ok (.aload_n 0, 1) := by decide +kernel
theorem d_M_give_138 : decode b_M_give 138 = .ok (.iload 6, 2) := by decide +kernel
theorem d_M_give_140 : decode b_M_give 140 = .ok (.invokevirtual 99, 3) := by decide +kernel
theorem d_M_give_143 : decode b_M_give 143 = .ok (.istore_n 3, 1) := by decide +kernel
theorem d_M_give_144 : decode b_M_give 144 = .ok (.iinc 2 1, 3) := by decide +kernel
theorem d_M_give_147 : decode b_M_give 147 = .ok (.iinc 5 1, 3) := by decide +kernel
theorem d_M_give_150 : decode b_M_give 150 = .ok (.goto (-140), 3) := by decide +kernel
theorem d_M_give_153 : decode b_M_give 153 = .ok (.iload_n 2, 1) := by decide +kernel
theorem d_M_give_154 : decode b_M_give 154 = .ok (.ireturn, 1) := by decide +kernel
theorem d_M_route_0 : decode b_M_route 0 = .ok (.iconst 0, 1) := by decide +kernel
theorem d_M_route_1 : decode b_M_route 1 = .ok (.istore_n 1, 1) := by decide +kernel
theorem d_M_route_2 : decode b_M_route 2 = .ok (.aload_n 0, 1) := by decide +kernel
theorem d_M_route_3 : decode b_M_route 3 = .ok (.iconst (-1), 1) := by decide +kernel
theorem d_M_route_4 : decode b_M_route 4 = .ok (.putfield 9, 3) := by decide +kernel
theorem d_M_route_7 : decode b_M_route 7 = .ok (.iconst 0, 1) := by decide +kernel
theorem d_M_route_8 : decode b_M_route 8 = .ok (.istore_n 2, 1) := by decide +kernel
theorem d_M_route_9 : decode b_M_route 9 = .ok (.iload_n 2, 1) := by decide +kernel
theorem d_M_route_10 : decode b_M_route 10 = .ok (.bipush 12, 2) := by decide +kernel
theorem d_M_route_12 : decode b_M_route 12 = .ok (.if_icmp .ge 16, 3) := by decide +kernel
theorem d_M_route_15 : decode b_M_route 15 = .ok (.aload_n 0, 1) := by decide +kernel
theorem d_M_route_16 : decode b_M_route 16 = .ok (.getfield 39, 3) := by decide +kernel
theorem d_M_route_19 : decode b_M_route 19 = .ok (.iload_n 2, 1) := by decide +kernel
theorem d_M_route_20 : decode b_M_route 20 = .ok (.iconst 0, 1) := by decide +kernel
theorem d_M_route_21 : decode b_M_route 21 = .ok (.iastore, 1) := by decide +kernel
theorem d_M_route_22 : decode b_M_route 22 = .ok (.iinc 2 1, 3) := by decide +kernel
theorem d_M_route_25 : decode b_M_route 25 = .ok (.goto (-16), 3) := by decide +kernel
theorem d_M_route_28 : decode b_M_route 28 = .ok (.aload_n 0, 1) := by decide +kernel
theorem d_M_route_29 : decode b_M_route 29 = .ok (.invokevirtual 102, 3) := by decide +kernel
theorem d_M_route_32 : decode b_M_route 32 = .ok (.ifCond .le 32, 3) := by decide +kernel
theorem d_M_route_35 : decode b_M_route 35 = .ok (.iinc 1 1, 3) := by decide +kernel
theorem d_M_route_38 : decode b_M_route 38 = .ok (.iload_n 1, 1) := by decide +kernel
theorem d_M_route_39 : decode b_M_route 39 = .ok (.bipush 9, 2) := by decide +kernel
theorem d_M_route_41 : decode b_M_route 41 = .ok (.if_icmp .le 9, 3) := by decide +kernel
theorem d_M_route_44 : decode b_M_route 44 = .ok (.aload_n 0, 1) := by decide +kernel
theorem d_M_route_45 : decode b_M_route 45 = .ok (.iconst 1, 1) := by decide +kernel
theorem d_M_route_46 : decode b_M_route 46 = .ok (.invokevirtual 69, 3) := by decide +kernel
theorem d_M_route_49 : decode b_M_route 49 = .ok (.ireturn, 1) := by decide +kernel
theorem d_M_route_50 : decode b_M_route 50 = .ok (.aload_n 0, 1) := by decide +kernel
theorem d_M_route_51 : decode b_M_route 51 = .ok (.iload_n 1, 1) := by decide +kernel
theorem d_M_route_52 : decode b_M_route 52 = .ok (.invokevirtual 106, 3) := by decide +kernel
theorem d_M_route_55 : decode b_M_route 55 = .ok (.ifCond .ne (-27), 3) := by decide +kernel
theorem d_M_route_58 : decode b_M_route 58 = .ok (.aload_n 0, 1) := by decide +kernel
theorem d_M_route_59 : decode b_M_route 59 = .ok (.iconst 2, 1) := by decide +kernel
theorem d_M_route_60 : decode b_M_route 60 = .ok (.invokevirtual 69, 3) := by decide +kernel
theorem d_M_route_63 : decode b_M_route 63 = .ok (.ireturn, 1) := by decide +kernel
theorem d_M_route_64 : decode b_M_route 64 = .ok (.aload_n 0, 1) := by decide +kernel
theorem d_M_route_65 : decode b_M_route 65 = .ok (.iconst 0, 1) := by decide +kernel
theorem d_M_route_66 : decode b_M_route 66 = .ok (.putfield 55, 3) := by decide +kernel
theorem d_M_route_69 : decode b_M_route 69 = .ok (.aload_n 0, 1) := by decide +kernel
theorem d_M_route_70 : decode b_M_route 70 = .ok (.iload_n 1, 1) := by decide +kernel
theorem d_M_route_71 : decode b_M_route 71 = .ok (.putfield 9, 3) := by decide +kernel
theorem d_M_route_74 : decode b_M_route 74 = .ok (.aload_n 0, 1) := by decide +kernel
theorem d_M_route_75 : decode b_M_route 75 = .ok (.invokevirtual 109, 3) := by decide +kernel
theorem d_M_route_78 : decode b_M_route 78 = .ok (.aload_n 0, 1) := by decide +kernel
theorem d_M_route_79 : decode b_M_route 79 = .ok (.getfield 9, 3) := by decide +kernel
theorem d_M_route_82 : decode b_M_route 82 = .ok (.ireturn, 1) := by decide +kernel
theorem d_M_mark_0 : decode b_M_mark 0 = .ok (.aload_n 0, 1) := by decide +kernel
theorem d_M_mark_1 : decode b_M_mark 1 = .ok (.getfield 42, 3) := by decide +kernel
theorem d_M_mark_4 : decode b_M_mark 4 = .ok (.bipush 24, 2) := by decide +kernel
theorem d_M_mark_6 : decode b_M_mark 6 = .ok (.iload_n 1, 1) := by decide +kernel
theorem d_M_mark_7 : decode b_M_mark 7 = .ok (.imul, 1) := by decide +kernel
theorem d_M_mark_8 : decode b_M_mark 8 = .ok (.iload_n 2, 1) := by decide +kernel
theorem d_M_mark_9 : decode b_M_mark 9 = .ok (.iadd, 1) := by decide +kernel
theorem d_M_mark_10 : decode b_M_mark 10 = .ok (.dup2, 1) := by decide +kernel
theorem d_M_mark_11 : decode b_M_mark 11 = .ok (.iaload, 1) := by decide +kernel
theorem d_M_mark_12 : decode b_M_mark 12 = .ok (.iload_n 3, 1) := by decide +kernel
theorem d_M_mark_13 : decode b_M_mark 13 = .ok (.ior, 1) := by decide +kernel
theorem d_M_mark_14 : decode b_M_mark 14 = .ok (.iastore, 1) := by decide +kernel
theorem d_M_mark_15 : decode b_M_mark 15 = .ok (.return_, 1) := by decide +kernel
theorem d_M_draw_0 : decode b_M_draw 0 = .ok (.iconst 0, 1) := by decide +kernel
theorem d_M_draw_1 : decode b_M_draw 1 = .ok (.istore_n 1, 1) := by decide +kernel
theorem d_M_draw_2 : decode b_M_draw 2 = .ok (.iload_n 1, 1) := by decide +kernel
theorem d_M_draw_3 : decode b_M_draw 3 = .ok (.sipush 264, 3) := by decide +kernel
theorem d_M_draw_6 : decode b_M_draw 6 = .ok (.if_icmp .ge 16, 3) := by decide +kernel
theorem d_M_draw_9 : decode b_M_draw 9 = .ok (.aload_n 0, 1) := by decide +kernel
theorem d_M_draw_10 : decode b_M_draw 10 = .ok (.getfield 42, 3) := by decide +kernel
theorem d_M_draw_13 : decode b_M_draw 13 = .ok (.iload_n 1, 1) := by decide +kernel
theorem d_M_draw_14 : decode b_M_draw 14 = .ok (.iconst 0, 1) := by decide +kernel
theorem d_M_draw_15 : decode b_M_draw 15 = .ok (.iastore, 1) := by decide +kernel
theorem d_M_draw_16 : decode b_M_draw 16 = .ok (.iinc 1 1, 3) := by decide +kernel
theorem d_M_draw_19 : decode b_M_draw 19 = .ok (.goto (-17), 3) := by decide +kernel
theorem d_M_draw_22 : decode b_M_draw 22 = .ok (.iconst 0, 1) := by decide +kernel
theorem d_M_draw_23 : decode b_M_draw 23 = .ok (.istore_n 1, 1) := by decide +kernel
theorem d_M_draw_24 : decode b_M_draw 24 = .ok (.iload_n 1, 1) := by decide +kernel
theorem d_M_draw_25 : decode b_M_draw 25 = .ok (.bipush 12, 2) := by decide +kernel
theorem d_M_draw_27 : decode b_M_draw 27 = .ok (.if_icmp .ge 51, 3) := by decide +kernel
theorem d_M_draw_30 : decode b_M_draw 30 = .ok (.aload_n 0, 1) := by decide +kernel
theorem d_M_draw_31 : decode b_M_draw 31 = .ok (.getfield 39, 3) := by decide +kernel
theorem d_M_draw_34 : decode b_M_draw 34 = .ok (.iload_n 1, 1) := by decide +kernel
theorem d_M_draw_35 : decode b_M_draw 35 = .ok (.iaload, 1) := by decide +kernel
theorem d_M_draw_36 : decode b_M_draw 36 = .ok (.istore_n 2, 1) := by decide +kernel
theorem d_M_draw_37 : decode b_M_draw 37 = .ok (.iload_n 2, 1) := by decide +kernel
theorem d_M_draw_38 : decode b_M_draw 38 = .ok (.ifCond .ne 6, 3) := by decide +kernel
theorem d_M_draw_41 : decode b_M_draw 41 = .ok (.goto 31, 3) := by decide +kernel
theorem d_M_draw_44 : decode b_M_draw 44 = .ok (.aload_n 0, 1) := by decide +kernel
theorem d_M_draw_45 : decode b_M_draw 45 = .ok (.iload_n 1, 1) := by decide +kernel
theorem d_M_draw_46 : decode b_M_draw 46 = .ok (.invokevirtual 92, 3) := by decide +kernel
theorem d_M_draw_49 : decode b_M_draw 49 = .ok (.istore_n 3, 1) := by decide +kernel
theorem d_M_draw_50 : decode b_M_draw 50 = .ok (.iload_n 3, 1) := by decide +kernel
theorem d_M_draw_51 : decode b_M_draw 51 = .ok (.aload_n 0, 1) := by decide +kernel
theorem d_M_draw_52 : decode b_M_draw 52 = .ok (.iload_n 1, 1) := by decide +kernel
theorem d_M_draw_53 : decode b_M_draw 53 = .ok (.invokevirtual 99, 3) := by decide +kernel
theorem d_M_draw_56 : decode b_M_draw 56 = .ok (.if_icmp .ge 16, 3) := by decide +kernel
theorem d_M_draw_59 : decode b_M_draw 59 = .ok (.aload_n 0, 1) := by decide +kernel
theorem d_M_draw_60 : decode b_M_draw 60 = .ok (.iload_n 2, 1) := by decide +kernel
theorem d_M_draw_61 : decode b_M_draw 61 = .ok (.iload_n 3, 1) := by decide +kernel
theorem d_M_draw_62 : decode b_M_draw 62 = .ok (.iconst 1, 1) := by decide +kernel
theorem d_M_draw_63 : decode b_M_draw 63 = .ok (.invokevirtual 112, 3) := by decide +kernel
theorem d_M_draw_66 : decode b_M_draw 66 = .ok (.iinc 3 1, 3) := by decide +kernel
theorem d_M_draw_69 : decode b_M_draw 69 = .ok (.goto (-19), 3) := by decide +kernel
theorem d_M_draw_72 : decode b_M_draw 72 = .ok (.iinc 1 1, 3) := by decide +kernel
theorem d_M_draw_75 : decode b_M_draw 75 = .ok (.goto (-51), 3) := by decide +kernel
theorem d_M_draw_78 : decode b_M_draw 78 = .ok (.iconst 0, 1) := by decide +kernel
theorem d_M_draw_79 : decode b_M_draw 79 = .ok (.istore_n 1, 1) := by decide +kernel
theorem d_M_draw_80 : decode b_M_draw 80 = .ok (.iload_n 1, 1) := by decide +kernel
theorem d_M_draw_81 : decode b_M_draw 81 = .ok (.aload_n 0, 1) := by decide +kernel
theorem d_M_draw_82 : decode b_M_draw 82 = .ok (.getfield 62, 3) := by decide +kernel
theorem d_M_draw_85 : decode b_M_draw 85 = .ok (.if_icmp .ge 118, 3) := by decide +kernel
theorem d_M_draw_88 : decode b_M_draw 88 = .ok (.iconst 0, 1) := by decide +kernel
theorem d_M_draw_89 : decode b_M_draw 89 = .ok (.istore_n 2, 1) := by decide +kernel
theorem d_M_draw_90 : decode b_M_draw 90 = .ok (.iload_n 2, 1) := by decide +kernel
theorem d_M_draw_91 : decode b_M_draw 91 = .ok (.aload_n 0, 1) := by decide +kernel
theorem d_M_draw_92 : decode b_M_draw 92 = .ok (.iload_n 1, 1) := by decide +kernel
theorem d_M_draw_93 : decode b_M_draw 93 = .ok (.invokevirtual 58, 3) := by decide +kernel
theorem d_M_draw_96 : decode b_M_draw 96 = .ok (.if_icmp .ge 101, 3) := by decide +kernel
theorem d_M_draw_99 : decode b_M_draw 99 = .ok (.aload_n 0, 1) := by decide +kernel
theorem d_M_draw_100 : decode b_M_draw 100 = .ok (.getfield 39, 3) := by decide +kernel
theorem d_M_draw_103 : decode b_M_draw 103 = .ok (.aload_n 0, 1) := by decide +kernel
theorem d_M_draw_104 : decode b_M_draw 104 = .ok (.iload_n 1, 1) := by decide +kernel
theorem d_M_draw_105 : decode b_M_draw 105 = .ok (.iload_n 2, 1) := by decide +kernel
theorem d_M_draw_106 : decode b_M_draw 106 = .ok (.invokevirtual 75, 3) := by decide +kernel
theorem d_M_draw_109 : decode b_M_draw 109 = .ok (.iaload, 1) := by decide +kernel
theorem d_M_draw_110 : decode b_M_draw 110 = .ok (.istore_n 3, 1) := by decide +kernel
theorem d_M_draw_111 : decode b_M_draw 111 = .ok (.aload_n 0, 1) := by decide +kernel
theorem d_M_draw_112 : decode b_M_draw 112 = .ok (.getfield 29, 3) := by decide +kernel
theorem d_M_draw_115 : decode b_M_draw 115 = .ok (.iload_n 1, 1) := by decide +kernel
theorem d_M_draw_116 : decode b_M_draw 116 = .ok (.iaload, 1) := by decide +kernel
theorem d_M_draw_117 : decode b_M_draw 117 = .ok (.iload_n 2, 1) := by decide +kernel
theorem d_M_draw_118 : decode b_M_draw 118 = .ok (.iadd, 1) := by decide +kernel
theorem d_M_draw_119 : decode b_M_draw 119 = .ok (.istore 4, 2) := by decide +kernel
theorem d_M_draw_121 : decode b_M_draw 121 = .ok (.iload_n 3, 1) := by decide +kernel
theorem d_M_draw_122 : decode b_M_draw 122 = .ok (.ifCond .ne 6, 3) := by decide +kernel
theorem d_M_draw_125 : decode b_M_draw 125 = .ok (.goto 66, 3) := by decide +kernel
theorem d_M_draw_128 : decode b_M_draw 128 = .ok (.aload_n 0, 1) := by decide +kernel
theorem d_M_draw_129 : decode b_M_draw 129 = .ok (.iload_n 3, 1) := by decide +kernel
theorem d_M_draw_130 : decode b_M_draw 130 = .ok (.iload 4, 2) := by decide +kernel
theorem d_M_draw_132 : decode b_M_draw 132 = .ok (.iconst 4, 1) := by decide +kernel
theorem d_M_draw_133 : decode b_M_draw 133 = .ok (.invokevirtual 112, 3) := by decide +kernel
theorem d_M_draw_136 : decode b_M_draw 136 = .ok (.aload_n 0, 1) := by decide +kernel
theorem d_M_draw_137 : decode b_M_draw 137 = .ok (.getfield 26, 3) := by decide +kernel
theorem d_M_draw_140 : decode b_M_draw 140 = .ok (.iload_n 1, 1) := by decide +kernel
theorem d_M_draw_141 : decode b_M_draw 141 = .ok (.iaload, 1) := by decide +kernel
theorem d_M_draw_142 : decode b_M_draw 142 = .ok (.ifCond .ne 7, 3) := by decide +kernel
theorem d_M_draw_145 : decode b_M_draw 145 = .ok (.iconst 0, 1) := by decide +kernel
theorem d_M_draw_146 : decode b_M_draw 146 = .ok (.goto 4, 3) := by decide +kernel
theorem d_M_draw_149 : decode b_M_draw 149 = .ok (.iload_n 3, 1) := by decide +kernel
theorem d_M_draw_150 : decode b_M_draw 150 = .ok (.istore 5, 2) := by decide +kernel
theorem d_M_draw_152 : decode b_M_draw 152 = .ok (.iload 5, 2) := by decide +kernel
theorem d_M_draw_154 : decode b_M_draw 154 = .ok (.aload_n 0, 1) := by decide +kernel
theorem d_M_draw_155 : decode b_M_draw 155 = .ok (.getfield 26, 3) := by decide +kernel
theorem d_M_draw_158 : decode b_M_draw 158 = .ok (.iload_n 1, 1) := by decide +kernel
theorem d_M_draw_159 : decode b_M_draw 159 = .ok (.iaload, 1) := by decide +kernel
theorem d_M_draw_160 : decode b_M_draw 160 = .ok (.ifCond .ne 7, 3) := by decide +kernel
theorem d_M_draw_163 : decode b_M_draw 163 = .ok (.iload_n 3, 1) := by decide +kernel
theorem d_M_draw_164 : decode b_M_draw 164 = .ok (.goto 9, 3) := by decide +kernel
theorem d_M_draw_167 : decode b_M_draw 167 = .ok (.aload_n 0, 1) := by decide +kernel
theorem d_M_draw_168 : decode b_M_draw 168 = .ok (.getfield 9, 3) := by decide +kernel
theorem d_M_draw_171 : decode b_M_draw 171 = .ok (.iconst 1, 1) := by decide +kernel
theorem d_M_draw_172 : decode b_M_draw 172 = .ok (.iadd, 1) := by decide +kernel
theorem d_M_draw_173 : decode b_M_draw 173 = .ok (.if_icmp .ge 18, 3) := by decide +kernel
theorem d_M_draw_176 : decode b_M_draw 176 = .ok (.aload_n 0, 1) := by decide +kernel
theorem d_M_draw_177 : decode b_M_draw 177 = .ok (.iload 5, 2) := by decide +kernel
theorem d_M_draw_179 : decode b_M_draw 179 = .ok (.iload 4, 2) := by decide +kernel
theorem d_M_draw_181 : decode b_M_draw 181 = .ok (.iconst 2, 1) := by decide +kernel
theorem d_M_draw_182 : decode b_M_draw 182 = .ok (.invokevirtual 112, 3) := by decide +kernel
theorem d_M_draw_185 : decode b_M_draw 185 = .ok (.iinc 5 1, 3) := by decide +kernel
theorem d_M_draw_188 : decode b_M_draw 188 = .ok (.goto (-36), 3) := by decide +kernel
theorem d_M_draw_191 : decode b_M_draw 191 = .ok (.iinc 2 1, 3) := by decide +kernel
theorem d_M_draw_194 : decode b_M_draw 194 = .ok (.goto (-104), 3) := by decide +kernel
theorem d_M_draw_197 : decode b_M_draw 197 = .ok (.iinc 1 1, 3) := by decide +kernel
theorem d_M_draw_200 : decode b_M_draw 200 = .ok (.goto (-120), 3) := by decide +kernel
theorem d_M_draw_203 : decode b_M_draw 203 = .ok (.return_, 1) := by decide +kernel
theorem d_M_isPin_0 : decode b_M_isPin 0 = .ok (.iload_n 1, 1) := by decide +kernel
theorem d_M_isPin_1 : decode b_M_isPin 1 = .ok (.iconst 0, 1) := by decide +kernel
theorem d_M_isPin_2 : decode b_M_isPin 2 = .ok (.aload_n 0, 1) := by decide +kernel
theorem d_M_isPin_3 : decode b_M_isPin 3 = .ok (.getfield 62, 3) := by decide +kernel
theorem d_M_isPin_6 : decode b_M_isPin 6 = .ok (.iconst 1, 1) := by decide +kernel
theorem d_M_isPin_7 : decode b_M_isPin 7 = .ok (.isub, 1) := by decide +kernel
theorem d_M_isPin_8 : decode b_M_isPin 8 = .ok (.invokestatic 65, 3) := by decide +kernel
theorem d_M_isPin_11 : decode b_M_isPin 11 = .ok (.ifCond .eq 22, 3) := by decide +kernel
theorem d_M_isPin_14 : decode b_M_isPin 14 = .ok (.iload_n 2, 1) := by decide +kernel
theorem d_M_isPin_15 : decode b_M_isPin 15 = .ok (.iconst 0, 1) := by decide +kernel
theorem d_M_isPin_16 : decode b_M_isPin 16 = .ok (.aload_n 0, 1) := by decide +kernel
theorem d_M_isPin_17 : decode b_M_isPin 17 = .ok (.iload_n 1, 1) := by decide +kernel
theorem d_M_isPin_18 : decode b_M_isPin 18 = .ok (.invokevirtual 58, 3) := by decide +kernel
theorem d_M_isPin_21 : decode b_M_isPin 21 = .ok (.iconst 1, 1) := by decide +kernel
theorem d_M_isPin_22 : decode b_M_isPin 22 = .ok (.isub, 1) := by decide +kernel
theorem d_M_isPin_23 : decode b_M_isPin 23 = .ok (.invokestatic 65, 3) := by decide +kernel
theorem d_M_isPin_26 : decode b_M_isPin 26 = .ok (.ifCond .eq 7, 3) := by decide +kernel
theorem d_M_isPin_29 : decode b_M_isPin 29 = .ok (.iconst 1, 1) := by decide +kernel
theorem d_M_isPin_30 : decode b_M_isPin 30 = .ok (.goto 4, 3) := by decide +kernel
theorem d_M_isPin_33 : decode b_M_isPin 33 = .ok (.iconst 0, 1) := by decide +kernel
theorem d_M_isPin_34 : decode b_M_isPin 34 = .ok (.ireturn, 1) := by decide +kernel
theorem d_M_column_0 : decode b_M_column 0 = .ok (.aload_n 0, 1) := by decide +kernel
theorem d_M_column_1 : decode b_M_column 1 = .ok (.iload_n 1, 1) := by decide +kernel
theorem d_M_column_2 : decode b_M_column 2 = .ok (.iload_n 2, 1) := by decide +kernel
theorem d_M_column_3 : decode b_M_column 3 = .ok (.invokevirtual 116, 3) := by decide +kernel
theorem d_M_column_6 : decode b_M_column 6 = .ok (.ifCond .ne 9, 3) := by decide +kernel
theorem d_M_column_9 : decode b_M_column 9 = .ok (.aload_n 0, 1) := by decide +kernel
theorem d_M_column_10 : decode b_M_column 10 = .ok (.iconst 1, 1) := by decide +kernel
theorem d_M_column_11 : decode b_M_column 11 = .ok (.invokevirtual 69, 3) := by decide +kernel
theorem d_M_column_14 : decode b_M_column 14 = .ok (.ireturn, 1) := by decide +kernel
theorem d_M_column_15 : decode b_M_column 15 = .ok (.aload_n 0, 1) := by decide +kernel
theorem d_M_column_16 : decode b_M_column 16 = .ok (.iconst 0, 1) := by decide +kernel
theorem d_M_column_17 : decode b_M_column 17 = .ok (.putfield 55, 3) := by decide +kernel
theorem d_M_column_20 : decode b_M_column 20 = .ok (.aload_n 0, 1) := by decide +kernel
theorem d_M_column_21 : decode b_M_column 21 = .ok (.getfield 29, 3) := by decide +kernel
theorem d_M_column_24 : decode b_M_column 24 = .ok (.iload_n 1, 1) := by decide +kernel
theorem d_M_column_25 : decode b_M_column 25 = .ok (.iaload, 1) := by decide +kernel
theorem d_M_column_26 : decode b_M_column 26 = .ok (.iload_n 2, 1) := by decide +kernel
theorem d_M_column_27 : decode b_M_column 27 = .ok (.iadd, 1) := by decide +kernel
theorem d_M_column_28 : decode b_M_column 28 = .ok (.ireturn, 1) := by decide +kernel
theorem d_M_lengthOf_0 : decode b_M_lengthOf 0 = .ok (.aload_n 0, 1) := by decide +kernel
theorem d_M_lengthOf_1 : decode b_M_lengthOf 1 = .ok (.getfield 9, 3) := by decide +kernel
theorem d_M_lengthOf_4 : decode b_M_lengthOf 4 = .ok (.iconst (-1), 1) := by decide +kernel
theorem d_M_lengthOf_5 : decode b_M_lengthOf 5 = .ok (.if_icmp .ne 7, 3) := by decide +kernel
theorem d_M_lengthOf_8 : decode b_M_lengthOf 8 = .ok (.iconst 0, 1) := by decide +kernel
theorem d_M_lengthOf_9 : decode b_M_lengthOf 9 = .ok (.goto 9, 3) := by decide +kernel
theorem d_M_lengthOf_12 : decode b_M_lengthOf 12 = .ok (.aload_n 0, 1) := by decide +kernel
theorem d_M_lengthOf_13 : decode b_M_lengthOf 13 = .ok (.getfield 39, 3) := by decide +kernel
theorem d_M_lengthOf_16 : decode b_M_lengthOf 16 = .ok (.iload_n 1, 1) := by decide +kernel
theorem d_M_lengthOf_17 : decode b_M_lengthOf 17 = .ok (.iaload, 1) := by decide +kernel
theorem d_M_lengthOf_18 : decode b_M_lengthOf 18 = .ok (.istore_n 2, 1) := by decide +kernel
theorem d_M_lengthOf_19 : decode b_M_lengthOf 19 = .ok (.iconst 0, 1) := by decide +kernel
theorem d_M_lengthOf_20 : decode b_M_lengthOf 20 = .ok (.istore_n 3, 1) := by decide +kernel
theorem d_M_lengthOf_21 : decode b_M_lengthOf 21 = .ok (.iload_n 2, 1) := by decide +kernel
theorem d_M_lengthOf_22 : decode b_M_lengthOf 22 = .ok (.ifCond .eq 11, 3) := by decide +kernel
theorem d_M_lengthOf_25 : decode b_M_lengthOf 25 = .ok (.aload_n 0, 1) := by decide +kernel
theorem d_M_lengthOf_26 : decode b_M_lengthOf 26 = .ok (.iload_n 1, 1) := by decide +kernel
theorem d_M_lengthOf_27 : decode b_M_lengthOf 27 = .ok (.invokevirtual 89, 3) := by decide +kernel
theorem d_M_lengthOf_30 : decode b_M_lengthOf 30 = .ok (.ifCond .ne 5, 3) := by decide +kernel
theorem d_M_lengthOf_33 : decode b_M_lengthOf 33 = .ok (.iconst 0, 1) := by decide +kernel
theorem d_M_lengthOf_34 : decode b_M_lengthOf 34 = .ok (.ireturn, 1) := by decide +kernel
theorem d_M_lengthOf_35 : decode b_M_lengthOf 35 = .ok (.iconst 0, 1) := by decide +kernel
theorem d_M_lengthOf_36 : decode b_M_lengthOf 36 = .ok (.istore 4, 2) := by decide +kernel
theorem d_M_lengthOf_38 : decode b_M_lengthOf 38 = .ok (.iload 4, 2) := by decide +kernel
theorem d_M_lengthOf_40 : decode b_M_lengthOf 40 = .ok (.aload_n 0, 1) := by decide +kernel
theorem d_M_lengthOf_41 : decode b_M_lengthOf 41 = .ok (.getfield 62, 3) := by decide +kernel
theorem d_M_lengthOf_44 : decode b_M_lengthOf 44 = .ok (.if_icmp .ge 66, 3) := by decide +kernel
theorem d_M_lengthOf_47 : decode b_M_lengthOf 47 = .ok (.iconst 0, 1) := by decide +kernel
theorem d_M_lengthOf_48 : decode b_M_lengthOf 48 = .ok (.istore 5, 2) := by decide +kernel
theorem d_M_lengthOf_50 : decode b_M_lengthOf 50 = .ok (.iload 5, 2) := by decide +kernel
theorem d_M_lengthOf_52 : decode b_M_lengthOf 52 = .ok (.aload_n 0, 1) := by decide +kernel
theorem d_M_lengthOf_53 : decode b_M_lengthOf 53 = .ok (.iload 4, 2) := by decide +kernel
theorem d_M_lengthOf_55 : decode b_M_lengthOf 55 = .ok (.invokevirtual 58, 3) := by decide +kernel
theorem d_M_lengthOf_58 : decode b_M_lengthOf 58 = .ok (.if_icmp .ge 46, 3) := by decide +kernel
theorem d_M_lengthOf_61 : decode b_M_lengthOf 61 = .ok (.aload_n 0, 1) := by decide +kernel
theorem d_M_lengthOf_62 : decode b_M_lengthOf 62 = .ok (.iload 4, 2) := by decide +kernel
theorem d_M_lengthOf_64 : decode b_M_lengthOf 64 = .ok (.iload 5, 2) := by decide +kernel
theorem d_M_lengthOf_66 : decode b_M_lengthOf 66 = .ok (.invokevirtual 75, 3) := by decide +kernel
theorem d_M_lengthOf_69 : decode b_M_lengthOf 69 = .ok (.iload_n 1, 1) := by decide +kernel
theorem d_M_lengthOf_70 : decode b_M_lengthOf 70 = .ok (.if_icmp .ne 28, 3) := by decide +kernel
theorem d_M_lengthOf_73 : decode b_M_lengthOf 73 = .ok (.iload_n 3, 1) := by decide +kernel
theorem d_M_lengthOf_74 : decode b_M_lengthOf 74 = .ok (.aload_n 0, 1) := by decide +kernel
theorem d_M_lengthOf_75 : decode b_M_lengthOf 75 = .ok (.getfield 26, 3) := by decide +kernel
theorem d_M_lengthOf_78 : decode b_M_lengthOf 78 = .ok (.iload 4, 2) := by decide +kernel
theorem d_M_lengthOf_80 : decode b_M_lengthOf 80 = .ok (.iaload, 1) := by decide +kernel
theorem d_M_lengthOf_81 : decode b_M_lengthOf 81 = .ok (.ifCond .ne 7, 3) := by decide +kernel
theorem d_M_lengthOf_84 : decode b_M_lengthOf 84 = .ok (.iload_n 2, 1) := by decide +kernel
theorem d_M_lengthOf_85 : decode b_M_lengthOf 85 = .ok (.goto 11, 3) := by decide +kernel
theorem d_M_lengthOf_88 : decode b_M_lengthOf 88 = .ok (.aload_n 0, 1) := by decide +kernel
theorem d_M_lengthOf_89 : decode b_M_lengthOf 89 = .ok (.getfield 9, 3) := by decide +kernel
theorem d_M_lengthOf_92 : decode b_M_lengthOf 92 = .ok (.iconst 1, 1) := by decide +kernel
theorem d_M_lengthOf_93 : decode b_M_lengthOf 93 = .ok (.iadd, 1) := by decide +kernel
theorem d_M_lengthOf_94 : decode b_M_lengthOf 94 = .ok (.iload_n 2, 1) := by decide +kernel
theorem d_M_lengthOf_95 : decode b_M_lengthOf 95 = .ok (.isub, 1) := by decide +kernel
theorem d_M_lengthOf_96 : decode b_M_lengthOf 96 = .ok (.iadd, 1) := by decide +kernel
theorem d_M_lengthOf_97 : decode b_M_lengthOf 97 = .ok (.istore_n 3, 1) := by decide +kernel
theorem d_M_lengthOf_98 : decode b_M_lengthOf 98 = .ok (.iinc 5 1, 3) := by decide +kernel
theorem d_M_lengthOf_101 : decode b_M_lengthOf 101 = .ok (.goto (-51), 3) := by decide +kernel
theorem d_M_lengthOf_104 : decode b_M_lengthOf 104 = .ok (.iinc 4 1, 3) := by decide +kernel
theorem d_M_lengthOf_107 : decode b_M_lengthOf 107 = .ok (.goto (-69), 3) := by decide +kernel
theorem d_M_lengthOf_110 : decode b_M_lengthOf 110 = .ok (.iload_n 3, 1) := by decide +kernel
theorem d_M_lengthOf_111 : decode b_M_lengthOf 111 = .ok (.aload_n 0, 1) := by decide +kernel
theorem d_M_lengthOf_112 : decode b_M_lengthOf 112 = .ok (.iload_n 1, 1) := by decide +kernel
theorem d_M_lengthOf_113 : decode b_M_lengthOf 113 = .ok (.invokevirtual 99, 3) := by decide +kernel
theorem d_M_lengthOf_116 : decode b_M_lengthOf 116 = .ok (.iadd, 1) := by decide +kernel
theorem d_M_lengthOf_117 : decode b_M_lengthOf 117 = .ok (.aload_n 0, 1) := by decide +kernel
theorem d_M_lengthOf_118 : decode b_M_lengthOf 118 = .ok (.iload_n 1, 1) := by decide +kernel
theorem d_M_lengthOf_119 : decode b_M_lengthOf 119 = .ok (.invokevirtual 92, 3) := by decide +kernel
theorem d_M_lengthOf_122 : decode b_M_lengthOf 122 = .ok (.isub, 1) := by decide +kernel
theorem d_M_lengthOf_123 : decode b_M_lengthOf 123 = .ok (.ireturn, 1) := by decide +kernel
theorem d_M_net_0 : decode b_M_net 0 = .ok (.iload_n 1, 1) := by decide +kernel
theorem d_M_net_1 : decode b_M_net 1 = .ok (.iconst 0, 1) := by decide +kernel
theorem d_M_net_2 : decode b_M_net 2 = .ok (.bipush 11, 2) := by decide +kernel
theorem d_M_net_4 : decode b_M_net 4 = .ok (.invokestatic 65, 3) := by decide +kernel
theorem d_M_net_7 : decode b_M_net 7 = .ok (.ifCond .eq 13, 3) := by decide +kernel
theorem d_M_net_10 : decode b_M_net 10 = .ok (.iload_n 2, 1) := by decide +kernel
theorem d_M_net_11 : decode b_M_net 11 = .ok (.iconst 0, 1) := by decide +kernel
theorem d_M_net_12 : decode b_M_net 12 = .ok (.bipush 6, 2) := by decide +kernel
theorem d_M_net_14 : decode b_M_net 14 = .ok (.invokestatic 65, 3) := by decide +kernel
theorem d_M_net_17 : decode b_M_net 17 = .ok (.ifCond .ne 9, 3) := by decide +kernel
theorem d_M_net_20 : decode b_M_net 20 = .ok (.aload_n 0, 1) := by decide +kernel
theorem d_M_net_21 : decode b_M_net 21 = .ok (.iconst 1, 1) := by decide +kernel
theorem d_M_net_22 : decode b_M_net 22 = .ok (.invokevirtual 69, 3) := by decide +kernel
theorem d_M_net_25 : decode b_M_net 25 = .ok (.ireturn, 1) := by decide +kernel
theorem d_M_net_26 : decode b_M_net 26 = .ok (.aload_n 0, 1) := by decide +kernel
theorem d_M_net_27 : decode b_M_net 27 = .ok (.iconst 0, 1) := by decide +kernel
theorem d_M_net_28 : decode b_M_net 28 = .ok (.putfield 55, 3) := by decide +kernel
theorem d_M_net_31 : decode b_M_net 31 = .ok (.iload_n 2, 1) := by decide +kernel
theorem d_M_net_32 : decode b_M_net 32 = .ok (.tableswitch 121 0 5 #[40, 46, 52, 66, 84, 102], 40) := by decide +kernel
theorem d_M_net_72 : decode b_M_net 72 = .ok (.aload_n 0, 1) := by decide +kernel
theorem d_M_net_73 : decode b_M_net 73 = .ok (.iload_n 1, 1) := by decide +kernel
theorem d_M_net_74 : decode b_M_net 74 = .ok (.invokevirtual 79, 3) := by decide +kernel
theorem d_M_net_77 : decode b_M_net 77 = .ok (.ireturn, 1) := by decide +kernel
theorem d_M_net_78 : decode b_M_net 78 = .ok (.aload_n 0, 1) := by decide +kernel
theorem d_M_net_79 : decode b_M_net 79 = .ok (.iload_n 1, 1) := by decide +kernel
theorem d_M_net_80 : decode b_M_net 80 = .ok (.invokevirtual 72, 3) := by decide +kernel
theorem d_M_net_83 : decode b_M_net 83 = .ok (.ireturn, 1) := by decide +kernel
theorem d_M_net_84 : decode b_M_net 84 = .ok (.aload_n 0, 1) := by decide +kernel
theorem d_M_net_85 : decode b_M_net 85 = .ok (.iload_n 1, 1) := by decide +kernel
theorem d_M_net_86 : decode b_M_net 86 = .ok (.invokevirtual 82, 3) := by decide +kernel
theorem d_M_net_89 : decode b_M_net 89 = .ok (.ifCond .eq 7, 3) := by decide +kernel
theorem d_M_net_92 : decode b_M_net 92 = .ok (.iconst 1, 1) := by decide +kernel
theorem d_M_net_93 : decode b_M_net 93 = .ok (.goto 4, 3) := by decide +kernel
theorem d_M_net_96 : decode b_M_net 96 = .ok (.iconst 0, 1) := by decide +kernel
theorem d_M_net_97 : decode b_M_net 97 = .ok (.ireturn, 1) := by decide +kernel
theorem d_M_net_98 : decode b_M_net 98 = .ok (.aload_n 0, 1) := by decide +kernel
theorem d_M_net_99 : decode b_M_net 99 = .ok (.iload_n 1, 1) := by decide +kernel
theorem d_M_net_100 : decode b_M_net 100 = .ok (.invokevirtual 89, 3) := by decide +kernel
theorem d_M_net_103 : decode b_M_net 103 = .ok (.ifCond .eq 11, 3) := by decide +kernel
theorem d_M_net_106 : decode b_M_net 106 = .ok (.aload_n 0, 1) := by decide +kernel
theorem d_M_net_107 : decode b_M_net 107 = .ok (.iload_n 1, 1) := by decide +kernel
theorem d_M_net_108 : decode b_M_net 108 = .ok (.invokevirtual 92, 3) := by decide +kernel
theorem d_M_net_111 : decode b_M_net 111 = .ok (.goto 4, 3) := by decide +kernel
theorem d_M_net_114 : decode b_M_net 114 = .ok (.iconst (-1), 1) := by decide +kernel
theorem d_M_net_115 : decode b_M_net 115 = .ok (.ireturn, 1) := by decide +kernel
theorem d_M_net_116 : decode b_M_net 116 = .ok (.aload_n 0, 1) := by decide +kernel
theorem d_M_net_117 : decode b_M_net 117 = .ok (.iload_n 1, 1) := by decide +kernel
theorem d_M_net_118 : decode b_M_net 118 = .ok (.invokevirtual 89, 3) := by decide +kernel
theorem d_M_net_121 : decode b_M_net 121 = .ok (.ifCond .eq 11, 3) := by decide +kernel
theorem d_M_net_124 : decode b_M_net 124 = .ok (.aload_n 0, 1) := by decide +kernel
theorem d_M_net_125 : decode b_M_net 125 = .ok (.iload_n 1, 1) := by decide +kernel
theorem d_M_net_126 : decode b_M_net 126 = .ok (.invokevirtual 99, 3) := by decide +kernel
theorem d_M_net_129 : decode b_M_net 129 = .ok (.goto 4, 3) := by decide +kernel
theorem d_M_net_132 : decode b_M_net 132 = .ok (.iconst (-1), 1) := by decide +kernel
theorem d_M_net_133 : decode b_M_net 133 = .ok (.ireturn, 1) := by decide +kernel
theorem d_M_net_134 : decode b_M_net 134 = .ok (.aload_n 0, 1) := by decide +kernel
theorem d_M_net_135 : decode b_M_net 135 = .ok (.getfield 9, 3) := by decide +kernel
theorem d_M_net_138 : decode b_M_net 138 = .ok (.iconst (-1), 1) := by decide +kernel
theorem d_M_net_139 : decode b_M_net 139 = .ok (.if_icmp .ne 7, 3) := by decide +kernel
theorem d_M_net_142 : decode b_M_net 142 = .ok (.iconst 0, 1) := by decide +kernel
theorem d_M_net_143 : decode b_M_net 143 = .ok (.goto 9, 3) := by decide +kernel
theorem d_M_net_146 : decode b_M_net 146 = .ok (.aload_n 0, 1) := by decide +kernel
theorem d_M_net_147 : decode b_M_net 147 = .ok (.getfield 39, 3) := by decide +kernel
theorem d_M_net_150 : decode b_M_net 150 = .ok (.iload_n 1, 1) := by decide +kernel
theorem d_M_net_151 : decode b_M_net 151 = .ok (.iaload, 1) := by decide +kernel
theorem d_M_net_152 : decode b_M_net 152 = .ok (.ireturn, 1) := by decide +kernel
theorem d_M_net_153 : decode b_M_net 153 = .ok (.aload_n 0, 1) := by decide +kernel
theorem d_M_net_154 : decode b_M_net 154 = .ok (.iload_n 1, 1) := by decide +kernel
theorem d_M_net_155 : decode b_M_net 155 = .ok (.invokevirtual 119, 3) := by decide +kernel
theorem d_M_net_158 : decode b_M_net 158 = .ok (.ireturn, 1) := by decide +kernel
theorem d_M_isPoint_0 : decode b_M_isPoint 0 = .ok (.iload_n 1, 1) := by decide +kernel
theorem d_M_isPoint_1 : decode b_M_isPoint 1 = .ok (.iconst 0, 1) := by decide +kernel
theorem d_M_isPoint_2 : decode b_M_isPoint 2 = .ok (.aload_n 0, 1) := by decide +kernel
theorem d_M_isPoint_3 : decode b_M_isPoint 3 = .ok (.getfield 9, 3) := by decide +kernel
theorem d_M_isPoint_6 : decode b_M_isPoint 6 = .ok (.iconst 1, 1) := by decide +kernel
theorem d_M_isPoint_7 : decode b_M_isPoint 7 = .ok (.iadd, 1) := by decide +kernel
theorem d_M_isPoint_8 : decode b_M_isPoint 8 = .ok (.invokestatic 65, 3) := by decide +kernel
theorem d_M_isPoint_11 : decode b_M_isPoint 11 = .ok (.ifCond .eq 17, 3) := by decide +kernel
theorem d_M_isPoint_14 : decode b_M_isPoint 14 = .ok (.iload_n 2, 1) := by decide +kernel
theorem d_M_isPoint_15 : decode b_M_isPoint 15 = .ok (.iconst 0, 1) := by decide +kernel
theorem d_M_isPoint_16 : decode b_M_isPoint 16 = .ok (.bipush 23, 2) := by decide +kernel
theorem d_M_isPoint_18 : decode b_M_isPoint 18 = .ok (.invokestatic 65, 3) := by decide +kernel
theorem d_M_isPoint_21 : decode b_M_isPoint 21 = .ok (.ifCond .eq 7, 3) := by decide +kernel
theorem d_M_isPoint_24 : decode b_M_isPoint 24 = .ok (.iconst 1, 1) := by decide +kernel
theorem d_M_isPoint_25 : decode b_M_isPoint 25 = .ok (.goto 4, 3) := by decide +kernel
theorem d_M_isPoint_28 : decode b_M_isPoint 28 = .ok (.iconst 0, 1) := by decide +kernel
theorem d_M_isPoint_29 : decode b_M_isPoint 29 = .ok (.ireturn, 1) := by decide +kernel
theorem d_M_mask_0 : decode b_M_mask 0 = .ok (.aload_n 0, 1) := by decide +kernel
theorem d_M_mask_1 : decode b_M_mask 1 = .ok (.getfield 9, 3) := by decide +kernel
theorem d_M_mask_4 : decode b_M_mask 4 = .ok (.iconst (-1), 1) := by decide +kernel
theorem d_M_mask_5 : decode b_M_mask 5 = .ok (.if_icmp .ne 9, 3) := by decide +kernel
theorem d_M_mask_8 : decode b_M_mask 8 = .ok (.aload_n 0, 1) := by decide +kernel
theorem d_M_mask_9 : decode b_M_mask 9 = .ok (.iconst 1, 1) := by decide +kernel
theorem d_M_mask_10 : decode b_M_mask 10 = .ok (.invokevirtual 69, 3) := by decide +kernel
theorem d_M_mask_13 : decode b_M_mask 13 = .ok (.ireturn, 1) := by decide +kernel
theorem d_M_mask_14 : decode b_M_mask 14 = .ok (.aload_n 0, 1) := by decide +kernel
theorem d_M_mask_15 : decode b_M_mask 15 = .ok (.iload_n 1, 1) := by decide +kernel
theorem d_M_mask_16 : decode b_M_mask 16 = .ok (.iload_n 2, 1) := by decide +kernel
theorem d_M_mask_17 : decode b_M_mask 17 = .ok (.invokevirtual 122, 3) := by decide +kernel
theorem d_M_mask_20 : decode b_M_mask 20 = .ok (.ifCond .ne 9, 3) := by decide +kernel
theorem d_M_mask_23 : decode b_M_mask 23 = .ok (.aload_n 0, 1) := by decide +kernel
theorem d_M_mask_24 : decode b_M_mask 24 = .ok (.iconst 2, 1) := by decide +kernel
theorem d_M_mask_25 : decode b_M_mask 25 = .ok (.invokevirtual 69, 3) := by decide +kernel
theorem d_M_mask_28 : decode b_M_mask 28 = .ok (.ireturn, 1) := by decide +kernel
theorem d_M_mask_29 : decode b_M_mask 29 = .ok (.aload_n 0, 1) := by decide +kernel
theorem d_M_mask_30 : decode b_M_mask 30 = .ok (.iconst 0, 1) := by decide +kernel
theorem d_M_mask_31 : decode b_M_mask 31 = .ok (.putfield 55, 3) := by decide +kernel
theorem d_M_mask_34 : decode b_M_mask 34 = .ok (.aload_n 0, 1) := by decide +kernel
theorem d_M_mask_35 : decode b_M_mask 35 = .ok (.getfield 42, 3) := by decide +kernel
theorem d_M_mask_38 : decode b_M_mask 38 = .ok (.bipush 24, 2) := by decide +kernel
theorem d_M_mask_40 : decode b_M_mask 40 = .ok (.iload_n 1, 1) := by decide +kernel
theorem d_M_mask_41 : decode b_M_mask 41 = .ok (.imul, 1) := by decide +kernel
theorem d_M_mask_42 : decode b_M_mask 42 = .ok (.iload_n 2, 1) := by decide +kernel
theorem d_M_mask_43 : decode b_M_mask 43 = .ok (.iadd, 1) := by decide +kernel
theorem d_M_mask_44 : decode b_M_mask 44 = .ok (.iaload, 1) := by decide +kernel
theorem d_M_mask_45 : decode b_M_mask 45 = .ok (.ireturn, 1) := by decide +kernel
theorem d_M_damage_0 : decode b_M_damage 0 = .ok (.iload_n 3, 1) := by decide +kernel
theorem d_M_damage_1 : decode b_M_damage 1 = .ok (.iconst 0, 1) := by decide +kernel
theorem d_M_damage_2 : decode b_M_damage 2 = .ok (.bipush 7, 2) := by decide +kernel
theorem d_M_damage_4 : decode b_M_damage 4 = .ok (.invokestatic 65, 3) := by decide +kernel
theorem d_M_damage_7 : decode b_M_damage 7 = .ok (.ifCond .ne 9, 3) := by decide +kernel
theorem d_M_damage_10 : decode b_M_damage 10 = .ok (.aload_n 0, 1) := by decide +kernel
theorem d_M_damage_11 : decode b_M_damage 11 = .ok (.iconst 1, 1) := by decide +kernel
theorem d_M_damage_12 : decode b_M_damage 12 = .ok (.invokevirtual 69, 3) := by decide +kernel
theorem d_M_damage_15 : decode b_M_damage 15 = .ok (.ireturn, 1) := by decide +kernel
theorem d_M_damage_16 : decode b_M_damage 16 = .ok (.aload_n 0, 1) := by decide +kernel
theorem d_M_damage_17 : decode b_M_damage 17 = .ok (.getfield 9, 3) := by decide +kernel
theorem d_M_damage_20 : decode b_M_damage 20 = .ok (.iconst (-1), 1) := by decide +kernel
theorem d_M_damage_21 : decode b_M_damage 21 = .ok (.if_icmp .ne 9, 3) := by decide +kernel
theorem d_M_damage_24 : decode b_M_damage 24 = .ok (.aload_n 0, 1) := by decide +kernel
theorem d_M_damage_25 : decode b_M_damage 25 = .ok (.iconst 2, 1) := by decide +kernel
theorem d_M_damage_26 : decode b_M_damage 26 = .ok (.invokevirtual 69, 3) := by decide +kernel
theorem d_M_damage_29 : decode b_M_damage 29 = .ok (.ireturn, 1) := by decide +kernel
theorem d_M_damage_30 : decode b_M_damage 30 = .ok (.aload_n 0, 1) := by decide +kernel
theorem d_M_damage_31 : decode b_M_damage 31 = .ok (.iload_n 1, 1) := by decide +kernel
theorem d_M_damage_32 : decode b_M_damage 32 = .ok (.iload_n 2, 1) := by decide +kernel
theorem d_M_damage_33 : decode b_M_damage 33 = .ok (.invokevirtual 122, 3) := by decide +kernel
theorem d_M_damage_36 : decode b_M_damage 36 = .ok (.ifCond .ne 9, 3) := by decide +kernel
theorem d_M_damage_39 : decode b_M_damage 39 = .ok (.aload_n 0, 1) := by decide +kernel
theorem d_M_damage_40 : decode b_M_damage 40 = .ok (.iconst 3, 1) := by decide +kernel
theorem d_M_damage_41 : decode b_M_damage 41 = .ok (.invokevirtual 69, 3) := by decide +kernel
theorem d_M_damage_44 : decode b_M_damage 44 = .ok (.ireturn, 1) := by decide +kernel
theorem d_M_damage_45 : decode b_M_damage 45 = .ok (.aload_n 0, 1) := by decide +kernel
theorem d_M_damage_46 : decode b_M_damage 46 = .ok (.iconst 0, 1) := by decide +kernel
theorem d_M_damage_47 : decode b_M_damage 47 = .ok (.putfield 55, 3) := by decide +kernel
theorem d_M_damage_50 : decode b_M_damage 50 = .ok (.aload_n 0, 1) := by decide +kernel
theorem d_M_damage_51 : decode b_M_damage 51 = .ok (.getfield 42, 3) := by decide +kernel
theorem d_M_damage_54 : decode b_M_damage 54 = .ok (.bipush 24, 2) := by decide +kernel
theorem d_M_damage_56 : decode b_M_damage 56 = .ok (.iload_n 1, 1) := by decide +kernel
theorem d_M_damage_57 : decode b_M_damage 57 = .ok (.imul, 1) := by decide +kernel
theorem d_M_damage_58 : decode b_M_damage 58 = .ok (.iload_n 2, 1) := by decide +kernel
theorem d_M_damage_59 : decode b_M_damage 59 = .ok (.iadd, 1) := by decide +kernel
theorem d_M_damage_60 : decode b_M_damage 60 = .ok (.iaload, 1) := by decide +kernel
theorem d_M_damage_61 : decode b_M_damage 61 = .ok (.istore 4, 2) := by decide +kernel
theorem d_M_damage_63 : decode b_M_damage 63 = .ok (.aload_n 0, 1) := by decide +kernel
theorem d_M_damage_64 : decode b_M_damage 64 = .ok (.getfield 42, 3) := by decide +kernel
theorem d_M_damage_67 : decode b_M_damage 67 = .ok (.bipush 24, 2) := by decide +kernel
theorem d_M_damage_69 : decode b_M_damage 69 = .ok (.iload_n 1, 1) := by decide +kernel
theorem d_M_damage_70 : decode b_M_damage 70 = .ok (.imul, 1) := by decide +kernel
theorem d_M_damage_71 : decode b_M_damage 71 = .ok (.iload_n 2, 1) := by decide +kernel
theorem d_M_damage_72 : decode b_M_damage 72 = .ok (.iadd, 1) := by decide +kernel
theorem d_M_damage_73 : decode b_M_damage 73 = .ok (.iload_n 3, 1) := by decide +kernel
theorem d_M_damage_74 : decode b_M_damage 74 = .ok (.iastore, 1) := by decide +kernel
theorem d_M_damage_75 : decode b_M_damage 75 = .ok (.iload 4, 2) := by decide +kernel
theorem d_M_damage_77 : decode b_M_damage 77 = .ok (.ireturn, 1) := by decide +kernel
theorem d_M_join_0 : decode b_M_join 0 = .ok (.aload_n 0, 1) := by decide +kernel
theorem d_M_join_1 : decode b_M_join 1 = .ok (.getfield 45, 3) := by decide +kernel
theorem d_M_join_4 : decode b_M_join 4 = .ok (.iload_n 1, 1) := by decide +kernel
theorem d_M_join_5 : decode b_M_join 5 = .ok (.iaload, 1) := by decide +kernel
theorem d_M_join_6 : decode b_M_join 6 = .ok (.aload_n 0, 1) := by decide +kernel
theorem d_M_join_7 : decode b_M_join 7 = .ok (.getfield 45, 3) := by decide +kernel
theorem d_M_join_10 : decode b_M_join 10 = .ok (.iload_n 2, 1) := by decide +kernel
theorem d_M_join_11 : decode b_M_join 11 = .ok (.iaload, 1) := by decide +kernel
theorem d_M_join_12 : decode b_M_join 12 = .ok (.if_icmp .ne 5, 3) := by decide +kernel
theorem d_M_join_15 : decode b_M_join 15 = .ok (.iconst 0, 1) := by decide +kernel
theorem d_M_join_16 : decode b_M_join 16 = .ok (.ireturn, 1) := by decide +kernel
theorem d_M_join_17 : decode b_M_join 17 = .ok (.aload_n 0, 1) := by decide +kernel
theorem d_M_join_18 : decode b_M_join 18 = .ok (.getfield 45, 3) := by decide +kernel
theorem d_M_join_21 : decode b_M_join 21 = .ok (.iload_n 1, 1) := by decide +kernel
theorem d_M_join_22 : decode b_M_join 22 = .ok (.iaload, 1) := by decide +kernel
theorem d_M_join_23 : decode b_M_join 23 = .ok (.aload_n 0, 1) := by decide +kernel
theorem d_M_join_24 : decode b_M_join 24 = .ok (.getfield 45, 3) := by decide +kernel
theorem d_M_join_27 : decode b_M_join 27 = .ok (.iload_n 2, 1) := by decide +kernel
theorem d_M_join_28 : decode b_M_join 28 = .ok (.iaload, 1) := by decide +kernel
theorem d_M_join_29 : decode b_M_join 29 = .ok (.if_icmp .ge 12, 3) := by decide +kernel
theorem d_M_join_32 : decode b_M_join 32 = .ok (.aload_n 0, 1) := by decide +kernel
theorem d_M_join_33 : decode b_M_join 33 = .ok (.getfield 45, 3) := by decide +kernel
theorem d_M_join_36 : decode b_M_join 36 = .ok (.iload_n 1, 1) := by decide +kernel
theorem d_M_join_37 : decode b_M_join 37 = .ok (.iaload, 1) := by decide +kernel
theorem d_M_join_38 : decode b_M_join 38 = .ok (.goto 9, 3) := by decide +kernel
theorem d_M_join_41 : decode b_M_join 41 = .ok (.aload_n 0, 1) := by decide +kernel
theorem d_M_join_42 : decode b_M_join 42 = .ok (.getfield 45, 3) := by decide +kernel
theorem d_M_join_45 : decode b_M_join 45 = .ok (.iload_n 2, 1) := by decide +kernel
theorem d_M_join_46 : decode b_M_join 46 = .ok (.iaload, 1) := by decide +kernel
theorem d_M_join_47 : decode b_M_join 47 = .ok (.istore_n 3, 1) := by decide +kernel
theorem d_M_join_48 : decode b_M_join 48 = .ok (.aload_n 0, 1) := by decide +kernel
theorem d_M_join_49 : decode b_M_join 49 = .ok (.getfield 45, 3) := by decide +kernel
theorem d_M_join_52 : decode b_M_join 52 = .ok (.iload_n 1, 1) := by decide +kernel
theorem d_M_join_53 : decode b_M_join 53 = .ok (.iload_n 3, 1) := by decide +kernel
theorem d_M_join_54 : decode b_M_join 54 = .ok (.iastore, 1) := by decide +kernel
theorem d_M_join_55 : decode b_M_join 55 = .ok (.aload_n 0, 1) := by decide +kernel
theorem d_M_join_56 : decode b_M_join 56 = .ok (.getfield 45, 3) := by decide +kernel
theorem d_M_join_59 : decode b_M_join 59 = .ok (.iload_n 2, 1) := by decide +kernel
theorem d_M_join_60 : decode b_M_join 60 = .ok (.iload_n 3, 1) := by decide +kernel
theorem d_M_join_61 : decode b_M_join 61 = .ok (.iastore, 1) := by decide +kernel
theorem d_M_join_62 : decode b_M_join 62 = .ok (.iconst 1, 1) := by decide +kernel
theorem d_M_join_63 : decode b_M_join 63 = .ok (.ireturn, 1) := by decide +kernel
theorem d_M_find_0 : decode b_M_find 0 = .ok (.bipush 24, 2) := by decide +kernel
theorem d_M_find_2 : decode b_M_find 2 = .ok (.aload_n 0, 1) := by decide +kernel
theorem d_M_find_3 : decode b_M_find 3 = .ok (.getfield 9, 3) := by decide +kernel
theorem d_M_find_6 : decode b_M_find 6 = .ok (.iconst 2, 1) := by decide +kernel
theorem d_M_find_7 : decode b_M_find 7 = .ok (.iadd, 1) := by decide +kernel
theorem d_M_find_8 : decode b_M_find 8 = .ok (.imul, 1) := by decide +kernel
theorem d_M_find_9 : decode b_M_find 9 = .ok (.istore_n 1, 1) := by decide +kernel
theorem d_M_find_10 : decode b_M_find 10 = .ok (.iconst 1, 1) := by decide +kernel
theorem d_M_find_11 : decode b_M_find 11 = .ok (.istore_n 2, 1) := by decide +kernel
theorem d_M_find_12 : decode b_M_find 12 = .ok (.iconst 0, 1) := by decide +kernel
theorem d_M_find_13 : decode b_M_find 13 = .ok (.istore_n 3, 1) := by decide +kernel
theorem d_M_find_14 : decode b_M_find 14 = .ok (.iload_n 3, 1) := by decide +kernel
theorem d_M_find_15 : decode b_M_find 15 = .ok (.iconst 2, 1) := by decide +kernel
theorem d_M_find_16 : decode b_M_find 16 = .ok (.iload_n 1, 1) := by decide +kernel
theorem d_M_find_17 : decode b_M_find 17 = .ok (.imul, 1) := by decide +kernel
theorem d_M_find_18 : decode b_M_find 18 = .ok (.if_icmp .ge 16, 3) := by decide +kernel
theorem d_M_find_21 : decode b_M_find 21 = .ok (.aload_n 0, 1) := by decide +kernel
theorem d_M_find_22 : decode b_M_find 22 = .ok (.getfield 45, 3) := by decide +kernel
theorem d_M_find_25 : decode b_M_find 25 = .ok (.iload_n 3, 1) := by decide +kernel
theorem d_M_find_26 : decode b_M_find 26 = .ok (.iload_n 3, 1) := by decide +kernel
theorem d_M_find_27 : decode b_M_find 27 = .ok (.iastore, 1) := by decide +kernel
theorem d_M_find_28 : decode b_M_find 28 = .ok (.iinc 3 1, 3) := by decide +kernel
theorem d_M_find_31 : decode b_M_find 31 = .ok (.goto (-17), 3) := by decide +kernel
theorem d_M_find_34 : decode b_M_find 34 = .ok (.iload_n 2, 1) := by decide +kernel
theorem d_M_find_35 : decode b_M_find 35 = .ok (.ifCond .eq 53, 3) := by decide +kernel
theorem d_M_find_38 : decode b_M_find 38 = .ok (.iconst 0, 1) := by decide +kernel
theorem d_M_find_39 : decode b_M_find 39 = .ok (.istore_n 2, 1) := by decide +kernel
theorem d_M_find_40 : decode b_M_find 40 = .ok (.iconst 0, 1) := by decide +kernel
theorem d_M_find_41 : decode b_M_find 41 = .ok (.istore_n 3, 1) := by decide +kernel
theorem d_M_find_42 : decode b_M_find 42 = .ok (.iload_n 3, 1) := by decide +kernel
theorem d_M_find_43 : decode b_M_find 43 = .ok (.iload_n 1, 1) := by decide +kernel
theorem d_M_find_44 : decode b_M_find 44 = .ok (.if_icmp .ge 18, 3) := by decide +kernel
theorem d_M_find_47 : decode b_M_find 47 = .ok (.iload_n 2, 1) := by decide +kernel
theorem d_M_find_48 : decode b_M_find 48 = .ok (.aload_n 0, 1) := by decide +kernel
theorem d_M_find_49 : decode b_M_find 49 = .ok (.iload_n 3, 1) := by decide +kernel
theorem d_M_find_50 : decode b_M_find 50 = .ok (.iload_n 1, 1) := by decide +kernel
theorem d_M_find_51 : decode b_M_find 51 = .ok (.invokevirtual 125, 3) := by decide +kernel
theorem d_M_find_54 : decode b_M_find 54 = .ok (.ior, 1) := by decide +kernel
theorem d_M_find_55 : decode b_M_find 55 = .ok (.istore_n 2, 1) := by decide +kernel
theorem d_M_find_56 : decode b_M_find 56 = .ok (.iinc 3 1, 3) := by decide +kernel
theorem d_M_find_59 : decode b_M_find 59 = .ok (.goto (-17), 3) := by decide +kernel
theorem d_M_find_62 : decode b_M_find 62 = .ok (.iload_n 1, 1) := by decide +kernel
theorem d_M_find_63 : decode b_M_find 63 = .ok (.iconst 1, 1) := by decide +kernel
theorem d_M_find_64 : decode b_M_find 64 = .ok (.isub, 1) := by decide +kernel
theorem d_M_find_65 : decode b_M_find 65 = .ok (.istore_n 3, 1) := by decide +kernel
theorem d_M_find_66 : decode b_M_find 66 = .ok (.iload_n 3, 1) := by decide +kernel
theorem d_M_find_67 : decode b_M_find 67 = .ok (.ifCond .lt 18, 3) := by decide +kernel
theorem d_M_find_70 : decode b_M_find 70 = .ok (.iload_n 2, 1) := by decide +kernel
theorem d_M_find_71 : decode b_M_find 71 = .ok (.aload_n 0, 1) := by decide +kernel
theorem d_M_find_72 : decode b_M_find 72 = .ok (.iload_n 3, 1) := by decide +kernel
theorem d_M_find_73 : decode b_M_find 73 = .ok (.iload_n 1, 1) := by decide +kernel
theorem d_M_find_74 : decode b_M_find 74 = .ok (.invokevirtual 125, 3) := by decide +kernel
theorem d_M_find_77 : decode b_M_find 77 = .ok (.ior, 1) := by decide +kernel
theorem d_M_find_78 : decode b_M_find 78 = .ok (.istore_n 2, 1) := by decide +kernel
theorem d_M_find_79 : decode b_M_find 79 = .ok (.iinc 3 (-1), 3) := by decide +kernel
theorem d_M_find_82 : decode b_M_find 82 = .ok (.goto (-16), 3) := by decide +kernel
theorem d_M_find_85 : decode b_M_find 85 = .ok (.goto (-51), 3) := by decide +kernel
theorem d_M_find_88 : decode b_M_find 88 = .ok (.return_, 1) := by decide +kernel
theorem d_M_joinAt_0 : decode b_M_joinAt 0 = .ok (.iconst 0, 1) := by decide +kernel
theorem d_M_joinAt_1 : decode b_M_joinAt 1 = .ok (.istore_n 3, 1) := by decide +kernel
theorem d_M_joinAt_2 : decode b_M_joinAt 2 = .ok (.aload_n 0, 1) := by decide +kernel
theorem d_M_joinAt_3 : decode b_M_joinAt 3 = .ok (.getfield 42, 3) := by decide +kernel
theorem d_M_joinAt_6 : decode b_M_joinAt 6 = .ok (.iload_n 1, 1) := by decide +kernel
theorem d_M_joinAt_7 : decode b_M_joinAt 7 = .ok (.iaload, 1) := by decide +kernel
theorem d_M_joinAt_8 : decode b_M_joinAt 8 = .ok (.iconst 1, 1) := by decide +kernel
theorem d_M_joinAt_9 : decode b_M_joinAt 9 = .ok (.iand, 1) := by decide +kernel
theorem d_M_joinAt_10 : decode b_M_joinAt 10 = .ok (.ifCond .eq 25, 3) := by decide +kernel
theorem d_M_joinAt_13 : decode b_M_joinAt 13 = .ok (.iload_n 1, 1) := by decide +kernel
theorem d_M_joinAt_14 : decode b_M_joinAt 14 = .ok (.bipush 24, 2) := by decide +kernel
theorem d_M_joinAt_16 : decode b_M_joinAt 16 = .ok (.irem, 1) := by decide +kernel
theorem d_M_joinAt_17 : decode b_M_joinAt 17 = .ok (.bipush 23, 2) := by decide +kernel
theorem d_M_joinAt_19 : decode b_M_joinAt 19 = .ok (.if_icmp .ge 16, 3) := by decide +kernel
theorem d_M_joinAt_22 : decode b_M_joinAt 22 = .ok (.aload_n 0, 1) := by decide +kernel
theorem d_M_joinAt_23 : decode b_M_joinAt 23 = .ok (.iconst 2, 1) := by decide +kernel
theorem d_M_joinAt_24 : decode b_M_joinAt 24 = .ok (.iload_n 1, 1) := by decide +kernel
theorem d_M_joinAt_25 : decode b_M_joinAt 25 = .ok (.imul, 1) := by decide +kernel
theorem d_M_joinAt_26 : decode b_M_joinAt 26 = .ok (.iconst 2, 1) := by decide +kernel
theorem d_M_joinAt_27 : decode b_M_joinAt 27 = .ok (.iload_n 1, 1) := by decide +kernel
theorem d_M_joinAt_28 : decode b_M_joinAt 28 = .ok (.imul, 1) := by decide +kernel
theorem d_M_joinAt_29 : decode b_M_joinAt 29 = .ok (.iconst 2, 1) := by decide +kernel
theorem d_M_joinAt_30 : decode b_M_joinAt 30 = .ok (.iadd, 1) := by decide +kernel
theorem d_M_joinAt_31 : decode b_M_joinAt 31 = .ok (.invokevirtual 128, 3) := by decide +kernel
theorem d_M_joinAt_34 : decode b_M_joinAt 34 = .ok (.istore_n 3, 1) := by decide +kernel
theorem d_M_joinAt_35 : decode b_M_joinAt 35 = .ok (.aload_n 0, 1) := by decide +kernel
theorem d_M_joinAt_36 : decode b_M_joinAt 36 = .ok (.getfield 42, 3) := by decide +kernel
theorem d_M_joinAt_39 : decode b_M_joinAt 39 = .ok (.iload_n 1, 1) := by decide +kernel
theorem d_M_joinAt_40 : decode b_M_joinAt 40 = .ok (.iaload, 1) := by decide +kernel
theorem d_M_joinAt_41 : decode b_M_joinAt 41 = .ok (.iconst 2, 1) := by decide +kernel
theorem d_M_joinAt_42 : decode b_M_joinAt 42 = .ok (.iand, 1) := by decide +kernel
theorem d_M_joinAt_43 : decode b_M_joinAt 43 = .ok (.ifCond .eq 31, 3) := by decide +kernel
theorem d_M_joinAt_46 : decode b_M_joinAt 46 = .ok (.iload_n 1, 1) := by decide +kernel
theorem d_M_joinAt_47 : decode b_M_joinAt 47 = .ok (.bipush 24, 2) := by decide +kernel
theorem d_M_joinAt_49 : decode b_M_joinAt 49 = .ok (.iadd, 1) := by decide +kernel
theorem d_M_joinAt_50 : decode b_M_joinAt 50 = .ok (.iload_n 2, 1) := by decide +kernel
theorem d_M_joinAt_51 : decode b_M_joinAt 51 = .ok (.if_icmp .ge 23, 3) := by decide +kernel
theorem d_M_joinAt_54 : decode b_M_joinAt 54 = .ok (.iload_n 3, 1) := by decide +kernel
theorem d_M_joinAt_55 : decode b_M_joinAt 55 = .ok (.aload_n 0, 1) := by decide +kernel
theorem d_M_joinAt_56 : decode b_M_joinAt 56 = .ok (.iconst 2, 1) := by decide +kernel
theorem d_M_joinAt_57 : decode b_M_joinAt 57 = .ok (.iload_n 1, 1) := by decide +kernel
theorem d_M_joinAt_58 : decode b_M_joinAt 58 = .ok (.imul, 1) := by decide +kernel
theorem d_M_joinAt_59 : decode b_M_joinAt 59 = .ok (.iconst 1, 1) := by decide +kernel
theorem d_M_joinAt_60 : decode b_M_joinAt 60 = .ok (.iadd, 1) := by decide +kernel
theorem d_M_joinAt_61 : decode b_M_joinAt 61 = .ok (.iconst 2, 1) := by decide +kernel
theorem d_M_joinAt_62 : decode b_M_joinAt 62 = .ok (.iload_n 1, 1) := by decide +kernel
theorem d_M_joinAt_63 : decode b_M_joinAt 63 = .ok (.bipush 24, 2) := by decide +kernel
theorem d_M_joinAt_65 : decode b_M_joinAt 65 = .ok (.iadd, 1) := by decide +kernel
theorem d_M_joinAt_66 : decode b_M_joinAt 66 = .ok (.imul, 1) := by decide +kernel
theorem d_M_joinAt_67 : decode b_M_joinAt 67 = .ok (.iconst 1, 1) := by decide +kernel
theorem d_M_joinAt_68 : decode b_M_joinAt 68 = .ok (.iadd, 1) := by decide +kernel
theorem d_M_joinAt_69 : decode b_M_joinAt 69 = .ok (.invokevirtual 128, 3) := by decide +kernel
theorem d_M_joinAt_72 : decode b_M_joinAt 72 = .ok (.ior, 1) := by decide +kernel
theorem d_M_joinAt_73 : decode b_M_joinAt 73 = .ok (.istore_n 3, 1) := by decide +kernel
theorem d_M_joinAt_74 : decode b_M_joinAt 74 = .ok (.aload_n 0, 1) := by decide +kernel
theorem d_M_joinAt_75 : decode b_M_joinAt 75 = .ok (.getfield 42, 3) := by decide +kernel
theorem d_M_joinAt_78 : decode b_M_joinAt 78 = .ok (.iload_n 1, 1) := by decide +kernel
theorem d_M_joinAt_79 : decode b_M_joinAt 79 = .ok (.iaload, 1) := by decide +kernel
theorem d_M_joinAt_80 : decode b_M_joinAt 80 = .ok (.iconst 4, 1) := by decide +kernel
theorem d_M_joinAt_81 : decode b_M_joinAt 81 = .ok (.iand, 1) := by decide +kernel
theorem d_M_joinAt_82 : decode b_M_joinAt 82 = .ok (.ifCond .eq 18, 3) := by decide +kernel
theorem d_M_joinAt_85 : decode b_M_joinAt 85 = .ok (.iload_n 3, 1) := by decide +kernel
theorem d_M_joinAt_86 : decode b_M_joinAt 86 = .ok (.aload_n 0, 1) := by decide +kernel
theorem d_M_joinAt_87 : decode b_M_joinAt 87 = .ok (.iconst 2, 1) := by decide +kernel
theorem d_M_joinAt_88 : decode b_M_joinAt 88 = .ok (.iload_n 1, 1) := by decide +kernel
theorem d_M_joinAt_89 : decode b_M_joinAt 89 = .ok (.imul, 1) := by decide +kernel
theorem d_M_joinAt_90 : decode b_M_joinAt 90 = .ok (.iconst 2, 1) := by decide +kernel
theorem d_M_joinAt_91 : decode b_M_joinAt 91 = .ok (.iload_n 1, 1) := by decide +kernel
theorem d_M_joinAt_92 : decode b_M_joinAt 92 = .ok (.imul, 1) := by decide +kernel
theorem d_M_joinAt_93 : decode b_M_joinAt 93 = .ok (.iconst 1, 1) := by decide +kernel
theorem d_M_joinAt_94 : decode b_M_joinAt 94 = .ok (.iadd, 1) := by decide +kernel
theorem d_M_joinAt_95 : decode b_M_joinAt 95 = .ok (.invokevirtual 128, 3) := by decide +kernel
theorem d_M_joinAt_98 : decode b_M_joinAt 98 = .ok (.ior, 1) := by decide +kernel
theorem d_M_joinAt_99 : decode b_M_joinAt 99 = .ok (.istore_n 3, 1) := by decide +kernel
theorem d_M_joinAt_100 : decode b_M_joinAt 100 = .ok (.iload_n 3, 1) := by decide +kernel
theorem d_M_joinAt_101 : decode b_M_joinAt 101 = .ok (.ireturn, 1) := by decide +kernel
theorem d_M_pinAt_0 : decode b_M_pinAt 0 = .ok (.aload_n 0, 1) := by decide +kernel
theorem d_M_pinAt_1 : decode b_M_pinAt 1 = .ok (.getfield 45, 3) := by decide +kernel
theorem d_M_pinAt_4 : decode b_M_pinAt 4 = .ok (.iconst 2, 1) := by decide +kernel
theorem d_M_pinAt_5 : decode b_M_pinAt 5 = .ok (.bipush 24, 2) := by decide +kernel
theorem d_M_pinAt_7 : decode b_M_pinAt 7 = .ok (.aload_n 0, 1) := by decide +kernel
theorem d_M_pinAt_8 : decode b_M_pinAt 8 = .ok (.getfield 26, 3) := by decide +kernel
theorem d_M_pinAt_11 : decode b_M_pinAt 11 = .ok (.iload_n 1, 1) := by decide +kernel
theorem d_M_pinAt_12 : decode b_M_pinAt 12 = .ok (.iaload, 1) := by decide +kernel
theorem d_M_pinAt_13 : decode b_M_pinAt 13 = .ok (.ifCond .ne 7, 3) := by decide +kernel
theorem d_M_pinAt_16 : decode b_M_pinAt 16 = .ok (.iconst 0, 1) := by decide +kernel
theorem d_M_pinAt_17 : decode b_M_pinAt 17 = .ok (.goto 9, 3) := by decide +kernel
theorem d_M_pinAt_20 : decode b_M_pinAt 20 = .ok (.aload_n 0, 1) := by decide +kernel
theorem d_M_pinAt_21 : decode b_M_pinAt 21 = .ok (.getfield 9, 3) := by decide +kernel
theorem d_M_pinAt_24 : decode b_M_pinAt 24 = .ok (.iconst 1, 1) := by decide +kernel
theorem d_M_pinAt_25 : decode b_M_pinAt 25 = .ok (.iadd, 1) := by decide +kernel
theorem d_M_pinAt_26 : decode b_M_pinAt 26 = .ok (.imul, 1) := by decide +kernel
theorem d_M_pinAt_27 : decode b_M_pinAt 27 = .ok (.aload_n 0, 1) := by decide +kernel
theorem d_M_pinAt_28 : decode b_M_pinAt 28 = .ok (.getfield 29, 3) := by decide +kernel
theorem d_M_pinAt_31 : decode b_M_pinAt 31 = .ok (.iload_n 1, 1) := by decide +kernel
theorem d_M_pinAt_32 : decode b_M_pinAt 32 = .ok (.iaload, 1) := by decide +kernel
theorem d_M_pinAt_33 : decode b_M_pinAt 33 = .ok (.iadd, 1) := by decide +kernel
theorem d_M_pinAt_34 : decode b_M_pinAt 34 = .ok (.iload_n 2, 1) := by decide +kernel
theorem d_M_pinAt_35 : decode b_M_pinAt 35 = .ok (.iadd, 1) := by decide +kernel
theorem d_M_pinAt_36 : decode b_M_pinAt 36 = .ok (.imul, 1) := by decide +kernel
theorem d_M_pinAt_37 : decode b_M_pinAt 37 = .ok (.iconst 1, 1) := by decide +kernel
theorem d_M_pinAt_38 : decode b_M_pinAt 38 = .ok (.iadd, 1) := by decide +kernel
theorem d_M_pinAt_39 : decode b_M_pinAt 39 = .ok (.iaload, 1) := by decide +kernel
theorem d_M_pinAt_40 : decode b_M_pinAt 40 = .ok (.ireturn, 1) := by decide +kernel
theorem d_M_joined_0 : decode b_M_joined 0 = .ok (.aload_n 0, 1) := by decide +kernel
theorem d_M_joined_1 : decode b_M_joined 1 = .ok (.aload_n 0, 1) := by decide +kernel
theorem d_M_joined_2 : decode b_M_joined 2 = .ok (.getfield 9, 3) := by decide +kernel
theorem d_M_joined_5 : decode b_M_joined 5 = .ok (.iconst (-1), 1) := by decide +kernel
theorem d_M_joined_6 : decode b_M_joined 6 = .ok (.if_icmp .ne 7, 3) := by decide +kernel
theorem d_M_joined_9 : decode b_M_joined 9 = .ok (.iconst 1, 1) := by decide +kernel
theorem d_M_joined_10 : decode b_M_joined 10 = .ok (.goto 27, 3) := by decide +kernel
theorem d_M_joined_13 : decode b_M_joined 13 = .ok (.aload_n 0, 1) := by decide +kernel
theorem d_M_joined_14 : decode b_M_joined 14 = .ok (.iload_n 1, 1) := by decide +kernel
theorem d_M_joined_15 : decode b_M_joined 15 = .ok (.iload_n 2, 1) := by decide +kernel
theorem d_M_joined_16 : decode b_M_joined 16 = .ok (.invokevirtual 116, 3) := by decide +kernel
theorem d_M_joined_19 : decode b_M_joined 19 = .ok (.ifCond .eq 13, 3) := by decide +kernel
theorem d_M_joined_22 : decode b_M_joined 22 = .ok (.aload_n 0, 1) := by decide +kernel
theorem d_M_joined_23 : decode b_M_joined 23 = .ok (.iload_n 3, 1) := by decide +kernel
theorem d_M_joined_24 : decode b_M_joined 24 = .ok (.iload 4, 2) := by decide +kernel
theorem d_M_joined_26 : decode b_M_joined 26 = .ok (.invokevirtual 116, 3) := by decide +kernel
theorem d_M_joined_29 : decode b_M_joined 29 = .ok (.ifCond .ne 7, 3) := by decide +kernel
theorem d_M_joined_32 : decode b_M_joined 32 = .ok (.iconst 2, 1) := by decide +kernel
theorem d_M_joined_33 : decode b_M_joined 33 = .ok (.goto 4, 3) := by decide +kernel
theorem d_M_joined_36 : decode b_M_joined 36 = .ok (.iconst 0, 1) := by decide +kernel
theorem d_M_joined_37 : decode b_M_joined 37 = .ok (.putfield 55, 3) := by decide +kernel
theorem d_M_joined_40 : decode b_M_joined 40 = .ok (.aload_n 0, 1) := by decide +kernel
theorem d_M_joined_41 : decode b_M_joined 41 = .ok (.getfield 55, 3) := by decide +kernel
theorem d_M_joined_44 : decode b_M_joined 44 = .ok (.ifCond .le 5, 3) := by decide +kernel
theorem d_M_joined_47 : decode b_M_joined 47 = .ok (.iconst 0, 1) := by decide +kernel
theorem d_M_joined_48 : decode b_M_joined 48 = .ok (.ireturn, 1) := by decide +kernel
theorem d_M_joined_49 : decode b_M_joined 49 = .ok (.aload_n 0, 1) := by decide +kernel
theorem d_M_joined_50 : decode b_M_joined 50 = .ok (.invokevirtual 131, 3) := by decide +kernel
theorem d_M_joined_53 : decode b_M_joined 53 = .ok (.aload_n 0, 1) := by decide +kernel
theorem d_M_joined_54 : decode b_M_joined 54 = .ok (.iload_n 1, 1) := by decide +kernel
theorem d_M_joined_55 : decode b_M_joined 55 = .ok (.iload_n 2, 1) := by decide +kernel
theorem d_M_joined_56 : decode b_M_joined 56 = .ok (.invokevirtual 134, 3) := by decide +kernel
theorem d_M_joined_59 : decode b_M_joined 59 = .ok (.aload_n 0, 1) := by decide +kernel
theorem d_M_joined_60 : decode b_M_joined 60 = .ok (.iload_n 3, 1) := by decide +kernel
theorem d_M_joined_61 : decode b_M_joined 61 = .ok (.iload 4, 2) := by decide +kernel
theorem d_M_joined_63 : decode b_M_joined 63 = .ok (.invokevirtual 134, 3) := by decide +kernel
theorem d_M_joined_66 : decode b_M_joined 66 = .ok (.if_icmp .ne 7, 3) := by decide +kernel
theorem d_M_joined_69 : decode b_M_joined 69 = .ok (.iconst 1, 1) := by decide +kernel
theorem d_M_joined_70 : decode b_M_joined 70 = .ok (.goto 4, 3) := by decide +kernel
theorem d_M_joined_73 : decode b_M_joined 73 = .ok (.iconst 0, 1) := by decide +kernel
theorem d_M_joined_74 : decode b_M_joined 74 = .ok (.ireturn, 1) := by decide +kernel
theorem d_M_place_0 : decode b_M_place 0 = .ok (.iload_n 2, 1) := by decide +kernel
theorem d_M_place_1 : decode b_M_place 1 = .ok (.istore_n 3, 1) := by decide +kernel
theorem d_M_place_2 : decode b_M_place 2 = .ok (.iconst 0, 1) := by decide +kernel
theorem d_M_place_3 : decode b_M_place 3 = .ok (.istore 4, 2) := by decide +kernel
theorem d_M_place_5 : decode b_M_place 5 = .ok (.iload 4, 2) := by decide +kernel
theorem d_M_place_7 : decode b_M_place 7 = .ok (.aload_n 0, 1) := by decide +kernel
theorem d_M_place_8 : decode b_M_place 8 = .ok (.getfield 62, 3) := by decide +kernel
theorem d_M_place_11 : decode b_M_place 11 = .ok (.if_icmp .ge 60, 3) := by decide +kernel
theorem d_M_place_14 : decode b_M_place 14 = .ok (.iconst 0, 1) := by decide +kernel
theorem d_M_place_15 : decode b_M_place 15 = .ok (.istore 5, 2) := by decide +kernel
theorem d_M_place_17 : decode b_M_place 17 = .ok (.iload 5, 2) := by decide +kernel
theorem d_M_place_19 : decode b_M_place 19 = .ok (.aload_n 0, 1) := by decide +kernel
theorem d_M_place_20 : decode b_M_place 20 = .ok (.iload 4, 2) := by decide +kernel
theorem d_M_place_22 : decode b_M_place 22 = .ok (.invokevirtual 58, 3) := by decide +kernel
theorem d_M_place_25 : decode b_M_place 25 = .ok (.if_icmp .ge 40, 3) := by decide +kernel
theorem d_M_place_28 : decode b_M_place 28 = .ok (.aload_n 0, 1) := by decide +kernel
theorem d_M_place_29 : decode b_M_place 29 = .ok (.iload 4, 2) := by decide +kernel
theorem d_M_place_31 : decode b_M_place 31 = .ok (.iload 5, 2) := by decide +kernel
theorem d_M_place_33 : decode b_M_place 33 = .ok (.invokevirtual 75, 3) := by decide +kernel
theorem d_M_place_36 : decode b_M_place 36 = .ok (.iload_n 1, 1) := by decide +kernel
theorem d_M_place_37 : decode b_M_place 37 = .ok (.if_icmp .eq 6, 3) := by decide +kernel
theorem d_M_place_40 : decode b_M_place 40 = .ok (.goto 19, 3) := by decide +kernel
theorem d_M_place_43 : decode b_M_place 43 = .ok (.iload_n 3, 1) := by decide +kernel
theorem d_M_place_44 : decode b_M_place 44 = .ok (.ifCond .ne 12, 3) := by decide +kernel
theorem d_M_place_47 : decode b_M_place 47 = .ok (.aload_n 0, 1) := by decide +kernel
theorem d_M_place_48 : decode b_M_place 48 = .ok (.iload 4, 2) := by decide +kernel
theorem d_M_place_50 : decode b_M_place 50 = .ok (.iload 5, 2) := by decide +kernel
theorem d_M_place_52 : decode b_M_place 52 = .ok (.invokevirtual 134, 3) := by decide +kernel
theorem d_M_place_55 : decode b_M_place 55 = .ok (.ireturn, 1) := by decide +kernel
theorem d_M_place_56 : decode b_M_place 56 = .ok (.iinc 3 (-1), 3) := by decide +kernel
theorem d_M_place_59 : decode b_M_place 59 = .ok (.iinc 5 1, 3) := by decide +kernel
theorem d_M_place_62 : decode b_M_place 62 = .ok (.goto (-45), 3) := by decide +kernel
theorem d_M_place_65 : decode b_M_place 65 = .ok (.iinc 4 1, 3) := by decide +kernel
theorem d_M_place_68 : decode b_M_place 68 = .ok (.goto (-63), 3) := by decide +kernel
theorem d_M_place_71 : decode b_M_place 71 = .ok (.iload_n 3, 1) := by decide +kernel
theorem d_M_place_72 : decode b_M_place 72 = .ok (.ifCond .ne 28, 3) := by decide +kernel
theorem d_M_place_75 : decode b_M_place 75 = .ok (.aload_n 0, 1) := by decide +kernel
theorem d_M_place_76 : decode b_M_place 76 = .ok (.iload_n 1, 1) := by decide +kernel
theorem d_M_place_77 : decode b_M_place 77 = .ok (.invokevirtual 82, 3) := by decide +kernel
theorem d_M_place_80 : decode b_M_place 80 = .ok (.ifCond .eq 20, 3) := by decide +kernel
theorem d_M_place_83 : decode b_M_place 83 = .ok (.aload_n 0, 1) := by decide +kernel
theorem d_M_place_84 : decode b_M_place 84 = .ok (.getfield 45, 3) := by decide +kernel
theorem d_M_place_87 : decode b_M_place 87 = .ok (.bipush 48, 2) := by decide +kernel
theorem d_M_place_89 : decode b_M_place 89 = .ok (.aload_n 0, 1) := by decide +kernel
theorem d_M_place_90 : decode b_M_place 90 = .ok (.getfield 39, 3) := by decide +kernel
theorem d_M_place_93 : decode b_M_place 93 = .ok (.iload_n 1, 1) := by decide +kernel
theorem d_M_place_94 : decode b_M_place 94 = .ok (.iaload, 1) := by decide +kernel
theorem d_M_place_95 : decode b_M_place 95 = .ok (.imul, 1) := by decide +kernel
theorem d_M_place_96 : decode b_M_place 96 = .ok (.iaload, 1) := by decide +kernel
theorem d_M_place_97 : decode b_M_place 97 = .ok (.goto 4, 3) := by decide +kernel
theorem d_M_place_100 : decode b_M_place 100 = .ok (.iconst (-1), 1) := by decide +kernel
theorem d_M_place_101 : decode b_M_place 101 = .ok (.ireturn, 1) := by decide +kernel
theorem d_M_isOpen_0 : decode b_M_isOpen 0 = .ok (.iconst 1, 1) := by decide +kernel
theorem d_M_isOpen_1 : decode b_M_isOpen 1 = .ok (.istore_n 2, 1) := by decide +kernel
theorem d_M_isOpen_2 : decode b_M_isOpen 2 = .ok (.aload_n 0, 1) := by decide +kernel
theorem d_M_isOpen_3 : decode b_M_isOpen 3 = .ok (.iload_n 1, 1) := by decide +kernel
theorem d_M_isOpen_4 : decode b_M_isOpen 4 = .ok (.iload_n 2, 1) := by decide +kernel
theorem d_M_isOpen_5 : decode b_M_isOpen 5 = .ok (.invokevirtual 137, 3) := by decide +kernel
theorem d_M_isOpen_8 : decode b_M_isOpen 8 = .ok (.iconst (-1), 1) := by decide +kernel
theorem d_M_isOpen_9 : decode b_M_isOpen 9 = .ok (.if_icmp .eq 26, 3) := by decide +kernel
theorem d_M_isOpen_12 : decode b_M_isOpen 12 = .ok (.aload_n 0, 1) := by decide +kernel
theorem d_M_isOpen_13 : decode b_M_isOpen 13 = .ok (.iload_n 1, 1) := by decide +kernel
theorem d_M_isOpen_14 : decode b_M_isOpen 14 = .ok (.iload_n 2, 1) := by decide +kernel
theorem d_M_isOpen_15 : decode b_M_isOpen 15 = .ok (.invokevirtual 137, 3) := by decide +kernel
theorem d_M_isOpen_18 : decode b_M_isOpen 18 = .ok (.aload_n 0, 1) := by decide +kernel
theorem d_M_isOpen_19 : decode b_M_isOpen 19 = .ok (.iload_n 1, 1) := by decide +kernel
theorem d_M_isOpen_20 : decode b_M_isOpen 20 = .ok (.iconst 0, 1) := by decide +kernel
theorem d_M_isOpen_21 : decode b_M_isOpen 21 = .ok (.invokevirtual 137, 3) := by decide +kernel
theorem d_M_isOpen_24 : decode b_M_isOpen 24 = .ok (.if_icmp .eq 5, 3) := by decide +kernel
theorem d_M_isOpen_27 : decode b_M_isOpen 27 = .ok (.iconst 1, 1) := by decide +kernel
theorem d_M_isOpen_28 : decode b_M_isOpen 28 = .ok (.ireturn, 1) := by decide +kernel
theorem d_M_isOpen_29 : decode b_M_isOpen 29 = .ok (.iinc 2 1, 3) := by decide +kernel
theorem d_M_isOpen_32 : decode b_M_isOpen 32 = .ok (.goto (-30), 3) := by decide +kernel
theorem d_M_isOpen_35 : decode b_M_isOpen 35 = .ok (.iconst 0, 1) := by decide +kernel
theorem d_M_isOpen_36 : decode b_M_isOpen 36 = .ok (.ireturn, 1) := by decide +kernel
theorem d_M_isShort_0 : decode b_M_isShort 0 = .ok (.iconst 0, 1) := by decide +kernel
theorem d_M_isShort_1 : decode b_M_isShort 1 = .ok (.istore_n 3, 1) := by decide +kernel
theorem d_M_isShort_2 : decode b_M_isShort 2 = .ok (.aload_n 0, 1) := by decide +kernel
theorem d_M_isShort_3 : decode b_M_isShort 3 = .ok (.iload_n 1, 1) := by decide +kernel
theorem d_M_isShort_4 : decode b_M_isShort 4 = .ok (.iload_n 3, 1) := by decide +kernel
theorem d_M_isShort_5 : decode b_M_isShort 5 = .ok (.invokevirtual 137, 3) := by decide +kernel
theorem d_M_isShort_8 : decode b_M_isShort 8 = .ok (.iconst (-1), 1) := by decide +kernel
theorem d_M_isShort_9 : decode b_M_isShort 9 = .ok (.if_icmp .eq 47, 3) := by decide +kernel
theorem d_M_isShort_12 : decode b_M_isShort 12 = .ok (.iconst 0, 1) := by decide +kernel
theorem d_M_isShort_13 : decode b_M_isShort 13 = .ok (.istore 4, 2) := by decide +kernel
theorem d_M_isShort_15 : decode b_M_isShort 15 = .ok (.aload_n 0, 1) := by decide +kernel
theorem d_M_isShort_16 : decode b_M_isShort 16 = .ok (.iload_n 2, 1) := by decide +kernel
theorem d_M_isShort_17 : decode b_M_isShort 17 = .ok (.iload 4, 2) := by decide +kernel
theorem d_M_isShort_19 : decode b_M_isShort 19 = .ok (.invokevirtual 137, 3) := by decide +kernel
theorem d_M_isShort_22 : decode b_M_isShort 22 = .ok (.iconst (-1), 1) := by decide +kernel
theorem d_M_isShort_23 : decode b_M_isShort 23 = .ok (.if_icmp .eq 27, 3) := by decide +kernel
theorem d_M_isShort_26 : decode b_M_isShort 26 = .ok (.aload_n 0, 1) := by decide +kernel
theorem d_M_isShort_27 : decode b_M_isShort 27 = .ok (.iload_n 1, 1) := by decide +kernel
theorem d_M_isShort_28 : decode b_M_isShort 28 = .ok (.iload_n 3, 1) := by decide +kernel
theorem d_M_isShort_29 : decode b_M_isShort 29 = .ok (.invokevirtual 137, 3) := by decide +kernel
theorem d_M_isShort_32 : decode b_M_isShort 32 = .ok (.aload_n 0, 1) := by decide +kernel
theorem d_M_isShort_33 : decode b_M_isShort 33 = .ok (.iload_n 2, 1) := by decide +kernel
theorem d_M_isShort_34 : decode b_M_isShort 34 = .ok (.iload 4, 2) := by decide +kernel
theorem d_M_isShort_36 : decode b_M_isShort 36 = .ok (.invokevirtual 137, 3) := by decide +kernel
theorem d_M_isShort_39 : decode b_M_isShort 39 = .ok (.if_icmp .ne 5, 3) := by decide +kernel
theorem d_M_isShort_42 : decode b_M_isShort 42 = .ok (.iconst 1, 1) := by decide +kernel
theorem d_M_isShort_43 : decode b_M_isShort 43 = .ok (.ireturn, 1) := by decide +kernel
theorem d_M_isShort_44 : decode b_M_isShort 44 = .ok (.iinc 4 1, 3) := by decide +kernel
theorem d_M_isShort_47 : decode b_M_isShort 47 = .ok (.goto (-32), 3) := by decide +kernel
theorem d_M_isShort_50 : decode b_M_isShort 50 = .ok (.iinc 3 1, 3) := by decide +kernel
theorem d_M_isShort_53 : decode b_M_isShort 53 = .ok (.goto (-51), 3) := by decide +kernel
theorem d_M_isShort_56 : decode b_M_isShort 56 = .ok (.iconst 0, 1) := by decide +kernel
theorem d_M_isShort_57 : decode b_M_isShort 57 = .ok (.ireturn, 1) := by decide +kernel
theorem d_M_faults_0 : decode b_M_faults 0 = .ok (.aload_n 0, 1) := by decide +kernel
theorem d_M_faults_1 : decode b_M_faults 1 = .ok (.getfield 9, 3) := by decide +kernel
theorem d_M_faults_4 : decode b_M_faults 4 = .ok (.iconst (-1), 1) := by decide +kernel
theorem d_M_faults_5 : decode b_M_faults 5 = .ok (.if_icmp .ne 9, 3) := by decide +kernel
theorem d_M_faults_8 : decode b_M_faults 8 = .ok (.aload_n 0, 1) := by decide +kernel
theorem d_M_faults_9 : decode b_M_faults 9 = .ok (.iconst 1, 1) := by decide +kernel
theorem d_M_faults_10 : decode b_M_faults 10 = .ok (.invokevirtual 69, 3) := by decide +kernel
theorem d_M_faults_13 : decode b_M_faults 13 = .ok (.ireturn, 1) := by decide +kernel
theorem d_M_faults_14 : decode b_M_faults 14 = .ok (.aload_n 0, 1) := by decide +kernel
theorem d_M_faults_15 : decode b_M_faults 15 = .ok (.iconst 0, 1) := by decide +kernel
theorem d_M_faults_16 : decode b_M_faults 16 = .ok (.putfield 55, 3) := by decide +kernel
theorem d_M_faults_19 : decode b_M_faults 19 = .ok (.iconst 0, 1) := by decide +kernel
theorem d_M_faults_20 : decode b_M_faults 20 = .ok (.istore_n 2, 1) := by decide +kernel
theorem d_M_faults_21 : decode b_M_faults 21 = .ok (.aload_n 0, 1) := by decide +kernel
theorem d_M_faults_22 : decode b_M_faults 22 = .ok (.invokevirtual 131, 3) := by decide +kernel
theorem d_M_faults_25 : decode b_M_faults 25 = .ok (.iconst 0, 1) := by decide +kernel
theorem d_M_faults_26 : decode b_M_faults 26 = .ok (.istore_n 3, 1) := by decide +kernel
theorem d_M_faults_27 : decode b_M_faults 27 = .ok (.iload_n 3, 1) := by decide +kernel
theorem d_M_faults_28 : decode b_M_faults 28 = .ok (.bipush 12, 2) := by decide +kernel
theorem d_M_faults_30 : decode b_M_faults 30 = .ok (.if_icmp .ge 76, 3) := by decide +kernel
theorem d_M_faults_33 : decode b_M_faults 33 = .ok (.aload_n 0, 1) := by decide +kernel
theorem d_M_faults_34 : decode b_M_faults 34 = .ok (.iload_n 3, 1) := by decide +kernel
theorem d_M_faults_35 : decode b_M_faults 35 = .ok (.invokevirtual 89, 3) := by decide +kernel
theorem d_M_faults_38 : decode b_M_faults 38 = .ok (.ifCond .ne 6, 3) := by decide +kernel
theorem d_M_faults_41 : decode b_M_faults 41 = .ok (.goto 59, 3) := by decide +kernel
theorem d_M_faults_44 : decode b_M_faults 44 = .ok (.iload_n 1, 1) := by decide +kernel
theorem d_M_faults_45 : decode b_M_faults 45 = .ok (.ifCond .ne 14, 3) := by decide +kernel
theorem d_M_faults_48 : decode b_M_faults 48 = .ok (.aload_n 0, 1) := by decide +kernel
theorem d_M_faults_49 : decode b_M_faults 49 = .ok (.iload_n 3, 1) := by decide +kernel
theorem d_M_faults_50 : decode b_M_faults 50 = .ok (.invokevirtual 140, 3) := by decide +kernel
theorem d_M_faults_53 : decode b_M_faults 53 = .ok (.ifCond .eq 6, 3) := by decide +kernel
theorem d_M_faults_56 : decode b_M_faults 56 = .ok (.iinc 2 1, 3) := by decide +kernel
theorem d_M_faults_59 : decode b_M_faults 59 = .ok (.iconst 0, 1) := by decide +kernel
theorem d_M_faults_60 : decode b_M_faults 60 = .ok (.istore 4, 2) := by decide +kernel
theorem d_M_faults_62 : decode b_M_faults 62 = .ok (.iload 4, 2) := by decide +kernel
theorem d_M_faults_64 : decode b_M_faults 64 = .ok (.iload_n 3, 1) := by decide +kernel
theorem d_M_faults_65 : decode b_M_faults 65 = .ok (.if_icmp .ge 35, 3) := by decide +kernel
theorem d_M_faults_68 : decode b_M_faults 68 = .ok (.iload_n 1, 1) := by decide +kernel
theorem d_M_faults_69 : decode b_M_faults 69 = .ok (.ifCond .eq 31, 3) := by decide +kernel
theorem d_M_faults_72 : decode b_M_faults 72 = .ok (.aload_n 0, 1) := by decide +kernel
theorem d_M_faults_73 : decode b_M_faults 73 = .ok (.iload 4, 2) := by decide +kernel
theorem d_M_faults_75 : decode b_M_faults 75 = .ok (.invokevirtual 89, 3) := by decide +kernel
theorem d_M_faults_78 : decode b_M_faults 78 = .ok (.ifCond .eq 16, 3) := by decide +kernel
theorem d_M_faults_81 : decode b_M_faults 81 = .ok (.aload_n 0, 1) := by decide +kernel
theorem d_M_faults_82 : decode b_M_faults 82 = .ok (.iload_n 3, 1) := by decide +kernel
theorem d_M_faults_83 : decode b_M_faults 83 = .ok (.iload 4, 2) := by decide +kernel
theorem d_M_faults_85 : decode b_M_faults 85 = .ok (.invokevirtual 143, 3) := by decide +kernel
theorem d_M_faults_88 : decode b_M_faults 88 = .ok (.ifCond .eq 6, 3) := by decide +kernel
theorem d_M_faults_91 : decode b_M_faults 91 = .ok (.iinc 2 1, 3) := by decide +kernel
theorem d_M_faults_94 : decode b_M_faults 94 = .ok (.iinc 4 1, 3) := by decide +kernel
theorem d_M_faults_97 : decode b_M_faults 97 = .ok (.goto (-35), 3) := by decide +kernel
theorem d_M_faults_100 : decode b_M_faults 100 = .ok (.iinc 3 1, 3) := by decide +kernel
theorem d_M_faults_103 : decode b_M_faults 103 = .ok (.goto (-76), 3) := by decide +kernel
theorem d_M_faults_106 : decode b_M_faults 106 = .ok (.iload_n 2, 1) := by decide +kernel
theorem d_M_faults_107 : decode b_M_faults 107 = .ok (.ireturn, 1) := by decide +kernel
theorem d_M_time_0 : decode b_M_time 0 = .ok (.iload_n 1, 1) := by decide +kernel
theorem d_M_time_1 : decode b_M_time 1 = .ok (.iconst 0, 1) := by decide +kernel
theorem d_M_time_2 : decode b_M_time 2 = .ok (.iconst 3, 1) := by decide +kernel
theorem d_M_time_3 : decode b_M_time 3 = .ok (.invokestatic 65, 3) := by decide +kernel
theorem d_M_time_6 : decode b_M_time 6 = .ok (.ifCond .eq 17, 3) := by decide +kernel
theorem d_M_time_9 : decode b_M_time 9 = .ok (.dload_n 2, 1) := by decide +kernel
theorem d_M_time_10 : decode b_M_time 10 = .ok (.dconst 0, 1) := by decide +kernel
theorem d_M_time_11 : decode b_M_time 11 = .ok (.dcmp .l, 1) := by decide +kernel
theorem d_M_time_12 : decode b_M_time 12 = .ok (.ifCond .lt 11, 3) := by decide +kernel
theorem d_M_time_15 : decode b_M_time 15 = .ok (.dload_n 2, 1) := by decide +kernel
theorem d_M_time_16 : decode b_M_time 16 = .ok (.ldc2_w 146, 3) := by decide +kernel
theorem d_M_time_19 : decode b_M_time 19 = .ok (.dcmp .g, 1) := by decide +kernel
theorem d_M_time_20 : decode b_M_time 20 = .ok (.ifCond .le 10, 3) := by decide +kernel
theorem d_M_time_23 : decode b_M_time 23 = .ok (.aload_n 0, 1) := by decide +kernel
theorem d_M_time_24 : decode b_M_time 24 = .ok (.iconst 1, 1) := by decide +kernel
theorem d_M_time_25 : decode b_M_time 25 = .ok (.invokevirtual 69, 3) := by decide +kernel
theorem d_M_time_28 : decode b_M_time 28 = .ok (.i2d, 1) := by decide +kernel
theorem d_M_time_29 : decode b_M_time 29 = .ok (.dreturn, 1) := by decide +kernel
theorem d_M_time_30 : decode b_M_time 30 = .ok (.aload_n 0, 1) := by decide +kernel
theorem d_M_time_31 : decode b_M_time 31 = .ok (.iconst 0, 1) := by decide +kernel
theorem d_M_time_32 : decode b_M_time 32 = .ok (.putfield 55, 3) := by decide +kernel
theorem d_M_time_35 : decode b_M_time 35 = .ok (.aload_n 0, 1) := by decide +kernel
theorem d_M_time_36 : decode b_M_time 36 = .ok (.getfield 35, 3) := by decide +kernel
theorem d_M_time_39 : decode b_M_time 39 = .ok (.iload_n 1, 1) := by decide +kernel
theorem d_M_time_40 : decode b_M_time 40 = .ok (.daload, 1) := by decide +kernel
theorem d_M_time_41 : decode b_M_time 41 = .ok (.dstore 4, 2) := by decide +kernel
theorem d_M_time_43 : decode b_M_time 43 = .ok (.aload_n 0, 1) := by decide +kernel
theorem d_M_time_44 : decode b_M_time 44 = .ok (.getfield 35, 3) := by decide +kernel
theorem d_M_time_47 : decode b_M_time 47 = .ok (.iload_n 1, 1) := by decide +kernel
theorem d_M_time_48 : decode b_M_time 48 = .ok (.dload_n 2, 1) := by decide +kernel
theorem d_M_time_49 : decode b_M_time 49 = .ok (.dastore, 1) := by decide +kernel
theorem d_M_time_50 : decode b_M_time 50 = .ok (.dload 4, 2) := by decide +kernel
theorem d_M_time_52 : decode b_M_time 52 = .ok (.dreturn, 1) := by decide +kernel
theorem d_M_delayOf_0 : decode b_M_delayOf 0 = .ok (.aload_n 0, 1) := by decide +kernel
theorem d_M_delayOf_1 : decode b_M_delayOf 1 = .ok (.iload_n 1, 1) := by decide +kernel
theorem d_M_delayOf_2 : decode b_M_delayOf 2 = .ok (.invokevirtual 119, 3) := by decide +kernel
theorem d_M_delayOf_5 : decode b_M_delayOf 5 = .ok (.i2d, 1) := by decide +kernel
theorem d_M_delayOf_6 : decode b_M_delayOf 6 = .ok (.dstore_n 2, 1) := by decide +kernel
theorem d_M_delayOf_7 : decode b_M_delayOf 7 = .ok (.dload_n 2, 1) := by decide +kernel
theorem d_M_delayOf_8 : decode b_M_delayOf 8 = .ok (.dconst 0, 1) := by decide +kernel
theorem d_M_delayOf_9 : decode b_M_delayOf 9 = .ok (.dcmp .l, 1) := by decide +kernel
theorem d_M_delayOf_10 : decode b_M_delayOf 10 = .ok (.ifCond .ne 7, 3) := by decide +kernel
theorem d_M_delayOf_13 : decode b_M_delayOf 13 = .ok (.dconst 0, 1) := by decide +kernel
theorem d_M_delayOf_14 : decode b_M_delayOf 14 = .ok (.goto 21, 3) := by decide +kernel
theorem d_M_delayOf_17 : decode b_M_delayOf 17 = .ok (.ldc2_w 148, 3) := by decide +kernel
theorem d_M_delayOf_20 : decode b_M_delayOf 20 = .ok (.dload_n 2, 1) := by decide +kernel
theorem d_M_delayOf_21 : decode b_M_delayOf 21 = .ok (.dmul, 1) := by decide +kernel
theorem d_M_delayOf_22 : decode b_M_delayOf 22 = .ok (.ldc2_w 150, 3) := by decide +kernel
theorem d_M_delayOf_25 : decode b_M_delayOf 25 = .ok (.dload_n 2, 1) := by decide +kernel
theorem d_M_delayOf_26 : decode b_M_delayOf 26 = .ok (.dmul, 1) := by decide +kernel
theorem d_M_delayOf_27 : decode b_M_delayOf 27 = .ok (.aload_n 0, 1) := by decide +kernel
theorem d_M_delayOf_28 : decode b_M_delayOf 28 = .ok (.iload_n 1, 1) := by decide +kernel
theorem d_M_delayOf_29 : decode b_M_delayOf 29 = .ok (.invokevirtual 79, 3) := by decide +kernel
theorem d_M_delayOf_32 : decode b_M_delayOf 32 = .ok (.i2d, 1) := by decide +kernel
theorem d_M_delayOf_33 : decode b_M_delayOf 33 = .ok (.dadd, 1) := by decide +kernel
theorem d_M_delayOf_34 : decode b_M_delayOf 34 = .ok (.dmul, 1) := by decide +kernel
theorem d_M_delayOf_35 : decode b_M_delayOf 35 = .ok (.dreturn, 1) := by decide +kernel
theorem d_M_delay_0 : decode b_M_delay 0 = .ok (.iload_n 1, 1) := by decide +kernel
theorem d_M_delay_1 : decode b_M_delay 1 = .ok (.iconst 0, 1) := by decide +kernel
theorem d_M_delay_2 : decode b_M_delay 2 = .ok (.bipush 11, 2) := by decide +kernel
theorem d_M_delay_4 : decode b_M_delay 4 = .ok (.invokestatic 65, 3) := by decide +kernel
theorem d_M_delay_7 : decode b_M_delay 7 = .ok (.ifCond .ne 10, 3) := by decide +kernel
theorem d_M_delay_10 : decode b_M_delay 10 = .ok (.aload_n 0, 1) := by decide +kernel
theorem d_M_delay_11 : decode b_M_delay 11 = .ok (.iconst 1, 1) := by decide +kernel
theorem d_M_delay_12 : decode b_M_delay 12 = .ok (.invokevirtual 69, 3) := by decide +kernel
theorem d_M_delay_15 : decode b_M_delay 15 = .ok (.i2d, 1) := by decide +kernel
theorem d_M_delay_16 : decode b_M_delay 16 = .ok (.dreturn, 1) := by decide +kernel
theorem d_M_delay_17 : decode b_M_delay 17 = .ok (.aload_n 0, 1) := by decide +kernel
theorem d_M_delay_18 : decode b_M_delay 18 = .ok (.getfield 9, 3) := by decide +kernel
theorem d_M_delay_21 : decode b_M_delay 21 = .ok (.iconst (-1), 1) := by decide +kernel
theorem d_M_delay_22 : decode b_M_delay 22 = .ok (.if_icmp .ne 10, 3) := by decide +kernel
theorem d_M_delay_25 : decode b_M_delay 25 = .ok (.aload_n 0, 1) := by decide +kernel
theorem d_M_delay_26 : decode b_M_delay 26 = .ok (.iconst 2, 1) := by decide +kernel
theorem d_M_delay_27 : decode b_M_delay 27 = .ok (.invokevirtual 69, 3) := by decide +kernel
theorem d_M_delay_30 : decode b_M_delay 30 = .ok (.i2d, 1) := by decide +kernel
theorem d_M_delay_31 : decode b_M_delay 31 = .ok (.dreturn, 1) := by decide +kernel
theorem d_M_delay_32 : decode b_M_delay 32 = .ok (.aload_n 0, 1) := by decide +kernel
theorem d_M_delay_33 : decode b_M_delay 33 = .ok (.iconst 0, 1) := by decide +kernel
theorem d_M_delay_34 : decode b_M_delay 34 = .ok (.putfield 55, 3) := by decide +kernel
theorem d_M_delay_37 : decode b_M_delay 37 = .ok (.aload_n 0, 1) := by decide +kernel
theorem d_M_delay_38 : decode b_M_delay 38 = .ok (.iload_n 1, 1) := by decide +kernel
theorem d_M_delay_39 : decode b_M_delay 39 = .ok (.invokevirtual 152, 3) := by decide +kernel
theorem d_M_delay_42 : decode b_M_delay 42 = .ok (.dreturn, 1) := by decide +kernel
theorem d_M_isReady_0 : decode b_M_isReady 0 = .ok (.aload_n 0, 1) := by decide +kernel
theorem d_M_isReady_1 : decode b_M_isReady 1 = .ok (.iload_n 1, 1) := by decide +kernel
theorem d_M_isReady_2 : decode b_M_isReady 2 = .ok (.invokevirtual 72, 3) := by decide +kernel
theorem d_M_isReady_5 : decode b_M_isReady 5 = .ok (.istore_n 2, 1) := by decide +kernel
theorem d_M_isReady_6 : decode b_M_isReady 6 = .ok (.iload_n 2, 1) := by decide +kernel
theorem d_M_isReady_7 : decode b_M_isReady 7 = .ok (.iconst (-1), 1) := by decide +kernel
theorem d_M_isReady_8 : decode b_M_isReady 8 = .ok (.if_icmp .eq 41, 3) := by decide +kernel
theorem d_M_isReady_11 : decode b_M_isReady 11 = .ok (.aload_n 0, 1) := by decide +kernel
theorem d_M_isReady_12 : decode b_M_isReady 12 = .ok (.getfield 51, 3) := by decide +kernel
theorem d_M_isReady_15 : decode b_M_isReady 15 = .ok (.aload_n 0, 1) := by decide +kernel
theorem d_M_isReady_16 : decode b_M_isReady 16 = .ok (.getfield 17, 3) := by decide +kernel
theorem d_M_isReady_19 : decode b_M_isReady 19 = .ok (.iload_n 2, 1) := by decide +kernel
theorem d_M_isReady_20 : decode b_M_isReady 20 = .ok (.iaload, 1) := by decide +kernel
theorem d_M_isReady_21 : decode b_M_isReady 21 = .ok (.baload, 1) := by decide +kernel
theorem d_M_isReady_22 : decode b_M_isReady 22 = .ok (.ifCond .eq 31, 3) := by decide +kernel
theorem d_M_isReady_25 : decode b_M_isReady 25 = .ok (.aload_n 0, 1) := by decide +kernel
theorem d_M_isReady_26 : decode b_M_isReady 26 = .ok (.getfield 13, 3) := by decide +kernel
theorem d_M_isReady_29 : decode b_M_isReady 29 = .ok (.iload_n 2, 1) := by decide +kernel
theorem d_M_isReady_30 : decode b_M_isReady 30 = .ok (.iaload, 1) := by decide +kernel
theorem d_M_isReady_31 : decode b_M_isReady 31 = .ok (.iconst 2, 1) := by decide +kernel
theorem d_M_isReady_32 : decode b_M_isReady 32 = .ok (.if_icmp .lt 17, 3) := by decide +kernel
theorem d_M_isReady_35 : decode b_M_isReady 35 = .ok (.aload_n 0, 1) := by decide +kernel
theorem d_M_isReady_36 : decode b_M_isReady 36 = .ok (.getfield 51, 3) := by decide +kernel
theorem d_M_isReady_39 : decode b_M_isReady 39 = .ok (.aload_n 0, 1) := by decide +kernel
theorem d_M_isReady_40 : decode b_M_isReady 40 = .ok (.getfield 20, 3) := by decide +kernel
theorem d_M_isReady_43 : decode b_M_isReady 43 = .ok (.iload_n 2, 1) := by decide +kernel
theorem d_M_isReady_44 : decode b_M_isReady 44 = .ok (.iaload, 1) := by decide +kernel
theorem d_M_isReady_45 : decode b_M_isReady 45 = .ok (.baload, 1) := by decide +kernel
theorem d_M_isReady_46 : decode b_M_isReady 46 = .ok (.ifCond .eq 7, 3) := by decide +kernel
theorem d_M_isReady_49 : decode b_M_isReady 49 = .ok (.iconst 1, 1) := by decide +kernel
theorem d_M_isReady_50 : decode b_M_isReady 50 = .ok (.goto 4, 3) := by decide +kernel
theorem d_M_isReady_53 : decode b_M_isReady 53 = .ok (.iconst 0, 1) := by decide +kernel
theorem d_M_isReady_54 : decode b_M_isReady 54 = .ok (.ireturn, 1) := by decide +kernel
theorem d_M_arrival_0 : decode b_M_arrival 0 = .ok (.iload_n 1, 1) := by decide +kernel
theorem d_M_arrival_1 : decode b_M_arrival 1 = .ok (.iconst 0, 1) := by decide +kernel
theorem d_M_arrival_2 : decode b_M_arrival 2 = .ok (.bipush 11, 2) := by decide +kernel
theorem d_M_arrival_4 : decode b_M_arrival 4 = .ok (.invokestatic 65, 3) := by decide +kernel
theorem d_M_arrival_7 : decode b_M_arrival 7 = .ok (.ifCond .ne 10, 3) := by decide +kernel
theorem d_M_arrival_10 : decode b_M_arrival 10 = .ok (.aload_n 0, 1) := by decide +kernel
theorem d_M_arrival_11 : decode b_M_arrival 11 = .ok (.iconst 1, 1) := by decide +kernel
theorem d_M_arrival_12 : decode b_M_arrival 12 = .ok (.invokevirtual 69, 3) := by decide +kernel
theorem d_M_arrival_15 : decode b_M_arrival 15 = .ok (.i2d, 1) := by decide +kernel
theorem d_M_arrival_16 : decode b_M_arrival 16 = .ok (.dreturn, 1) := by decide +kernel
theorem d_M_arrival_17 : decode b_M_arrival 17 = .ok (.aload_n 0, 1) := by decide +kernel
theorem d_M_arrival_18 : decode b_M_arrival 18 = .ok (.getfield 9, 3) := by decide +kernel
theorem d_M_arrival_21 : decode b_M_arrival 21 = .ok (.iconst (-1), 1) := by decide +kernel
theorem d_M_arrival_22 : decode b_M_arrival 22 = .ok (.if_icmp .ne 10, 3) := by decide +kernel
theorem d_M_arrival_25 : decode b_M_arrival 25 = .ok (.aload_n 0, 1) := by decide +kernel
theorem d_M_arrival_26 : decode b_M_arrival 26 = .ok (.iconst 2, 1) := by decide +kernel
theorem d_M_arrival_27 : decode b_M_arrival 27 = .ok (.invokevirtual 69, 3) := by decide +kernel
theorem d_M_arrival_30 : decode b_M_arrival 30 = .ok (.i2d, 1) := by decide +kernel
theorem d_M_arrival_31 : decode b_M_arrival 31 = .ok (.dreturn, 1) := by decide +kernel
theorem d_M_arrival_32 : decode b_M_arrival 32 = .ok (.iconst 0, 1) := by decide +kernel
theorem d_M_arrival_33 : decode b_M_arrival 33 = .ok (.istore_n 2, 1) := by decide +kernel
theorem d_M_arrival_34 : decode b_M_arrival 34 = .ok (.iload_n 2, 1) := by decide +kernel
theorem d_M_arrival_35 : decode b_M_arrival 35 = .ok (.bipush 12, 2) := by decide +kernel
theorem d_M_arrival_37 : decode b_M_arrival 37 = .ok (.if_icmp .ge 16, 3) := by decide +kernel
theorem d_M_arrival_40 : decode b_M_arrival 40 = .ok (.aload_n 0, 1) := by decide +kernel
theorem d_M_arrival_41 : decode b_M_arrival 41 = .ok (.getfield 51, 3) := by decide +kernel
theorem d_M_arrival_44 : decode b_M_arrival 44 = .ok (.iload_n 2, 1) := by decide +kernel
theorem d_M_arrival_45 : decode b_M_arrival 45 = .ok (.iconst 0, 1) := by decide +kernel
theorem d_M_arrival_46 : decode b_M_arrival 46 = .ok (.bastore, 1) := by decide +kernel
theorem d_M_arrival_47 : decode b_M_arrival 47 = .ok (.iinc 2 1, 3) := by decide +kernel
theorem d_M_arrival_50 : decode b_M_arrival 50 = .ok (.goto (-16), 3) := by decide +kernel
theorem d_M_arrival_53 : decode b_M_arrival 53 = .ok (.iconst 0, 1) := by decide +kernel
theorem d_M_arrival_54 : decode b_M_arrival 54 = .ok (.istore_n 2, 1) := by decide +kernel
theorem d_M_arrival_55 : decode b_M_arrival 55 = .ok (.iload_n 2, 1) := by decide +kernel
theorem d_M_arrival_56 : decode b_M_arrival 56 = .ok (.bipush 13, 2) := by decide +kernel
theorem d_M_arrival_58 : decode b_M_arrival 58 = .ok (.if_icmp .ge 169, 3) := by decide +kernel
theorem d_M_arrival_61 : decode b_M_arrival 61 = .ok (.iconst 0, 1) := by decide +kernel
theorem d_M_arrival_62 : decode b_M_arrival 62 = .ok (.istore_n 3, 1) := by decide +kernel
theorem d_M_arrival_63 : decode b_M_arrival 63 = .ok (.iload_n 3, 1) := by decide +kernel
theorem d_M_arrival_64 : decode b_M_arrival 64 = .ok (.bipush 12, 2) := by decide +kernel
theorem d_M_arrival_66 : decode b_M_arrival 66 = .ok (.if_icmp .ge 155, 3) := by decide +kernel
theorem d_M_arrival_69 : decode b_M_arrival 69 = .ok (.aload_n 0, 1) := by decide +kernel
theorem d_M_arrival_70 : decode b_M_arrival 70 = .ok (.getfield 51, 3) := by decide +kernel
theorem d_M_arrival_73 : decode b_M_arrival 73 = .ok (.iload_n 3, 1) := by decide +kernel
theorem d_M_arrival_74 : decode b_M_arrival 74 = .ok (.baload, 1) := by decide +kernel
theorem d_M_arrival_75 : decode b_M_arrival 75 = .ok (.ifCond .ne 140, 3) := by decide +kernel
theorem d_M_arrival_78 : decode b_M_arrival 78 = .ok (.aload_n 0, 1) := by decide +kernel
theorem d_M_arrival_79 : decode b_M_arrival 79 = .ok (.iload_n 3, 1) := by decide +kernel
theorem d_M_arrival_80 : decode b_M_arrival 80 = .ok (.invokevirtual 156, 3) := by decide +kernel
theorem d_M_arrival_83 : decode b_M_arrival 83 = .ok (.ifCond .ne 6, 3) := by decide +kernel
theorem d_M_arrival_86 : decode b_M_arrival 86 = .ok (.goto 129, 3) := by decide +kernel
theorem d_M_arrival_89 : decode b_M_arrival 89 = .ok (.aload_n 0, 1) := by decide +kernel
theorem d_M_arrival_90 : decode b_M_arrival 90 = .ok (.getfield 51, 3) := by decide +kernel
theorem d_M_arrival_93 : decode b_M_arrival 93 = .ok (.iload_n 3, 1) := by decide +kernel
theorem d_M_arrival_94 : decode b_M_arrival 94 = .ok (.iconst 1, 1) := by decide +kernel
theorem d_M_arrival_95 : decode b_M_arrival 95 = .ok (.bastore, 1) := by decide +kernel
theorem d_M_arrival_96 : decode b_M_arrival 96 = .ok (.aload_n 0, 1) := by decide +kernel
theorem d_M_arrival_97 : decode b_M_arrival 97 = .ok (.getfield 48, 3) := by decide +kernel
theorem d_M_arrival_100 : decode b_M_arrival 100 = .ok (.iload_n 3, 1) := by decide +kernel
theorem d_M_arrival_101 : decode b_M_arrival 101 = .ok (.dconst 0, 1) := by decide +kernel
theorem d_M_arrival_102 : decode b_M_arrival 102 = .ok (.dastore, 1) := by decide +kernel
theorem d_M_arrival_103 : decode b_M_arrival 103 = .ok (.aload_n 0, 1) := by decide +kernel
theorem d_M_arrival_104 : decode b_M_arrival 104 = .ok (.iload_n 3, 1) := by decide +kernel
theorem d_M_arrival_105 : decode b_M_arrival 105 = .ok (.invokevirtual 72, 3) := by decide +kernel
theorem d_M_arrival_108 : decode b_M_arrival 108 = .ok (.istore 4, 2) := by decide +kernel
theorem d_M_arrival_110 : decode b_M_arrival 110 = .ok (.iload 4, 2) := by decide +kernel
theorem d_M_arrival_112 : decode b_M_arrival 112 = .ok (.iconst (-1), 1) := by decide +kernel
theorem d_M_arrival_113 : decode b_M_arrival 113 = .ok (.if_icmp .ne 6, 3) := by decide +kernel
theorem d_M_arrival_116 : decode b_M_arrival 116 = .ok (.goto 99, 3) := by decide +kernel
theorem d_M_arrival_119 : decode b_M_arrival 119 = .ok (.aload_n 0, 1) := by decide +kernel
theorem d_M_arrival_120 : decode b_M_arrival 120 = .ok (.getfield 48, 3) := by decide +kernel
theorem d_M_arrival_123 : decode b_M_arrival 123 = .ok (.aload_n 0, 1) := by decide +kernel
theorem d_M_arrival_124 : decode b_M_arrival 124 = .ok (.getfield 17, 3) := by decide +kernel
theorem d_M_arrival_127 : decode b_M_arrival 127 = .ok (.iload 4, 2) := by decide +kernel
theorem d_M_arrival_129 : decode b_M_arrival 129 = .ok (.iaload, 1) := by decide +kernel
theorem d_M_arrival_130 : decode b_M_arrival 130 = .ok (.daload, 1) := by decide +kernel
theorem d_M_arrival_131 : decode b_M_arrival 131 = .ok (.aload_n 0, 1) := by decide +kernel
theorem d_M_arrival_132 : decode b_M_arrival 132 = .ok (.aload_n 0, 1) := by decide +kernel
theorem d_M_arrival_133 : decode b_M_arrival 133 = .ok (.getfield 17, 3) := by decide +kernel
theorem d_M_arrival_136 : decode b_M_arrival 136 = .ok (.iload 4, 2) := by decide +kernel
theorem d_M_arrival_138 : decode b_M_arrival 138 = .ok (.iaload, 1) := by decide +kernel
theorem d_M_arrival_139 : decode b_M_arrival 139 = .ok (.invokevirtual 152, 3) := by decide +kernel
theorem d_M_arrival_142 : decode b_M_arrival 142 = .ok (.dadd, 1) := by decide +kernel
theorem d_M_arrival_143 : decode b_M_arrival 143 = .ok (.dstore 5, 2) := by decide +kernel
theorem d_M_arrival_145 : decode b_M_arrival 145 = .ok (.aload_n 0, 1) := by decide +kernel
theorem d_M_arrival_146 : decode b_M_arrival 146 = .ok (.getfield 13, 3) := by decide +kernel
theorem d_M_arrival_149 : decode b_M_arrival 149 = .ok (.iload 4, 2) := by decide +kernel
theorem d_M_arrival_151 : decode b_M_arrival 151 = .ok (.iaload, 1) := by decide +kernel
theorem d_M_arrival_152 : decode b_M_arrival 152 = .ok (.iconst 1, 1) := by decide +kernel
theorem d_M_arrival_153 : decode b_M_arrival 153 = .ok (.if_icmp .le 41, 3) := by decide +kernel
theorem d_M_arrival_156 : decode b_M_arrival 156 = .ok (.aload_n 0, 1) := by decide +kernel
theorem d_M_arrival_157 : decode b_M_arrival 157 = .ok (.getfield 48, 3) := by decide +kernel
theorem d_M_arrival_160 : decode b_M_arrival 160 = .ok (.aload_n 0, 1) := by decide +kernel
theorem d_M_arrival_161 : decode b_M_arrival 161 = .ok (.getfield 20, 3) := by decide +kernel
theorem d_M_arrival_164 : decode b_M_arrival 164 = .ok (.iload 4, 2) := by decide +kernel
theorem d_M_arrival_166 : decode b_M_arrival 166 = .ok (.iaload, 1) := by decide +kernel
theorem d_M_arrival_167 : decode b_M_arrival 167 = .ok (.daload, 1) := by decide +kernel
theorem d_M_arrival_168 : decode b_M_arrival 168 = .ok (.aload_n 0, 1) := by decide +kernel
theorem d_M_arrival_169 : decode b_M_arrival 169 = .ok (.aload_n 0, 1) := by decide +kernel
theorem d_M_arrival_170 : decode b_M_arrival 170 = .ok (.getfield 20, 3) := by decide +kernel
theorem d_M_arrival_173 : decode b_M_arrival 173 = .ok (.iload 4, 2) := by decide +kernel
theorem d_M_arrival_175 : decode b_M_arrival 175 = .ok (.iaload, 1) := by decide +kernel
theorem d_M_arrival_176 : decode b_M_arrival 176 = .ok (.invokevirtual 152, 3) := by decide +kernel
theorem d_M_arrival_179 : decode b_M_arrival 179 = .ok (.dadd, 1) := by decide +kernel
theorem d_M_arrival_180 : decode b_M_arrival 180 = .ok (.dstore 7, 2) := by decide +kernel
theorem d_M_arrival_182 : decode b_M_arrival 182 = .ok (.dload 7, 2) := by decide +kernel
theorem d_M_arrival_184 : decode b_M_arrival 184 = .ok (.dload 5, 2) := by decide +kernel
theorem d_M_arrival_186 : decode b_M_arrival 186 = .ok (.dcmp .l, 1) := by decide +kernel
theorem d_M_arrival_187 : decode b_M_arrival 187 = .ok (.ifCond .le 7, 3) := by decide +kernel
theorem d_M_arrival_190 : decode b_M_arrival 190 = .ok (.dload 7, 2) := by decide +kernel
theorem d_M_arrival_192 : decode b_M_arrival 192 = .ok (.dstore 5, 2) := by decide +kernel
theorem d_M_arrival_194 : decode b_M_arrival 194 = .ok (.aload_n 0, 1) := by decide +kernel
theorem d_M_arrival_195 : decode b_M_arrival 195 = .ok (.getfield 48, 3) := by decide +kernel
theorem d_M_arrival_198 : decode b_M_arrival 198 = .ok (.iload_n 3, 1) := by decide +kernel
theorem d_M_arrival_199 : decode b_M_arrival 199 = .ok (.dload 5, 2) := by decide +kernel
theorem d_M_arrival_201 : decode b_M_arrival 201 = .ok (.aload_n 0, 1) := by decide +kernel
theorem d_M_arrival_202 : decode b_M_arrival 202 = .ok (.getfield 35, 3) := by decide +kernel
theorem d_M_arrival_205 : decode b_M_arrival 205 = .ok (.aload_n 0, 1) := by decide +kernel
theorem d_M_arrival_206 : decode b_M_arrival 206 = .ok (.getfield 13, 3) := by decide +kernel
theorem d_M_arrival_209 : decode b_M_arrival 209 = .ok (.iload 4, 2) := by decide +kernel
theorem d_M_arrival_211 : decode b_M_arrival 211 = .ok (.iaload, 1) := by decide +kernel
theorem d_M_arrival_212 : decode b_M_arrival 212 = .ok (.daload, 1) := by decide +kernel
theorem d_M_arrival_213 : decode b_M_arrival 213 = .ok (.dadd, 1) := by decide +kernel
theorem d_M_arrival_214 : decode b_M_arrival 214 = .ok (.dastore, 1) := by decide +kernel
theorem d_M_arrival_215 : decode b_M_arrival 215 = .ok (.iinc 3 1, 3) := by decide +kernel
theorem d_M_arrival_218 : decode b_M_arrival 218 = .ok (.goto (-155), 3) := by decide +kernel
theorem d_M_arrival_221 : decode b_M_arrival 221 = .ok (.iinc 2 1, 3) := by decide +kernel
theorem d_M_arrival_224 : decode b_M_arrival 224 = .ok (.goto (-169), 3) := by decide +kernel
theorem d_M_arrival_227 : decode b_M_arrival 227 = .ok (.aload_n 0, 1) := by decide +kernel
theorem d_M_arrival_228 : decode b_M_arrival 228 = .ok (.getfield 51, 3) := by decide +kernel
theorem d_M_arrival_231 : decode b_M_arrival 231 = .ok (.iload_n 1, 1) := by decide +kernel
theorem d_M_arrival_232 : decode b_M_arrival 232 = .ok (.baload, 1) := by decide +kernel
theorem d_M_arrival_233 : decode b_M_arrival 233 = .ok (.ifCond .ne 10, 3) := by decide +kernel
theorem d_M_arrival_236 : decode b_M_arrival 236 = .ok (.aload_n 0, 1) := by decide +kernel
theorem d_M_arrival_237 : decode b_M_arrival 237 = .ok (.iconst 3, 1) := by decide +kernel
theorem d_M_arrival_238 : decode b_M_arrival 238 = .ok (.invokevirtual 69, 3) := by decide +kernel
theorem d_M_arrival_241 : decode b_M_arrival 241 = .ok (.i2d, 1) := by decide +kernel
theorem d_M_arrival_242 : decode b_M_arrival 242 = .ok (.dreturn, 1) := by decide +kernel
theorem d_M_arrival_243 : decode b_M_arrival 243 = .ok (.aload_n 0, 1) := by decide +kernel
theorem d_M_arrival_244 : decode b_M_arrival 244 = .ok (.iconst 0, 1) := by decide +kernel
theorem d_M_arrival_245 : decode b_M_arrival 245 = .ok (.putfield 55, 3) := by decide +kernel
theorem d_M_arrival_248 : decode b_M_arrival 248 = .ok (.aload_n 0, 1) := by decide +kernel
theorem d_M_arrival_249 : decode b_M_arrival 249 = .ok (.getfield 48, 3) := by decide +kernel
theorem d_M_arrival_252 : decode b_M_arrival 252 = .ok (.iload_n 1, 1) := by decide +kernel
theorem d_M_arrival_253 : decode b_M_arrival 253 = .ok (.daload, 1) := by decide +kernel
theorem d_M_arrival_254 : decode b_M_arrival 254 = .ok (.dreturn, 1) := by decide +kernel
theorem d_M_simulate_0 : decode b_M_simulate 0 = .ok (.iconst 0, 1) := by decide +kernel
theorem d_M_simulate_1 : decode b_M_simulate 1 = .ok (.istore_n 2, 1) := by decide +kernel
theorem d_M_simulate_2 : decode b_M_simulate 2 = .ok (.iconst 0, 1) := by decide +kernel
theorem d_M_simulate_3 : decode b_M_simulate 3 = .ok (.istore_n 3, 1) := by decide +kernel
theorem d_M_simulate_4 : decode b_M_simulate 4 = .ok (.iconst 0, 1) := by decide +kernel
theorem d_M_simulate_5 : decode b_M_simulate 5 = .ok (.istore 4, 2) := by decide +kernel
theorem d_M_simulate_7 : decode b_M_simulate 7 = .ok (.iload 4, 2) := by decide +kernel
theorem d_M_simulate_9 : decode b_M_simulate 9 = .ok (.bipush 12, 2) := by decide +kernel
theorem d_M_simulate_11 : decode b_M_simulate 11 = .ok (.if_icmp .ge 17, 3) := by decide +kernel
theorem d_M_simulate_14 : decode b_M_simulate 14 = .ok (.aload_n 0, 1) := by decide +kernel
theorem d_M_simulate_15 : decode b_M_simulate 15 = .ok (.getfield 51, 3) := by decide +kernel
theorem d_M_simulate_18 : decode b_M_simulate 18 = .ok (.iload 4, 2) := by decide +kernel
theorem d_M_simulate_20 : decode b_M_simulate 20 = .ok (.iconst 0, 1) := by decide +kernel
theorem d_M_simulate_21 : decode b_M_simulate 21 = .ok (.bastore, 1) := by decide +kernel
theorem d_M_simulate_22 : decode b_M_simulate 22 = .ok (.iinc 4 1, 3) := by decide +kernel
theorem d_M_simulate_25 : decode b_M_simulate 25 = .ok (.goto (-18), 3) := by decide +kernel
theorem d_M_simulate_28 : decode b_M_simulate 28 = .ok (.iconst 0, 1) := by decide +kernel
theorem d_M_simulate_29 : decode b_M_simulate 29 = .ok (.istore 4, 2) := by decide +kernel
theorem d_M_simulate_31 : decode b_M_simulate 31 = .ok (.iload 4, 2) := by decide +kernel
theorem d_M_simulate_33 : decode b_M_simulate 33 = .ok (.bipush 13, 2) := by decide +kernel
theorem d_M_simulate_35 : decode b_M_simulate 35 = .ok (.if_icmp .ge 192, 3) := by decide +kernel
theorem d_M_simulate_38 : decode b_M_simulate 38 = .ok (.iconst 0, 1) := by decide +kernel
theorem d_M_simulate_39 : decode b_M_simulate 39 = .ok (.istore 5, 2) := by decide +kernel
theorem d_M_simulate_41 : decode b_M_simulate 41 = .ok (.iload 5, 2) := by decide +kernel
theorem d_M_simulate_43 : decode b_M_simulate 43 = .ok (.bipush 12, 2) := by decide +kernel
theorem d_M_simulate_45 : decode b_M_simulate 45 = .ok (.if_icmp .ge 176, 3) := by decide +kernel
theorem d_M_simulate_48 : decode b_M_simulate 48 = .ok (.aload_n 0, 1) := by decide +kernel
theorem d_M_simulate_49 : decode b_M_simulate 49 = .ok (.getfield 51, 3) := by decide +kernel
theorem d_M_simulate_52 : decode b_M_simulate 52 = .ok (.iload 5, 2) := by decide +kernel
theorem d_M_simulate_54 : decode b_M_simulate 54 = .ok (.baload, 1) := by decide +kernel
theorem d_M_simulate_55 : decode b_M_simulate 55 = .ok (.ifCond .ne 160, 3) := by decide +kernel
theorem d_M_simulate_58 : decode b_M_simulate 58 = .ok (.aload_n 0, 1) := by decide +kernel
theorem d_M_simulate_59 : decode b_M_simulate 59 = .ok (.iload 5, 2) := by decide +kernel
theorem d_M_simulate_61 : decode b_M_simulate 61 = .ok (.invokevirtual 156, 3) := by decide +kernel
theorem d_M_simulate_64 : decode b_M_simulate 64 = .ok (.ifCond .ne 6, 3) := by decide +kernel
theorem d_M_simulate_67 : decode b_M_simulate 67 = .ok (.goto 148, 3) := by decide +kernel
theorem d_M_simulate_70 : decode b_M_simulate 70 = .ok (.aload_n 0, 1) := by decide +kernel
theorem d_M_simulate_71 : decode b_M_simulate 71 = .ok (.getfield 51, 3) := by decide +kernel
theorem d_M_simulate_74 : decode b_M_simulate 74 = .ok (.iload 5, 2) := by decide +kernel
theorem d_M_simulate_76 : decode b_M_simulate 76 = .ok (.iconst 1, 1) := by decide +kernel
theorem d_M_simulate_77 : decode b_M_simulate 77 = .ok (.bastore, 1) := by decide +kernel
theorem d_M_simulate_78 : decode b_M_simulate 78 = .ok (.iinc 3 1, 3) := by decide +kernel
theorem d_M_simulate_81 : decode b_M_simulate 81 = .ok (.aload_n 0, 1) := by decide +kernel
theorem d_M_simulate_82 : decode b_M_simulate 82 = .ok (.iload 5, 2) := by decide +kernel
theorem d_M_simulate_84 : decode b_M_simulate 84 = .ok (.invokevirtual 72, 3) := by decide +kernel
theorem d_M_simulate_87 : decode b_M_simulate 87 = .ok (.istore 6, 2) := by decide +kernel
theorem d_M_simulate_89 : decode b_M_simulate 89 = .ok (.iload_n 1, 1) := by decide +kernel
theorem d_M_simulate_90 : decode b_M_simulate 90 = .ok (.iload 5, 2) := by decide +kernel
theorem d_M_simulate_92 : decode b_M_simulate 92 = .ok (.ishr, 1) := by decide +kernel
theorem d_M_simulate_93 : decode b_M_simulate 93 = .ok (.iconst 1, 1) := by decide +kernel
theorem d_M_simulate_94 : decode b_M_simulate 94 = .ok (.iand, 1) := by decide +kernel
theorem d_M_simulate_95 : decode b_M_simulate 95 = .ok (.istore 7, 2) := by decide +kernel
theorem d_M_simulate_97 : decode b_M_simulate 97 = .ok (.iload 6, 2) := by decide +kernel
theorem d_M_simulate_99 : decode b_M_simulate 99 = .ok (.iconst (-1), 1) := by decide +kernel
theorem d_M_simulate_100 : decode b_M_simulate 100 = .ok (.if_icmp .eq 107, 3) := by decide +kernel
theorem d_M_simulate_103 : decode b_M_simulate 103 = .ok (.iload_n 2, 1) := by decide +kernel
theorem d_M_simulate_104 : decode b_M_simulate 104 = .ok (.aload_n 0, 1) := by decide +kernel
theorem d_M_simulate_105 : decode b_M_simulate 105 = .ok (.getfield 17, 3) := by decide +kernel
theorem d_M_simulate_108 : decode b_M_simulate 108 = .ok (.iload 6, 2) := by decide +kernel
theorem d_M_simulate_110 : decode b_M_simulate 110 = .ok (.iaload, 1) := by decide +kernel
theorem d_M_simulate_111 : decode b_M_simulate 111 = .ok (.ishr, 1) := by decide +kernel
theorem d_M_simulate_112 : decode b_M_simulate 112 = .ok (.iconst 1, 1) := by decide +kernel
theorem d_M_simulate_113 : decode b_M_simulate 113 = .ok (.iand, 1) := by decide +kernel
theorem d_M_simulate_114 : decode b_M_simulate 114 = .ok (.istore 8, 2) := by decide +kernel
theorem d_M_simulate_116 : decode b_M_simulate 116 = .ok (.aload_n 0, 1) := by decide +kernel
theorem d_M_simulate_117 : decode b_M_simulate 117 = .ok (.getfield 13, 3) := by decide +kernel
theorem d_M_simulate_120 : decode b_M_simulate 120 = .ok (.iload 6, 2) := by decide +kernel
theorem d_M_simulate_122 : decode b_M_simulate 122 = .ok (.iaload, 1) := by decide +kernel
theorem d_M_simulate_123 : decode b_M_simulate 123 = .ok (.iconst 1, 1) := by decide +kernel
theorem d_M_simulate_124 : decode b_M_simulate 124 = .ok (.if_icmp .le 17, 3) := by decide +kernel
theorem d_M_simulate_127 : decode b_M_simulate 127 = .ok (.iload_n 2, 1) := by decide +kernel
theorem d_M_simulate_128 : decode b_M_simulate 128 = .ok (.aload_n 0, 1) := by decide +kernel
theorem d_M_simulate_129 : decode b_M_simulate 129 = .ok (.getfield 20, 3) := by decide +kernel
theorem d_M_simulate_132 : decode b_M_simulate 132 = .ok (.iload 6, 2) := by decide +kernel
theorem d_M_simulate_134 : decode b_M_simulate 134 = .ok (.iaload, 1) := by decide +kernel
theorem d_M_simulate_135 : decode b_M_simulate 135 = .ok (.ishr, 1) := by decide +kernel
theorem d_M_simulate_136 : decode b_M_simulate 136 = .ok (.iconst 1, 1) := by decide +kernel
theorem d_M_simulate_137 : decode b_M_simulate 137 = .ok (.iand, 1) := by decide +kernel
theorem d_M_simulate_138 : decode b_M_simulate 138 = .ok (.goto 4, 3) := by decide +kernel
theorem d_M_simulate_141 : decode b_M_simulate 141 = .ok (.iconst 0, 1) := by decide +kernel
theorem d_M_simulate_142 : decode b_M_simulate 142 = .ok (.istore 9, 2) := by decide +kernel
theorem d_M_simulate_144 : decode b_M_simulate 144 = .ok (.aload_n 0, 1) := by decide +kernel
theorem d_M_simulate_145 : decode b_M_simulate 145 = .ok (.getfield 13, 3) := by decide +kernel
theorem d_M_simulate_148 : decode b_M_simulate 148 = .ok (.iload 6, 2) := by decide +kernel
theorem d_M_simulate_150 : decode b_M_simulate 150 = .ok (.iaload, 1) := by decide +kernel
theorem d_M_simulate_151 : decode b_M_simulate 151 = .ok (.ifCond .ne 10, 3) := by decide +kernel
theorem d_M_simulate_154 : decode b_M_simulate 154 = .ok (.iconst 1, 1) := by decide +kernel
theorem d_M_simulate_155 : decode b_M_simulate 155 = .ok (.iload 8, 2) := by decide +kernel
theorem d_M_simulate_157 : decode b_M_simulate 157 = .ok (.isub, 1) := by decide +kernel
theorem d_M_simulate_158 : decode b_M_simulate 158 = .ok (.goto 47, 3) := by decide +kernel
theorem d_M_simulate_161 : decode b_M_simulate 161 = .ok (.aload_n 0, 1) := by decide +kernel
theorem d_M_simulate_162 : decode b_M_simulate 162 = .ok (.getfield 13, 3) := by decide +kernel
theorem d_M_simulate_165 : decode b_M_simulate 165 = .ok (.iload 6, 2) := by decide +kernel
theorem d_M_simulate_167 : decode b_M_simulate 167 = .ok (.iaload, 1) := by decide +kernel
theorem d_M_simulate_168 : decode b_M_simulate 168 = .ok (.iconst 1, 1) := by decide +kernel
theorem d_M_simulate_169 : decode b_M_simulate 169 = .ok (.if_icmp .ne 8, 3) := by decide +kernel
theorem d_M_simulate_172 : decode b_M_simulate 172 = .ok (.iload 8, 2) := by decide +kernel
theorem d_M_simulate_174 : decode b_M_simulate 174 = .ok (.goto 31, 3) := by decide +kernel
theorem d_M_simulate_177 : decode b_M_simulate 177 = .ok (.aload_n 0, 1) := by decide +kernel
theorem d_M_simulate_178 : decode b_M_simulate 178 = .ok (.getfield 13, 3) := by decide +kernel
theorem d_M_simulate_181 : decode b_M_simulate 181 = .ok (.iload 6, 2) := by decide +kernel
theorem d_M_simulate_183 : decode b_M_simulate 183 = .ok (.iaload, 1) := by decide +kernel
theorem d_M_simulate_184 : decode b_M_simulate 184 = .ok (.iconst 2, 1) := by decide +kernel
theorem d_M_simulate_185 : decode b_M_simulate 185 = .ok (.if_icmp .ne 13, 3) := by decide +kernel
theorem d_M_simulate_188 : decode b_M_simulate 188 = .ok (.iconst 1, 1) := by decide +kernel
theorem d_M_simulate_189 : decode b_M_simulate 189 = .ok (.iload 8, 2) := by decide +kernel
theorem d_M_simulate_191 : decode b_M_simulate 191 = .ok (.iload 9, 2) := by decide +kernel
theorem d_M_simulate_193 : decode b_M_simulate 193 = .ok (.iand, 1) := by decide +kernel
theorem d_M_simulate_194 : decode b_M_simulate 194 = .ok (.isub, 1) := by decide +kernel
theorem d_M_simulate_195 : decode b_M_simulate 195 = .ok (.goto 10, 3) := by decide +kernel
theorem d_M_simulate_198 : decode b_M_simulate 198 = .ok (.iconst 1, 1) := by decide +kernel
theorem d_M_simulate_199 : decode b_M_simulate 199 = .ok (.iload 8, 2) := by decide +kernel
theorem d_M_simulate_201 : decode b_M_simulate 201 = .ok (.iload 9, 2) := by decide +kernel
theorem d_M_simulate_203 : decode b_M_simulate 203 = .ok (.ior, 1) := by decide +kernel
theorem d_M_simulate_204 : decode b_M_simulate 204 = .ok (.isub, 1) := by decide +kernel
theorem d_M_simulate_205 : decode b_M_simulate 205 = .ok (.istore 7, 2) := by decide +kernel
theorem d_M_simulate_207 : decode b_M_simulate 207 = .ok (.iload_n 2, 1) := by decide +kernel
theorem d_M_simulate_208 : decode b_M_simulate 208 = .ok (.iload 7, 2) := by decide +kernel
theorem d_M_simulate_210 : decode b_M_simulate 210 = .ok (.iload 5, 2) := by decide +kernel
theorem d_M_simulate_212 : decode b_M_simulate 212 = .ok (.ishl, 1) := by decide +kernel
theorem d_M_simulate_213 : decode b_M_simulate 213 = .ok (.ior, 1) := by decide +kernel
theorem d_M_simulate_214 : decode b_M_simulate 214 = .ok (.istore_n 2, 1) := by decide +kernel
theorem d_M_simulate_215 : decode b_M_simulate 215 = .ok (.iinc 5 1, 3) := by decide +kernel
theorem d_M_simulate_218 : decode b_M_simulate 218 = .ok (.goto (-177), 3) := by decide +kernel
theorem d_M_simulate_221 : decode b_M_simulate 221 = .ok (.iinc 4 1, 3) := by decide +kernel
theorem d_M_simulate_224 : decode b_M_simulate 224 = .ok (.goto (-193), 3) := by decide +kernel
theorem d_M_simulate_227 : decode b_M_simulate 227 = .ok (.iload_n 3, 1) := by decide +kernel
theorem d_M_simulate_228 : decode b_M_simulate 228 = .ok (.bipush 12, 2) := by decide +kernel
theorem d_M_simulate_230 : decode b_M_simulate 230 = .ok (.if_icmp .ge 9, 3) := by decide +kernel
theorem d_M_simulate_233 : decode b_M_simulate 233 = .ok (.aload_n 0, 1) := by decide +kernel
theorem d_M_simulate_234 : decode b_M_simulate 234 = .ok (.iconst 1, 1) := by decide +kernel
theorem d_M_simulate_235 : decode b_M_simulate 235 = .ok (.invokevirtual 69, 3) := by decide +kernel
theorem d_M_simulate_238 : decode b_M_simulate 238 = .ok (.ireturn, 1) := by decide +kernel
theorem d_M_simulate_239 : decode b_M_simulate 239 = .ok (.aload_n 0, 1) := by decide +kernel
theorem d_M_simulate_240 : decode b_M_simulate 240 = .ok (.iconst 0, 1) := by decide +kernel
theorem d_M_simulate_241 : decode b_M_simulate 241 = .ok (.putfield 55, 3) := by decide +kernel
theorem d_M_simulate_244 : decode b_M_simulate 244 = .ok (.iload_n 2, 1) := by decide +kernel
theorem d_M_simulate_245 : decode b_M_simulate 245 = .ok (.ireturn, 1) := by decide +kernel
theorem d_M_count_0 : decode b_M_count 0 = .ok (.iload_n 1, 1) := by decide +kernel
theorem d_M_count_1 : decode b_M_count 1 = .ok (.iconst 0, 1) := by decide +kernel
theorem d_M_count_2 : decode b_M_count 2 = .ok (.iconst 5, 1) := by decide +kernel
theorem d_M_count_3 : decode b_M_count 3 = .ok (.invokestatic 65, 3) := by decide +kernel
theorem d_M_count_6 : decode b_M_count 6 = .ok (.ifCond .ne 9, 3) := by decide +kernel
theorem d_M_count_9 : decode b_M_count 9 = .ok (.aload_n 0, 1) := by decide +kernel
theorem d_M_count_10 : decode b_M_count 10 = .ok (.iconst 1, 1) := by decide +kernel
theorem d_M_count_11 : decode b_M_count 11 = .ok (.invokevirtual 69, 3) := by decide +kernel
theorem d_M_count_14 : decode b_M_count 14 = .ok (.ireturn, 1) := by decide +kernel
theorem d_M_count_15 : decode b_M_count 15 = .ok (.aload_n 0, 1) := by decide +kernel
theorem d_M_count_16 : decode b_M_count 16 = .ok (.iconst 0, 1) := by decide +kernel
theorem d_M_count_17 : decode b_M_count 17 = .ok (.putfield 55, 3) := by decide +kernel
theorem d_M_count_20 : decode b_M_count 20 = .ok (.iconst 0, 1) := by decide +kernel
theorem d_M_count_21 : decode b_M_count 21 = .ok (.istore_n 2, 1) := by decide +kernel
theorem d_M_count_22 : decode b_M_count 22 = .ok (.iload_n 1, 1) := by decide +kernel
theorem d_M_count_23 : decode b_M_count 23 = .ok (.ifCond .ne 8, 3) := by decide +kernel
theorem d_M_count_26 : decode b_M_count 26 = .ok (.aload_n 0, 1) := by decide +kernel
theorem d_M_count_27 : decode b_M_count 27 = .ok (.getfield 62, 3) := by decide +kernel
theorem d_M_count_30 : decode b_M_count 30 = .ok (.ireturn, 1) := by decide +kernel
theorem d_M_count_31 : decode b_M_count 31 = .ok (.iload_n 1, 1) := by decide +kernel
theorem d_M_count_32 : decode b_M_count 32 = .ok (.iconst 1, 1) := by decide +kernel
theorem d_M_count_33 : decode b_M_count 33 = .ok (.if_icmp .ne 30, 3) := by decide +kernel
theorem d_M_count_36 : decode b_M_count 36 = .ok (.iconst 0, 1) := by decide +kernel
theorem d_M_count_37 : decode b_M_count 37 = .ok (.istore_n 3, 1) := by decide +kernel
theorem d_M_count_38 : decode b_M_count 38 = .ok (.iload_n 3, 1) := by decide +kernel
theorem d_M_count_39 : decode b_M_count 39 = .ok (.bipush 12, 2) := by decide +kernel
theorem d_M_count_41 : decode b_M_count 41 = .ok (.if_icmp .ge 20, 3) := by decide +kernel
theorem d_M_count_44 : decode b_M_count 44 = .ok (.aload_n 0, 1) := by decide +kernel
theorem d_M_count_45 : decode b_M_count 45 = .ok (.iload_n 3, 1) := by decide +kernel
theorem d_M_count_46 : decode b_M_count 46 = .ok (.invokevirtual 89, 3) := by decide +kernel
theorem d_M_count_49 : decode b_M_count 49 = .ok (.ifCond .eq 6, 3) := by decide +kernel
theorem d_M_count_52 : decode b_M_count 52 = .ok (.iinc 2 1, 3) := by decide +kernel
theorem d_M_count_55 : decode b_M_count 55 = .ok (.iinc 3 1, 3) := by decide +kernel
theorem d_M_count_58 : decode b_M_count 58 = .ok (.goto (-20), 3) := by decide +kernel
theorem d_M_count_61 : decode b_M_count 61 = .ok (.iload_n 2, 1) := by decide +kernel
theorem d_M_count_62 : decode b_M_count 62 = .ok (.ireturn, 1) := by decide +kernel
theorem d_M_count_63 : decode b_M_count 63 = .ok (.aload_n 0, 1) := by decide +kernel
theorem d_M_count_64 : decode b_M_count 64 = .ok (.getfield 9, 3) := by decide +kernel
theorem d_M_count_67 : decode b_M_count 67 = .ok (.iconst (-1), 1) := by decide +kernel
theorem d_M_count_68 : decode b_M_count 68 = .ok (.if_icmp .ne 5, 3) := by decide +kernel
theorem d_M_count_71 : decode b_M_count 71 = .ok (.iconst 0, 1) := by decide +kernel
theorem d_M_count_72 : decode b_M_count 72 = .ok (.ireturn, 1) := by decide +kernel
theorem d_M_count_73 : decode b_M_count 73 = .ok (.iload_n 1, 1) := by decide +kernel
theorem d_M_count_74 : decode b_M_count 74 = .ok (.iconst 2, 1) := by decide +kernel
theorem d_M_count_75 : decode b_M_count 75 = .ok (.if_icmp .ne 8, 3) := by decide +kernel
theorem d_M_count_78 : decode b_M_count 78 = .ok (.aload_n 0, 1) := by decide +kernel
theorem d_M_count_79 : decode b_M_count 79 = .ok (.getfield 9, 3) := by decide +kernel
theorem d_M_count_82 : decode b_M_count 82 = .ok (.ireturn, 1) := by decide +kernel
theorem d_M_count_83 : decode b_M_count 83 = .ok (.iconst 0, 1) := by decide +kernel
theorem d_M_count_84 : decode b_M_count 84 = .ok (.istore_n 3, 1) := by decide +kernel
theorem d_M_count_85 : decode b_M_count 85 = .ok (.iload_n 3, 1) := by decide +kernel
theorem d_M_count_86 : decode b_M_count 86 = .ok (.bipush 24, 2) := by decide +kernel
theorem d_M_count_88 : decode b_M_count 88 = .ok (.aload_n 0, 1) := by decide +kernel
theorem d_M_count_89 : decode b_M_count 89 = .ok (.getfield 9, 3) := by decide +kernel
theorem d_M_count_92 : decode b_M_count 92 = .ok (.iconst 2, 1) := by decide +kernel
theorem d_M_count_93 : decode b_M_count 93 = .ok (.iadd, 1) := by decide +kernel
theorem d_M_count_94 : decode b_M_count 94 = .ok (.imul, 1) := by decide +kernel
theorem d_M_count_95 : decode b_M_count 95 = .ok (.if_icmp .ge 28, 3) := by decide +kernel
theorem d_M_count_98 : decode b_M_count 98 = .ok (.aload_n 0, 1) := by decide +kernel
theorem d_M_count_99 : decode b_M_count 99 = .ok (.getfield 42, 3) := by decide +kernel
theorem d_M_count_102 : decode b_M_count 102 = .ok (.iload_n 3, 1) := by decide +kernel
theorem d_M_count_103 : decode b_M_count 103 = .ok (.iaload, 1) := by decide +kernel
theorem d_M_count_104 : decode b_M_count 104 = .ok (.iload_n 1, 1) := by decide +kernel
theorem d_M_count_105 : decode b_M_count 105 = .ok (.iconst 3, 1) := by decide +kernel
theorem d_M_count_106 : decode b_M_count 106 = .ok (.isub, 1) := by decide +kernel
theorem d_M_count_107 : decode b_M_count 107 = .ok (.ishr, 1) := by decide +kernel
theorem d_M_count_108 : decode b_M_count 108 = .ok (.iconst 1, 1) := by decide +kernel
theorem d_M_count_109 : decode b_M_count 109 = .ok (.iand, 1) := by decide +kernel
theorem d_M_count_110 : decode b_M_count 110 = .ok (.iconst 1, 1) := by decide +kernel
theorem d_M_count_111 : decode b_M_count 111 = .ok (.if_icmp .ne 6, 3) := by decide +kernel
theorem d_M_count_114 : decode b_M_count 114 = .ok (.iinc 2 1, 3) := by decide +kernel
theorem d_M_count_117 : decode b_M_count 117 = .ok (.iinc 3 1, 3) := by decide +kernel
theorem d_M_count_120 : decode b_M_count 120 = .ok (.goto (-35), 3) := by decide +kernel
theorem d_M_count_123 : decode b_M_count 123 = .ok (.iload_n 2, 1) := by decide +kernel
theorem d_M_count_124 : decode b_M_count 124 = .ok (.ireturn, 1) := by decide +kernel
