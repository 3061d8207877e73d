theorem d_D_init_0 : decode b_D_init 0 = .ok (.aload_n 0, 1) := by decide +kernel
theorem d_D_init_1 : decode b_D_init 1 = .ok (.invokespecial 5, 3) := by decide +kernel
theorem d_D_init_4 : decode b_D_init 4 = .ok (.aload_n 0, 1) := by decide +kernel
theorem d_D_init_5 : decode b_D_init 5 = .ok (.bipush 11, 2) := by decide +kernel
theorem d_D_init_7 : decode b_D_init 7 = .ok (.bipush 24, 2) := by decide +kernel
theorem d_D_init_9 : decode b_D_init 9 = .ok (.multianewarray 11 2, 4) := by decide +kernel
theorem d_D_init_13 : decode b_D_init 13 = .ok (.putfield 13, 3) := by decide +kernel
theorem d_D_init_16 : decode b_D_init 16 = .ok (.aload_n 0, 1) := by decide +kernel
theorem d_D_init_17 : decode b_D_init 17 = .ok (.sipush 528, 3) := by decide +kernel
theorem d_D_init_20 : decode b_D_init 20 = .ok (.newarray .int, 2) := by decide +kernel
theorem d_D_init_22 : decode b_D_init 22 = .ok (.putfield 16, 3) := by decide +kernel
theorem d_D_init_25 : decode b_D_init 25 = .ok (.aload_n 0, 1) := by decide +kernel
theorem d_D_init_26 : decode b_D_init 26 = .ok (.bipush 60, 2) := by decide +kernel
theorem d_D_init_28 : decode b_D_init 28 = .ok (.newarray .int, 2) := by decide +kernel
theorem d_D_init_30 : decode b_D_init 30 = .ok (.putfield 20, 3) := by decide +kernel
theorem d_D_init_33 : decode b_D_init 33 = .ok (.aload_n 0, 1) := by decide +kernel
theorem d_D_init_34 : decode b_D_init 34 = .ok (.bipush 60, 2) := by decide +kernel
theorem d_D_init_36 : decode b_D_init 36 = .ok (.newarray .int, 2) := by decide +kernel
theorem d_D_init_38 : decode b_D_init 38 = .ok (.putfield 23, 3) := by decide +kernel
theorem d_D_init_41 : decode b_D_init 41 = .ok (.aload_n 0, 1) := by decide +kernel
theorem d_D_init_42 : decode b_D_init 42 = .ok (.aload_n 1, 1) := by decide +kernel
theorem d_D_init_43 : decode b_D_init 43 = .ok (.putfield 26, 3) := by decide +kernel
theorem d_D_init_46 : decode b_D_init 46 = .ok (.aload_n 0, 1) := by decide +kernel
theorem d_D_init_47 : decode b_D_init 47 = .ok (.aload_n 2, 1) := by decide +kernel
theorem d_D_init_48 : decode b_D_init 48 = .ok (.putfield 30, 3) := by decide +kernel
theorem d_D_init_51 : decode b_D_init 51 = .ok (.return_, 1) := by decide +kernel
theorem d_D_draw_0 : decode b_D_draw 0 = .ok (.iconst 0, 1) := by decide +kernel
theorem d_D_draw_1 : decode b_D_draw 1 = .ok (.istore_n 1, 1) := by decide +kernel
theorem d_D_draw_2 : decode b_D_draw 2 = .ok (.iload_n 1, 1) := by decide +kernel
theorem d_D_draw_3 : decode b_D_draw 3 = .ok (.bipush 11, 2) := by decide +kernel
theorem d_D_draw_5 : decode b_D_draw 5 = .ok (.if_icmp .ge 19, 3) := by decide +kernel
theorem d_D_draw_8 : decode b_D_draw 8 = .ok (.aload_n 0, 1) := by decide +kernel
theorem d_D_draw_9 : decode b_D_draw 9 = .ok (.getfield 13, 3) := by decide +kernel
theorem d_D_draw_12 : decode b_D_draw 12 = .ok (.iload_n 1, 1) := by decide +kernel
theorem d_D_draw_13 : decode b_D_draw 13 = .ok (.aaload, 1) := by decide +kernel
theorem d_D_draw_14 : decode b_D_draw 14 = .ok (.iconst 0, 1) := by decide +kernel
theorem d_D_draw_15 : decode b_D_draw 15 = .ok (.invokestatic 34, 3) := by decide +kernel
theorem d_D_draw_18 : decode b_D_draw 18 = .ok (.iinc 1 1, 3) := by decide +kernel
theorem d_D_draw_21 : decode b_D_draw 21 = .ok (.goto (-19), 3) := by decide +kernel
theorem d_D_draw_24 : decode b_D_draw 24 = .ok (.iconst 0, 1) := by decide +kernel
theorem d_D_draw_25 : decode b_D_draw 25 = .ok (.istore_n 1, 1) := by decide +kernel
theorem d_D_draw_26 : decode b_D_draw 26 = .ok (.iload_n 1, 1) := by decide +kernel
theorem d_D_draw_27 : decode b_D_draw 27 = .ok (.bipush 12, 2) := by decide +kernel
theorem d_D_draw_29 : decode b_D_draw 29 = .ok (.if_icmp .ge 26, 3) := by decide +kernel
theorem d_D_draw_32 : decode b_D_draw 32 = .ok (.aload_n 0, 1) := by decide +kernel
theorem d_D_draw_33 : decode b_D_draw 33 = .ok (.getfield 30, 3) := by decide +kernel
theorem d_D_draw_36 : decode b_D_draw 36 = .ok (.getfield 40, 3) := by decide +kernel
theorem d_D_draw_39 : decode b_D_draw 39 = .ok (.iload_n 1, 1) := by decide +kernel
theorem d_D_draw_40 : decode b_D_draw 40 = .ok (.iaload, 1) := by decide +kernel
theorem d_D_draw_41 : decode b_D_draw 41 = .ok (.ifCond .le 8, 3) := by decide +kernel
theorem d_D_draw_44 : decode b_D_draw 44 = .ok (.aload_n 0, 1) := by decide +kernel
theorem d_D_draw_45 : decode b_D_draw 45 = .ok (.iload_n 1, 1) := by decide +kernel
theorem d_D_draw_46 : decode b_D_draw 46 = .ok (.invokevirtual 45, 3) := by decide +kernel
theorem d_D_draw_49 : decode b_D_draw 49 = .ok (.iinc 1 1, 3) := by decide +kernel
theorem d_D_draw_52 : decode b_D_draw 52 = .ok (.goto (-26), 3) := by decide +kernel
theorem d_D_draw_55 : decode b_D_draw 55 = .ok (.iconst 0, 1) := by decide +kernel
theorem d_D_draw_56 : decode b_D_draw 56 = .ok (.istore_n 1, 1) := by decide +kernel
theorem d_D_draw_57 : decode b_D_draw 57 = .ok (.iload_n 1, 1) := by decide +kernel
theorem d_D_draw_58 : decode b_D_draw 58 = .ok (.bipush 24, 2) := by decide +kernel
theorem d_D_draw_60 : decode b_D_draw 60 = .ok (.if_icmp .ge 21, 3) := by decide +kernel
theorem d_D_draw_63 : decode b_D_draw 63 = .ok (.aload_n 0, 1) := by decide +kernel
theorem d_D_draw_64 : decode b_D_draw 64 = .ok (.iconst 0, 1) := by decide +kernel
theorem d_D_draw_65 : decode b_D_draw 65 = .ok (.iload_n 1, 1) := by decide +kernel
theorem d_D_draw_66 : decode b_D_draw 66 = .ok (.invokevirtual 49, 3) := by decide +kernel
theorem d_D_draw_69 : decode b_D_draw 69 = .ok (.aload_n 0, 1) := by decide +kernel
theorem d_D_draw_70 : decode b_D_draw 70 = .ok (.iconst 1, 1) := by decide +kernel
theorem d_D_draw_71 : decode b_D_draw 71 = .ok (.iload_n 1, 1) := by decide +kernel
theorem d_D_draw_72 : decode b_D_draw 72 = .ok (.invokevirtual 49, 3) := by decide +kernel
theorem d_D_draw_75 : decode b_D_draw 75 = .ok (.iinc 1 1, 3) := by decide +kernel
theorem d_D_draw_78 : decode b_D_draw 78 = .ok (.goto (-21), 3) := by decide +kernel
theorem d_D_draw_81 : decode b_D_draw 81 = .ok (.return_, 1) := by decide +kernel
theorem d_D_drawBars_0 : decode b_D_drawBars 0 = .ok (.aload_n 0, 1) := by decide +kernel
theorem d_D_drawBars_1 : decode b_D_drawBars 1 = .ok (.getfield 26, 3) := by decide +kernel
theorem d_D_drawBars_4 : decode b_D_drawBars 4 = .ok (.iload_n 1, 1) := by decide +kernel
theorem d_D_drawBars_5 : decode b_D_drawBars 5 = .ok (.invokevirtual 53, 3) := by decide +kernel
theorem d_D_drawBars_8 : decode b_D_drawBars 8 = .ok (.istore_n 2, 1) := by decide +kernel
theorem d_D_drawBars_9 : decode b_D_drawBars 9 = .ok (.aload_n 0, 1) := by decide +kernel
theorem d_D_drawBars_10 : decode b_D_drawBars 10 = .ok (.getfield 26, 3) := by decide +kernel
theorem d_D_drawBars_13 : decode b_D_drawBars 13 = .ok (.iload_n 1, 1) := by decide +kernel
theorem d_D_drawBars_14 : decode b_D_drawBars 14 = .ok (.invokevirtual 59, 3) := by decide +kernel
theorem d_D_drawBars_17 : decode b_D_drawBars 17 = .ok (.istore_n 3, 1) := by decide +kernel
theorem d_D_drawBars_18 : decode b_D_drawBars 18 = .ok (.iload_n 3, 1) := by decide +kernel
theorem d_D_drawBars_19 : decode b_D_drawBars 19 = .ok (.ifCond .lt 34, 3) := by decide +kernel
theorem d_D_drawBars_22 : decode b_D_drawBars 22 = .ok (.iload_n 3, 1) := by decide +kernel
theorem d_D_drawBars_23 : decode b_D_drawBars 23 = .ok (.iload_n 2, 1) := by decide +kernel
theorem d_D_drawBars_24 : decode b_D_drawBars 24 = .ok (.if_icmp .ge 29, 3) := by decide +kernel
theorem d_D_drawBars_27 : decode b_D_drawBars 27 = .ok (.aload_n 0, 1) := by decide +kernel
theorem d_D_drawBars_28 : decode b_D_drawBars 28 = .ok (.getfield 13, 3) := by decide +kernel
theorem d_D_drawBars_31 : decode b_D_drawBars 31 = .ok (.aload_n 0, 1) := by decide +kernel
theorem d_D_drawBars_32 : decode b_D_drawBars 32 = .ok (.getfield 30, 3) := by decide +kernel
theorem d_D_drawBars_35 : decode b_D_drawBars 35 = .ok (.getfield 40, 3) := by decide +kernel
theorem d_D_drawBars_38 : decode b_D_drawBars 38 = .ok (.iload_n 1, 1) := by decide +kernel
theorem d_D_drawBars_39 : decode b_D_drawBars 39 = .ok (.iaload, 1) := by decide +kernel
theorem d_D_drawBars_40 : decode b_D_drawBars 40 = .ok (.aaload, 1) := by decide +kernel
theorem d_D_drawBars_41 : decode b_D_drawBars 41 = .ok (.iload_n 3, 1) := by decide +kernel
theorem d_D_drawBars_42 : decode b_D_drawBars 42 = .ok (.dup2, 1) := by decide +kernel
theorem d_D_drawBars_43 : decode b_D_drawBars 43 = .ok (.iaload, 1) := by decide +kernel
theorem d_D_drawBars_44 : decode b_D_drawBars 44 = .ok (.iconst 1, 1) := by decide +kernel
theorem d_D_drawBars_45 : decode b_D_drawBars 45 = .ok (.ior, 1) := by decide +kernel
theorem d_D_drawBars_46 : decode b_D_drawBars 46 = .ok (.iastore, 1) := by decide +kernel
theorem d_D_drawBars_47 : decode b_D_drawBars 47 = .ok (.iinc 3 1, 3) := by decide +kernel
theorem d_D_drawBars_50 : decode b_D_drawBars 50 = .ok (.goto (-32), 3) := by decide +kernel
theorem d_D_drawBars_53 : decode b_D_drawBars 53 = .ok (.return_, 1) := by decide +kernel
theorem d_D_drawPin_0 : decode b_D_drawPin 0 = .ok (.aload_n 0, 1) := by decide +kernel
theorem d_D_drawPin_1 : decode b_D_drawPin 1 = .ok (.getfield 26, 3) := by decide +kernel
theorem d_D_drawPin_4 : decode b_D_drawPin 4 = .ok (.getfield 62, 3) := by decide +kernel
theorem d_D_drawPin_7 : decode b_D_drawPin 7 = .ok (.iload_n 1, 1) := by decide +kernel
theorem d_D_drawPin_8 : decode b_D_drawPin 8 = .ok (.aaload, 1) := by decide +kernel
theorem d_D_drawPin_9 : decode b_D_drawPin 9 = .ok (.iload_n 2, 1) := by decide +kernel
theorem d_D_drawPin_10 : decode b_D_drawPin 10 = .ok (.iaload, 1) := by decide +kernel
theorem d_D_drawPin_11 : decode b_D_drawPin 11 = .ok (.istore_n 3, 1) := by decide +kernel
theorem d_D_drawPin_12 : decode b_D_drawPin 12 = .ok (.iload_n 3, 1) := by decide +kernel
theorem d_D_drawPin_13 : decode b_D_drawPin 13 = .ok (.iconst (-1), 1) := by decide +kernel
theorem d_D_drawPin_14 : decode b_D_drawPin 14 = .ok (.if_icmp .eq 15, 3) := by decide +kernel
theorem d_D_drawPin_17 : decode b_D_drawPin 17 = .ok (.aload_n 0, 1) := by decide +kernel
theorem d_D_drawPin_18 : decode b_D_drawPin 18 = .ok (.getfield 30, 3) := by decide +kernel
theorem d_D_drawPin_21 : decode b_D_drawPin 21 = .ok (.getfield 40, 3) := by decide +kernel
theorem d_D_drawPin_24 : decode b_D_drawPin 24 = .ok (.iload_n 3, 1) := by decide +kernel
theorem d_D_drawPin_25 : decode b_D_drawPin 25 = .ok (.iaload, 1) := by decide +kernel
theorem d_D_drawPin_26 : decode b_D_drawPin 26 = .ok (.ifCond .ne 4, 3) := by decide +kernel
theorem d_D_drawPin_29 : decode b_D_drawPin 29 = .ok (.return_, 1) := by decide +kernel
theorem d_D_drawPin_30 : decode b_D_drawPin 30 = .ok (.aload_n 0, 1) := by decide +kernel
theorem d_D_drawPin_31 : decode b_D_drawPin 31 = .ok (.getfield 30, 3) := by decide +kernel
theorem d_D_drawPin_34 : decode b_D_drawPin 34 = .ok (.getfield 40, 3) := by decide +kernel
theorem d_D_drawPin_37 : decode b_D_drawPin 37 = .ok (.iload_n 3, 1) := by decide +kernel
theorem d_D_drawPin_38 : decode b_D_drawPin 38 = .ok (.iaload, 1) := by decide +kernel
theorem d_D_drawPin_39 : decode b_D_drawPin 39 = .ok (.istore 4, 2) := by decide +kernel
theorem d_D_drawPin_41 : decode b_D_drawPin 41 = .ok (.iload_n 1, 1) := by decide +kernel
theorem d_D_drawPin_42 : decode b_D_drawPin 42 = .ok (.ifCond .ne 7, 3) := by decide +kernel
theorem d_D_drawPin_45 : decode b_D_drawPin 45 = .ok (.iconst 0, 1) := by decide +kernel
theorem d_D_drawPin_46 : decode b_D_drawPin 46 = .ok (.goto 5, 3) := by decide +kernel
theorem d_D_drawPin_49 : decode b_D_drawPin 49 = .ok (.iload 4, 2) := by decide +kernel
theorem d_D_drawPin_51 : decode b_D_drawPin 51 = .ok (.istore 5, 2) := by decide +kernel
theorem d_D_drawPin_53 : decode b_D_drawPin 53 = .ok (.iload_n 1, 1) := by decide +kernel
theorem d_D_drawPin_54 : decode b_D_drawPin 54 = .ok (.ifCond .ne 8, 3) := by decide +kernel
theorem d_D_drawPin_57 : decode b_D_drawPin 57 = .ok (.iload 4, 2) := by decide +kernel
theorem d_D_drawPin_59 : decode b_D_drawPin 59 = .ok (.goto 12, 3) := by decide +kernel
theorem d_D_drawPin_62 : decode b_D_drawPin 62 = .ok (.aload_n 0, 1) := by decide +kernel
theorem d_D_drawPin_63 : decode b_D_drawPin 63 = .ok (.getfield 30, 3) := by decide +kernel
theorem d_D_drawPin_66 : decode b_D_drawPin 66 = .ok (.getfield 65, 3) := by decide +kernel
theorem d_D_drawPin_69 : decode b_D_drawPin 69 = .ok (.iconst 1, 1) := by decide +kernel
theorem d_D_drawPin_70 : decode b_D_drawPin 70 = .ok (.iadd, 1) := by decide +kernel
theorem d_D_drawPin_71 : decode b_D_drawPin 71 = .ok (.istore 6, 2) := by decide +kernel
theorem d_D_drawPin_73 : decode b_D_drawPin 73 = .ok (.aload_n 0, 1) := by decide +kernel
theorem d_D_drawPin_74 : decode b_D_drawPin 74 = .ok (.getfield 13, 3) := by decide +kernel
theorem d_D_drawPin_77 : decode b_D_drawPin 77 = .ok (.iload 4, 2) := by decide +kernel
theorem d_D_drawPin_79 : decode b_D_drawPin 79 = .ok (.aaload, 1) := by decide +kernel
theorem d_D_drawPin_80 : decode b_D_drawPin 80 = .ok (.iload_n 2, 1) := by decide +kernel
theorem d_D_drawPin_81 : decode b_D_drawPin 81 = .ok (.dup2, 1) := by decide +kernel
theorem d_D_drawPin_82 : decode b_D_drawPin 82 = .ok (.iaload, 1) := by decide +kernel
theorem d_D_drawPin_83 : decode b_D_drawPin 83 = .ok (.iconst 4, 1) := by decide +kernel
theorem d_D_drawPin_84 : decode b_D_drawPin 84 = .ok (.ior, 1) := by decide +kernel
theorem d_D_drawPin_85 : decode b_D_drawPin 85 = .ok (.iastore, 1) := by decide +kernel
theorem d_D_drawPin_86 : decode b_D_drawPin 86 = .ok (.iload 5, 2) := by decide +kernel
theorem d_D_drawPin_88 : decode b_D_drawPin 88 = .ok (.istore 7, 2) := by decide +kernel
theorem d_D_drawPin_90 : decode b_D_drawPin 90 = .ok (.iload 7, 2) := by decide +kernel
theorem d_D_drawPin_92 : decode b_D_drawPin 92 = .ok (.iload 6, 2) := by decide +kernel
theorem d_D_drawPin_94 : decode b_D_drawPin 94 = .ok (.if_icmp .ge 22, 3) := by decide +kernel
theorem d_D_drawPin_97 : decode b_D_drawPin 97 = .ok (.aload_n 0, 1) := by decide +kernel
theorem d_D_drawPin_98 : decode b_D_drawPin 98 = .ok (.getfield 13, 3) := by decide +kernel
theorem d_D_drawPin_101 : decode b_D_drawPin 101 = .ok (.iload 7, 2) := by decide +kernel
theorem d_D_drawPin_103 : decode b_D_drawPin 103 = .ok (.aaload, 1) := by decide +kernel
theorem d_D_drawPin_104 : decode b_D_drawPin 104 = .ok (.iload_n 2, 1) := by decide +kernel
theorem d_D_drawPin_105 : decode b_D_drawPin 105 = .ok (.dup2, 1) := by decide +kernel
theorem d_D_drawPin_106 : decode b_D_drawPin 106 = .ok (.iaload, 1) := by decide +kernel
theorem d_D_drawPin_107 : decode b_D_drawPin 107 = .ok (.iconst 2, 1) := by decide +kernel
theorem d_D_drawPin_108 : decode b_D_drawPin 108 = .ok (.ior, 1) := by decide +kernel
theorem d_D_drawPin_109 : decode b_D_drawPin 109 = .ok (.iastore, 1) := by decide +kernel
theorem d_D_drawPin_110 : decode b_D_drawPin 110 = .ok (.iinc 7 1, 3) := by decide +kernel
theorem d_D_drawPin_113 : decode b_D_drawPin 113 = .ok (.goto (-23), 3) := by decide +kernel
theorem d_D_drawPin_116 : decode b_D_drawPin 116 = .ok (.return_, 1) := by decide +kernel
theorem d_D_pointsWith_0 : decode b_D_pointsWith 0 = .ok (.iconst 0, 1) := by decide +kernel
theorem d_D_pointsWith_1 : decode b_D_pointsWith 1 = .ok (.istore_n 2, 1) := by decide +kernel
theorem d_D_pointsWith_2 : decode b_D_pointsWith 2 = .ok (.iconst 0, 1) := by decide +kernel
theorem d_D_pointsWith_3 : decode b_D_pointsWith 3 = .ok (.istore_n 3, 1) := by decide +kernel
theorem d_D_pointsWith_4 : decode b_D_pointsWith 4 = .ok (.iload_n 3, 1) := by decide +kernel
theorem d_D_pointsWith_5 : decode b_D_pointsWith 5 = .ok (.aload_n 0, 1) := by decide +kernel
theorem d_D_pointsWith_6 : decode b_D_pointsWith 6 = .ok (.getfield 30, 3) := by decide +kernel
theorem d_D_pointsWith_9 : decode b_D_pointsWith 9 = .ok (.invokevirtual 69, 3) := by decide +kernel
theorem d_D_pointsWith_12 : decode b_D_pointsWith 12 = .ok (.if_icmp .ge 42, 3) := by decide +kernel
theorem d_D_pointsWith_15 : decode b_D_pointsWith 15 = .ok (.iconst 0, 1) := by decide +kernel
theorem d_D_pointsWith_16 : decode b_D_pointsWith 16 = .ok (.istore 4, 2) := by decide +kernel
theorem d_D_pointsWith_18 : decode b_D_pointsWith 18 = .ok (.iload 4, 2) := by decide +kernel
theorem d_D_pointsWith_20 : decode b_D_pointsWith 20 = .ok (.bipush 24, 2) := by decide +kernel
theorem d_D_pointsWith_22 : decode b_D_pointsWith 22 = .ok (.if_icmp .ge 26, 3) := by decide +kernel
theorem d_D_pointsWith_25 : decode b_D_pointsWith 25 = .ok (.aload_n 0, 1) := by decide +kernel
theorem d_D_pointsWith_26 : decode b_D_pointsWith 26 = .ok (.getfield 13, 3) := by decide +kernel
theorem d_D_pointsWith_29 : decode b_D_pointsWith 29 = .ok (.iload_n 3, 1) := by decide +kernel
theorem d_D_pointsWith_30 : decode b_D_pointsWith 30 = .ok (.aaload, 1) := by decide +kernel
theorem d_D_pointsWith_31 : decode b_D_pointsWith 31 = .ok (.iload 4, 2) := by decide +kernel
theorem d_D_pointsWith_33 : decode b_D_pointsWith 33 = .ok (.iaload, 1) := by decide +kernel
theorem d_D_pointsWith_34 : decode b_D_pointsWith 34 = .ok (.iload_n 1, 1) := by decide +kernel
theorem d_D_pointsWith_35 : decode b_D_pointsWith 35 = .ok (.iand, 1) := by decide +kernel
theorem d_D_pointsWith_36 : decode b_D_pointsWith 36 = .ok (.ifCond .eq 6, 3) := by decide +kernel
theorem d_D_pointsWith_39 : decode b_D_pointsWith 39 = .ok (.iinc 2 1, 3) := by decide +kernel
theorem d_D_pointsWith_42 : decode b_D_pointsWith 42 = .ok (.iinc 4 1, 3) := by decide +kernel
theorem d_D_pointsWith_45 : decode b_D_pointsWith 45 = .ok (.goto (-27), 3) := by decide +kernel
theorem d_D_pointsWith_48 : decode b_D_pointsWith 48 = .ok (.iinc 3 1, 3) := by decide +kernel
theorem d_D_pointsWith_51 : decode b_D_pointsWith 51 = .ok (.goto (-47), 3) := by decide +kernel
theorem d_D_pointsWith_54 : decode b_D_pointsWith 54 = .ok (.iload_n 2, 1) := by decide +kernel
theorem d_D_pointsWith_55 : decode b_D_pointsWith 55 = .ok (.ireturn, 1) := by decide +kernel
theorem d_D_findGroups_0 : decode b_D_findGroups 0 = .ok (.iconst 0, 1) := by decide +kernel
theorem d_D_findGroups_1 : decode b_D_findGroups 1 = .ok (.istore_n 1, 1) := by decide +kernel
theorem d_D_findGroups_2 : decode b_D_findGroups 2 = .ok (.iload_n 1, 1) := by decide +kernel
theorem d_D_findGroups_3 : decode b_D_findGroups 3 = .ok (.sipush 528, 3) := by decide +kernel
theorem d_D_findGroups_6 : decode b_D_findGroups 6 = .ok (.if_icmp .ge 16, 3) := by decide +kernel
theorem d_D_findGroups_9 : decode b_D_findGroups 9 = .ok (.aload_n 0, 1) := by decide +kernel
theorem d_D_findGroups_10 : decode b_D_findGroups 10 = .ok (.getfield 16, 3) := by decide +kernel
theorem d_D_findGroups_13 : decode b_D_findGroups 13 = .ok (.iload_n 1, 1) := by decide +kernel
theorem d_D_findGroups_14 : decode b_D_findGroups 14 = .ok (.iload_n 1, 1) := by decide +kernel
theorem d_D_findGroups_15 : decode b_D_findGroups 15 = .ok (.iastore, 1) := by decide +kernel
theorem d_D_findGroups_16 : decode b_D_findGroups 16 = .ok (.iinc 1 1, 3) := by decide +kernel
theorem d_D_findGroups_19 : decode b_D_findGroups 19 = .ok (.goto (-17), 3) := by decide +kernel
theorem d_D_findGroups_22 : decode b_D_findGroups 22 = .ok (.iconst 0, 1) := by decide +kernel
theorem d_D_findGroups_23 : decode b_D_findGroups 23 = .ok (.istore_n 1, 1) := by decide +kernel
theorem d_D_findGroups_24 : decode b_D_findGroups 24 = .ok (.iload_n 1, 1) := by decide +kernel
theorem d_D_findGroups_25 : decode b_D_findGroups 25 = .ok (.aload_n 0, 1) := by decide +kernel
theorem d_D_findGroups_26 : decode b_D_findGroups 26 = .ok (.getfield 30, 3) := by decide +kernel
theorem d_D_findGroups_29 : decode b_D_findGroups 29 = .ok (.invokevirtual 69, 3) := by decide +kernel
theorem d_D_findGroups_32 : decode b_D_findGroups 32 = .ok (.if_icmp .ge 29, 3) := by decide +kernel
theorem d_D_findGroups_35 : decode b_D_findGroups 35 = .ok (.iconst 0, 1) := by decide +kernel
theorem d_D_findGroups_36 : decode b_D_findGroups 36 = .ok (.istore_n 2, 1) := by decide +kernel
theorem d_D_findGroups_37 : decode b_D_findGroups 37 = .ok (.iload_n 2, 1) := by decide +kernel
theorem d_D_findGroups_38 : decode b_D_findGroups 38 = .ok (.bipush 24, 2) := by decide +kernel
theorem d_D_findGroups_40 : decode b_D_findGroups 40 = .ok (.if_icmp .ge 15, 3) := by decide +kernel
theorem d_D_findGroups_43 : decode b_D_findGroups 43 = .ok (.aload_n 0, 1) := by decide +kernel
theorem d_D_findGroups_44 : decode b_D_findGroups 44 = .ok (.iload_n 1, 1) := by decide +kernel
theorem d_D_findGroups_45 : decode b_D_findGroups 45 = .ok (.iload_n 2, 1) := by decide +kernel
theorem d_D_findGroups_46 : decode b_D_findGroups 46 = .ok (.invokevirtual 73, 3) := by decide +kernel
theorem d_D_findGroups_49 : decode b_D_findGroups 49 = .ok (.iinc 2 1, 3) := by decide +kernel
theorem d_D_findGroups_52 : decode b_D_findGroups 52 = .ok (.goto (-15), 3) := by decide +kernel
theorem d_D_findGroups_55 : decode b_D_findGroups 55 = .ok (.iinc 1 1, 3) := by decide +kernel
theorem d_D_findGroups_58 : decode b_D_findGroups 58 = .ok (.goto (-34), 3) := by decide +kernel
theorem d_D_findGroups_61 : decode b_D_findGroups 61 = .ok (.return_, 1) := by decide +kernel
theorem d_D_joinAt_0 : decode b_D_joinAt 0 = .ok (.aload_n 0, 1) := by decide +kernel
theorem d_D_joinAt_1 : decode b_D_joinAt 1 = .ok (.getfield 13, 3) := by decide +kernel
theorem d_D_joinAt_4 : decode b_D_joinAt 4 = .ok (.iload_n 1, 1) := by decide +kernel
theorem d_D_joinAt_5 : decode b_D_joinAt 5 = .ok (.aaload, 1) := by decide +kernel
theorem d_D_joinAt_6 : decode b_D_joinAt 6 = .ok (.iload_n 2, 1) := by decide +kernel
theorem d_D_joinAt_7 : decode b_D_joinAt 7 = .ok (.iaload, 1) := by decide +kernel
theorem d_D_joinAt_8 : decode b_D_joinAt 8 = .ok (.istore_n 3, 1) := by decide +kernel
theorem d_D_joinAt_9 : decode b_D_joinAt 9 = .ok (.iload_n 3, 1) := by decide +kernel
theorem d_D_joinAt_10 : decode b_D_joinAt 10 = .ok (.iconst 1, 1) := by decide +kernel
theorem d_D_joinAt_11 : decode b_D_joinAt 11 = .ok (.iand, 1) := by decide +kernel
theorem d_D_joinAt_12 : decode b_D_joinAt 12 = .ok (.ifCond .eq 29, 3) := by decide +kernel
theorem d_D_joinAt_15 : decode b_D_joinAt 15 = .ok (.iload_n 2, 1) := by decide +kernel
theorem d_D_joinAt_16 : decode b_D_joinAt 16 = .ok (.iconst 1, 1) := by decide +kernel
theorem d_D_joinAt_17 : decode b_D_joinAt 17 = .ok (.iadd, 1) := by decide +kernel
theorem d_D_joinAt_18 : decode b_D_joinAt 18 = .ok (.bipush 24, 2) := by decide +kernel
theorem d_D_joinAt_20 : decode b_D_joinAt 20 = .ok (.if_icmp .ge 21, 3) := by decide +kernel
theorem d_D_joinAt_23 : decode b_D_joinAt 23 = .ok (.aload_n 0, 1) := by decide +kernel
theorem d_D_joinAt_24 : decode b_D_joinAt 24 = .ok (.iload_n 1, 1) := by decide +kernel
theorem d_D_joinAt_25 : decode b_D_joinAt 25 = .ok (.iload_n 2, 1) := by decide +kernel
theorem d_D_joinAt_26 : decode b_D_joinAt 26 = .ok (.iconst 0, 1) := by decide +kernel
theorem d_D_joinAt_27 : decode b_D_joinAt 27 = .ok (.invokestatic 76, 3) := by decide +kernel
theorem d_D_joinAt_30 : decode b_D_joinAt 30 = .ok (.iload_n 1, 1) := by decide +kernel
theorem d_D_joinAt_31 : decode b_D_joinAt 31 = .ok (.iload_n 2, 1) := by decide +kernel
theorem d_D_joinAt_32 : decode b_D_joinAt 32 = .ok (.iconst 1, 1) := by decide +kernel
theorem d_D_joinAt_33 : decode b_D_joinAt 33 = .ok (.iadd, 1) := by decide +kernel
theorem d_D_joinAt_34 : decode b_D_joinAt 34 = .ok (.iconst 0, 1) := by decide +kernel
theorem d_D_joinAt_35 : decode b_D_joinAt 35 = .ok (.invokestatic 76, 3) := by decide +kernel
theorem d_D_joinAt_38 : decode b_D_joinAt 38 = .ok (.invokevirtual 80, 3) := by decide +kernel
theorem d_D_joinAt_41 : decode b_D_joinAt 41 = .ok (.iload_n 3, 1) := by decide +kernel
theorem d_D_joinAt_42 : decode b_D_joinAt 42 = .ok (.iconst 2, 1) := by decide +kernel
theorem d_D_joinAt_43 : decode b_D_joinAt 43 = .ok (.iand, 1) := by decide +kernel
theorem d_D_joinAt_44 : decode b_D_joinAt 44 = .ok (.ifCond .eq 34, 3) := by decide +kernel
theorem d_D_joinAt_47 : decode b_D_joinAt 47 = .ok (.iload_n 1, 1) := by decide +kernel
theorem d_D_joinAt_48 : decode b_D_joinAt 48 = .ok (.iconst 1, 1) := by decide +kernel
theorem d_D_joinAt_49 : decode b_D_joinAt 49 = .ok (.iadd, 1) := by decide +kernel
theorem d_D_joinAt_50 : decode b_D_joinAt 50 = .ok (.aload_n 0, 1) := by decide +kernel
theorem d_D_joinAt_51 : decode b_D_joinAt 51 = .ok (.getfield 30, 3) := by decide +kernel
theorem d_D_joinAt_54 : decode b_D_joinAt 54 = .ok (.invokevirtual 69, 3) := by decide +kernel
theorem d_D_joinAt_57 : decode b_D_joinAt 57 = .ok (.if_icmp .ge 21, 3) := by decide +kernel
theorem d_D_joinAt_60 : decode b_D_joinAt 60 = .ok (.aload_n 0, 1) := by decide +kernel
theorem d_D_joinAt_61 : decode b_D_joinAt 61 = .ok (.iload_n 1, 1) := by decide +kernel
theorem d_D_joinAt_62 : decode b_D_joinAt 62 = .ok (.iload_n 2, 1) := by decide +kernel
theorem d_D_joinAt_63 : decode b_D_joinAt 63 = .ok (.iconst 1, 1) := by decide +kernel
theorem d_D_joinAt_64 : decode b_D_joinAt 64 = .ok (.invokestatic 76, 3) := by decide +kernel
theorem d_D_joinAt_67 : decode b_D_joinAt 67 = .ok (.iload_n 1, 1) := by decide +kernel
theorem d_D_joinAt_68 : decode b_D_joinAt 68 = .ok (.iconst 1, 1) := by decide +kernel
theorem d_D_joinAt_69 : decode b_D_joinAt 69 = .ok (.iadd, 1) := by decide +kernel
theorem d_D_joinAt_70 : decode b_D_joinAt 70 = .ok (.iload_n 2, 1) := by decide +kernel
theorem d_D_joinAt_71 : decode b_D_joinAt 71 = .ok (.iconst 1, 1) := by decide +kernel
theorem d_D_joinAt_72 : decode b_D_joinAt 72 = .ok (.invokestatic 76, 3) := by decide +kernel
theorem d_D_joinAt_75 : decode b_D_joinAt 75 = .ok (.invokevirtual 80, 3) := by decide +kernel
theorem d_D_joinAt_78 : decode b_D_joinAt 78 = .ok (.iload_n 3, 1) := by decide +kernel
theorem d_D_joinAt_79 : decode b_D_joinAt 79 = .ok (.iconst 4, 1) := by decide +kernel
theorem d_D_joinAt_80 : decode b_D_joinAt 80 = .ok (.iand, 1) := by decide +kernel
theorem d_D_joinAt_81 : decode b_D_joinAt 81 = .ok (.ifCond .eq 19, 3) := by decide +kernel
theorem d_D_joinAt_84 : decode b_D_joinAt 84 = .ok (.aload_n 0, 1) := by decide +kernel
theorem d_D_joinAt_85 : decode b_D_joinAt 85 = .ok (.iload_n 1, 1) := by decide +kernel
theorem d_D_joinAt_86 : decode b_D_joinAt 86 = .ok (.iload_n 2, 1) := by decide +kernel
theorem d_D_joinAt_87 : decode b_D_joinAt 87 = .ok (.iconst 0, 1) := by decide +kernel
theorem d_D_joinAt_88 : decode b_D_joinAt 88 = .ok (.invokestatic 76, 3) := by decide +kernel
theorem d_D_joinAt_91 : decode b_D_joinAt 91 = .ok (.iload_n 1, 1) := by decide +kernel
theorem d_D_joinAt_92 : decode b_D_joinAt 92 = .ok (.iload_n 2, 1) := by decide +kernel
theorem d_D_joinAt_93 : decode b_D_joinAt 93 = .ok (.iconst 1, 1) := by decide +kernel
theorem d_D_joinAt_94 : decode b_D_joinAt 94 = .ok (.invokestatic 76, 3) := by decide +kernel
theorem d_D_joinAt_97 : decode b_D_joinAt 97 = .ok (.invokevirtual 80, 3) := by decide +kernel
theorem d_D_joinAt_100 : decode b_D_joinAt 100 = .ok (.return_, 1) := by decide +kernel
theorem d_D_spot_0 : decode b_D_spot 0 = .ok (.iload_n 0, 1) := by decide +kernel
theorem d_D_spot_1 : decode b_D_spot 1 = .ok (.bipush 24, 2) := by decide +kernel
theorem d_D_spot_3 : decode b_D_spot 3 = .ok (.imul, 1) := by decide +kernel
theorem d_D_spot_4 : decode b_D_spot 4 = .ok (.iload_n 1, 1) := by decide +kernel
theorem d_D_spot_5 : decode b_D_spot 5 = .ok (.iadd, 1) := by decide +kernel
theorem d_D_spot_6 : decode b_D_spot 6 = .ok (.iconst 2, 1) := by decide +kernel
theorem d_D_spot_7 : decode b_D_spot 7 = .ok (.imul, 1) := by decide +kernel
theorem d_D_spot_8 : decode b_D_spot 8 = .ok (.iload_n 2, 1) := by decide +kernel
theorem d_D_spot_9 : decode b_D_spot 9 = .ok (.iadd, 1) := by decide +kernel
theorem d_D_spot_10 : decode b_D_spot 10 = .ok (.ireturn, 1) := by decide +kernel
theorem d_D_join_0 : decode b_D_join 0 = .ok (.aload_n 0, 1) := by decide +kernel
theorem d_D_join_1 : decode b_D_join 1 = .ok (.iload_n 1, 1) := by decide +kernel
theorem d_D_join_2 : decode b_D_join 2 = .ok (.invokevirtual 83, 3) := by decide +kernel
theorem d_D_join_5 : decode b_D_join 5 = .ok (.istore_n 3, 1) := by decide +kernel
theorem d_D_join_6 : decode b_D_join 6 = .ok (.aload_n 0, 1) := by decide +kernel
theorem d_D_join_7 : decode b_D_join 7 = .ok (.iload_n 2, 1) := by decide +kernel
theorem d_D_join_8 : decode b_D_join 8 = .ok (.invokevirtual 83, 3) := by decide +kernel
theorem d_D_join_11 : decode b_D_join 11 = .ok (.istore 4, 2) := by decide +kernel
theorem d_D_join_13 : decode b_D_join 13 = .ok (.aload_n 0, 1) := by decide +kernel
theorem d_D_join_14 : decode b_D_join 14 = .ok (.getfield 16, 3) := by decide +kernel
theorem d_D_join_17 : decode b_D_join 17 = .ok (.iload_n 3, 1) := by decide +kernel
theorem d_D_join_18 : decode b_D_join 18 = .ok (.iload 4, 2) := by decide +kernel
theorem d_D_join_20 : decode b_D_join 20 = .ok (.invokestatic 86, 3) := by decide +kernel
theorem d_D_join_23 : decode b_D_join 23 = .ok (.iload_n 3, 1) := by decide +kernel
theorem d_D_join_24 : decode b_D_join 24 = .ok (.iload 4, 2) := by decide +kernel
theorem d_D_join_26 : decode b_D_join 26 = .ok (.invokestatic 92, 3) := by decide +kernel
theorem d_D_join_29 : decode b_D_join 29 = .ok (.iastore, 1) := by decide +kernel
theorem d_D_join_30 : decode b_D_join 30 = .ok (.return_, 1) := by decide +kernel
theorem d_D_group_0 : decode b_D_group 0 = .ok (.iload_n 1, 1) := by decide +kernel
theorem d_D_group_1 : decode b_D_group 1 = .ok (.istore_n 2, 1) := by decide +kernel
theorem d_D_group_2 : decode b_D_group 2 = .ok (.iconst 0, 1) := by decide +kernel
theorem d_D_group_3 : decode b_D_group 3 = .ok (.istore_n 3, 1) := by decide +kernel
theorem d_D_group_4 : decode b_D_group 4 = .ok (.iload_n 3, 1) := by decide +kernel
theorem d_D_group_5 : decode b_D_group 5 = .ok (.sipush 528, 3) := by decide +kernel
theorem d_D_group_8 : decode b_D_group 8 = .ok (.if_icmp .ge 43, 3) := by decide +kernel
theorem d_D_group_11 : decode b_D_group 11 = .ok (.aload_n 0, 1) := by decide +kernel
theorem d_D_group_12 : decode b_D_group 12 = .ok (.getfield 16, 3) := by decide +kernel
theorem d_D_group_15 : decode b_D_group 15 = .ok (.iload_n 2, 1) := by decide +kernel
theorem d_D_group_16 : decode b_D_group 16 = .ok (.iaload, 1) := by decide +kernel
theorem d_D_group_17 : decode b_D_group 17 = .ok (.iload_n 2, 1) := by decide +kernel
theorem d_D_group_18 : decode b_D_group 18 = .ok (.if_icmp .eq 33, 3) := by decide +kernel
theorem d_D_group_21 : decode b_D_group 21 = .ok (.aload_n 0, 1) := by decide +kernel
theorem d_D_group_22 : decode b_D_group 22 = .ok (.getfield 16, 3) := by decide +kernel
theorem d_D_group_25 : decode b_D_group 25 = .ok (.iload_n 2, 1) := by decide +kernel
theorem d_D_group_26 : decode b_D_group 26 = .ok (.aload_n 0, 1) := by decide +kernel
theorem d_D_group_27 : decode b_D_group 27 = .ok (.getfield 16, 3) := by decide +kernel
theorem d_D_group_30 : decode b_D_group 30 = .ok (.aload_n 0, 1) := by decide +kernel
theorem d_D_group_31 : decode b_D_group 31 = .ok (.getfield 16, 3) := by decide +kernel
theorem d_D_group_34 : decode b_D_group 34 = .ok (.iload_n 2, 1) := by decide +kernel
theorem d_D_group_35 : decode b_D_group 35 = .ok (.iaload, 1) := by decide +kernel
theorem d_D_group_36 : decode b_D_group 36 = .ok (.iaload, 1) := by decide +kernel
theorem d_D_group_37 : decode b_D_group 37 = .ok (.iastore, 1) := by decide +kernel
theorem d_D_group_38 : decode b_D_group 38 = .ok (.aload_n 0, 1) := by decide +kernel
theorem d_D_group_39 : decode b_D_group 39 = .ok (.getfield 16, 3) := by decide +kernel
theorem d_D_group_42 : decode b_D_group 42 = .ok (.iload_n 2, 1) := by decide +kernel
theorem d_D_group_43 : decode b_D_group 43 = .ok (.iaload, 1) := by decide +kernel
theorem d_D_group_44 : decode b_D_group 44 = .ok (.istore_n 2, 1) := by decide +kernel
theorem d_D_group_45 : decode b_D_group 45 = .ok (.iinc 3 1, 3) := by decide +kernel
theorem d_D_group_48 : decode b_D_group 48 = .ok (.goto (-44), 3) := by decide +kernel
theorem d_D_group_51 : decode b_D_group 51 = .ok (.iload_n 2, 1) := by decide +kernel
theorem d_D_group_52 : decode b_D_group 52 = .ok (.ireturn, 1) := by decide +kernel
theorem d_D_groupOfRow_0 : decode b_D_groupOfRow 0 = .ok (.iload_n 1, 1) := by decide +kernel
theorem d_D_groupOfRow_1 : decode b_D_groupOfRow 1 = .ok (.ifCond .ne 7, 3) := by decide +kernel
theorem d_D_groupOfRow_4 : decode b_D_groupOfRow 4 = .ok (.iconst 0, 1) := by decide +kernel
theorem d_D_groupOfRow_5 : decode b_D_groupOfRow 5 = .ok (.goto 12, 3) := by decide +kernel
theorem d_D_groupOfRow_8 : decode b_D_groupOfRow 8 = .ok (.aload_n 0, 1) := by decide +kernel
theorem d_D_groupOfRow_9 : decode b_D_groupOfRow 9 = .ok (.getfield 30, 3) := by decide +kernel
theorem d_D_groupOfRow_12 : decode b_D_groupOfRow 12 = .ok (.getfield 65, 3) := by decide +kernel
theorem d_D_groupOfRow_15 : decode b_D_groupOfRow 15 = .ok (.iconst 1, 1) := by decide +kernel
theorem d_D_groupOfRow_16 : decode b_D_groupOfRow 16 = .ok (.iadd, 1) := by decide +kernel
theorem d_D_groupOfRow_17 : decode b_D_groupOfRow 17 = .ok (.istore_n 3, 1) := by decide +kernel
theorem d_D_groupOfRow_18 : decode b_D_groupOfRow 18 = .ok (.aload_n 0, 1) := by decide +kernel
theorem d_D_groupOfRow_19 : decode b_D_groupOfRow 19 = .ok (.iload_n 3, 1) := by decide +kernel
theorem d_D_groupOfRow_20 : decode b_D_groupOfRow 20 = .ok (.iload_n 2, 1) := by decide +kernel
theorem d_D_groupOfRow_21 : decode b_D_groupOfRow 21 = .ok (.iconst 1, 1) := by decide +kernel
theorem d_D_groupOfRow_22 : decode b_D_groupOfRow 22 = .ok (.invokestatic 76, 3) := by decide +kernel
theorem d_D_groupOfRow_25 : decode b_D_groupOfRow 25 = .ok (.invokevirtual 83, 3) := by decide +kernel
theorem d_D_groupOfRow_28 : decode b_D_groupOfRow 28 = .ok (.ireturn, 1) := by decide +kernel
theorem d_D_groupOfPin_0 : decode b_D_groupOfPin 0 = .ok (.aload_n 0, 1) := by decide +kernel
theorem d_D_groupOfPin_1 : decode b_D_groupOfPin 1 = .ok (.aload_n 0, 1) := by decide +kernel
theorem d_D_groupOfPin_2 : decode b_D_groupOfPin 2 = .ok (.getfield 26, 3) := by decide +kernel
theorem d_D_groupOfPin_5 : decode b_D_groupOfPin 5 = .ok (.getfield 95, 3) := by decide +kernel
theorem d_D_groupOfPin_8 : decode b_D_groupOfPin 8 = .ok (.iload_n 1, 1) := by decide +kernel
theorem d_D_groupOfPin_9 : decode b_D_groupOfPin 9 = .ok (.iaload, 1) := by decide +kernel
theorem d_D_groupOfPin_10 : decode b_D_groupOfPin 10 = .ok (.aload_n 0, 1) := by decide +kernel
theorem d_D_groupOfPin_11 : decode b_D_groupOfPin 11 = .ok (.getfield 26, 3) := by decide +kernel
theorem d_D_groupOfPin_14 : decode b_D_groupOfPin 14 = .ok (.iload_n 1, 1) := by decide +kernel
theorem d_D_groupOfPin_15 : decode b_D_groupOfPin 15 = .ok (.iload_n 2, 1) := by decide +kernel
theorem d_D_groupOfPin_16 : decode b_D_groupOfPin 16 = .ok (.invokevirtual 98, 3) := by decide +kernel
theorem d_D_groupOfPin_19 : decode b_D_groupOfPin 19 = .ok (.invokevirtual 101, 3) := by decide +kernel
theorem d_D_groupOfPin_22 : decode b_D_groupOfPin 22 = .ok (.ireturn, 1) := by decide +kernel
theorem d_D_collectEnds_0 : decode b_D_collectEnds 0 = .ok (.aload_n 0, 1) := by decide +kernel
theorem d_D_collectEnds_1 : decode b_D_collectEnds 1 = .ok (.iconst 0, 1) := by decide +kernel
theorem d_D_collectEnds_2 : decode b_D_collectEnds 2 = .ok (.putfield 104, 3) := by decide +kernel
theorem d_D_collectEnds_5 : decode b_D_collectEnds 5 = .ok (.iconst 0, 1) := by decide +kernel
theorem d_D_collectEnds_6 : decode b_D_collectEnds 6 = .ok (.istore_n 1, 1) := by decide +kernel
theorem d_D_collectEnds_7 : decode b_D_collectEnds 7 = .ok (.iload_n 1, 1) := by decide +kernel
theorem d_D_collectEnds_8 : decode b_D_collectEnds 8 = .ok (.bipush 24, 2) := by decide +kernel
theorem d_D_collectEnds_10 : decode b_D_collectEnds 10 = .ok (.if_icmp .ge 21, 3) := by decide +kernel
theorem d_D_collectEnds_13 : decode b_D_collectEnds 13 = .ok (.aload_n 0, 1) := by decide +kernel
theorem d_D_collectEnds_14 : decode b_D_collectEnds 14 = .ok (.iconst 0, 1) := by decide +kernel
theorem d_D_collectEnds_15 : decode b_D_collectEnds 15 = .ok (.iload_n 1, 1) := by decide +kernel
theorem d_D_collectEnds_16 : decode b_D_collectEnds 16 = .ok (.invokevirtual 107, 3) := by decide +kernel
theorem d_D_collectEnds_19 : decode b_D_collectEnds 19 = .ok (.aload_n 0, 1) := by decide +kernel
theorem d_D_collectEnds_20 : decode b_D_collectEnds 20 = .ok (.iconst 1, 1) := by decide +kernel
theorem d_D_collectEnds_21 : decode b_D_collectEnds 21 = .ok (.iload_n 1, 1) := by decide +kernel
theorem d_D_collectEnds_22 : decode b_D_collectEnds 22 = .ok (.invokevirtual 107, 3) := by decide +kernel
theorem d_D_collectEnds_25 : decode b_D_collectEnds 25 = .ok (.iinc 1 1, 3) := by decide +kernel
theorem d_D_collectEnds_28 : decode b_D_collectEnds 28 = .ok (.goto (-21), 3) := by decide +kernel
theorem d_D_collectEnds_31 : decode b_D_collectEnds 31 = .ok (.iconst 0, 1) := by decide +kernel
theorem d_D_collectEnds_32 : decode b_D_collectEnds 32 = .ok (.istore_n 1, 1) := by decide +kernel
theorem d_D_collectEnds_33 : decode b_D_collectEnds 33 = .ok (.iload_n 1, 1) := by decide +kernel
theorem d_D_collectEnds_34 : decode b_D_collectEnds 34 = .ok (.bipush 12, 2) := by decide +kernel
theorem d_D_collectEnds_36 : decode b_D_collectEnds 36 = .ok (.if_icmp .ge 43, 3) := by decide +kernel
theorem d_D_collectEnds_39 : decode b_D_collectEnds 39 = .ok (.aload_n 0, 1) := by decide +kernel
theorem d_D_collectEnds_40 : decode b_D_collectEnds 40 = .ok (.getfield 26, 3) := by decide +kernel
theorem d_D_collectEnds_43 : decode b_D_collectEnds 43 = .ok (.iload_n 1, 1) := by decide +kernel
theorem d_D_collectEnds_44 : decode b_D_collectEnds 44 = .ok (.invokevirtual 110, 3) := by decide +kernel
theorem d_D_collectEnds_47 : decode b_D_collectEnds 47 = .ok (.ifCond .eq 26, 3) := by decide +kernel
theorem d_D_collectEnds_50 : decode b_D_collectEnds 50 = .ok (.aload_n 0, 1) := by decide +kernel
theorem d_D_collectEnds_51 : decode b_D_collectEnds 51 = .ok (.iload_n 1, 1) := by decide +kernel
theorem d_D_collectEnds_52 : decode b_D_collectEnds 52 = .ok (.aload_n 0, 1) := by decide +kernel
theorem d_D_collectEnds_53 : decode b_D_collectEnds 53 = .ok (.aload_n 0, 1) := by decide +kernel
theorem d_D_collectEnds_54 : decode b_D_collectEnds 54 = .ok (.getfield 30, 3) := by decide +kernel
theorem d_D_collectEnds_57 : decode b_D_collectEnds 57 = .ok (.getfield 40, 3) := by decide +kernel
theorem d_D_collectEnds_60 : decode b_D_collectEnds 60 = .ok (.iload_n 1, 1) := by decide +kernel
theorem d_D_collectEnds_61 : decode b_D_collectEnds 61 = .ok (.iaload, 1) := by decide +kernel
theorem d_D_collectEnds_62 : decode b_D_collectEnds 62 = .ok (.iconst 0, 1) := by decide +kernel
theorem d_D_collectEnds_63 : decode b_D_collectEnds 63 = .ok (.iconst 0, 1) := by decide +kernel
theorem d_D_collectEnds_64 : decode b_D_collectEnds 64 = .ok (.invokestatic 76, 3) := by decide +kernel
theorem d_D_collectEnds_67 : decode b_D_collectEnds 67 = .ok (.invokevirtual 83, 3) := by decide +kernel
theorem d_D_collectEnds_70 : decode b_D_collectEnds 70 = .ok (.invokevirtual 114, 3) := by decide +kernel
theorem d_D_collectEnds_73 : decode b_D_collectEnds 73 = .ok (.iinc 1 1, 3) := by decide +kernel
theorem d_D_collectEnds_76 : decode b_D_collectEnds 76 = .ok (.goto (-43), 3) := by decide +kernel
theorem d_D_collectEnds_79 : decode b_D_collectEnds 79 = .ok (.return_, 1) := by decide +kernel
theorem d_D_addPinEnd_0 : decode b_D_addPinEnd 0 = .ok (.aload_n 0, 1) := by decide +kernel
theorem d_D_addPinEnd_1 : decode b_D_addPinEnd 1 = .ok (.getfield 26, 3) := by decide +kernel
theorem d_D_addPinEnd_4 : decode b_D_addPinEnd 4 = .ok (.getfield 62, 3) := by decide +kernel
theorem d_D_addPinEnd_7 : decode b_D_addPinEnd 7 = .ok (.iload_n 1, 1) := by decide +kernel
theorem d_D_addPinEnd_8 : decode b_D_addPinEnd 8 = .ok (.aaload, 1) := by decide +kernel
theorem d_D_addPinEnd_9 : decode b_D_addPinEnd 9 = .ok (.iload_n 2, 1) := by decide +kernel
theorem d_D_addPinEnd_10 : decode b_D_addPinEnd 10 = .ok (.iaload, 1) := by decide +kernel
theorem d_D_addPinEnd_11 : decode b_D_addPinEnd 11 = .ok (.istore_n 3, 1) := by decide +kernel
theorem d_D_addPinEnd_12 : decode b_D_addPinEnd 12 = .ok (.iload_n 3, 1) := by decide +kernel
theorem d_D_addPinEnd_13 : decode b_D_addPinEnd 13 = .ok (.iconst (-1), 1) := by decide +kernel
theorem d_D_addPinEnd_14 : decode b_D_addPinEnd 14 = .ok (.if_icmp .eq 25, 3) := by decide +kernel
theorem d_D_addPinEnd_17 : decode b_D_addPinEnd 17 = .ok (.aload_n 0, 1) := by decide +kernel
theorem d_D_addPinEnd_18 : decode b_D_addPinEnd 18 = .ok (.getfield 26, 3) := by decide +kernel
theorem d_D_addPinEnd_21 : decode b_D_addPinEnd 21 = .ok (.iload_n 3, 1) := by decide +kernel
theorem d_D_addPinEnd_22 : decode b_D_addPinEnd 22 = .ok (.invokevirtual 117, 3) := by decide +kernel
theorem d_D_addPinEnd_25 : decode b_D_addPinEnd 25 = .ok (.ifCond .eq 14, 3) := by decide +kernel
theorem d_D_addPinEnd_28 : decode b_D_addPinEnd 28 = .ok (.aload_n 0, 1) := by decide +kernel
theorem d_D_addPinEnd_29 : decode b_D_addPinEnd 29 = .ok (.iload_n 3, 1) := by decide +kernel
theorem d_D_addPinEnd_30 : decode b_D_addPinEnd 30 = .ok (.aload_n 0, 1) := by decide +kernel
theorem d_D_addPinEnd_31 : decode b_D_addPinEnd 31 = .ok (.iload_n 1, 1) := by decide +kernel
theorem d_D_addPinEnd_32 : decode b_D_addPinEnd 32 = .ok (.iload_n 2, 1) := by decide +kernel
theorem d_D_addPinEnd_33 : decode b_D_addPinEnd 33 = .ok (.invokevirtual 101, 3) := by decide +kernel
theorem d_D_addPinEnd_36 : decode b_D_addPinEnd 36 = .ok (.invokevirtual 114, 3) := by decide +kernel
theorem d_D_addPinEnd_39 : decode b_D_addPinEnd 39 = .ok (.return_, 1) := by decide +kernel
theorem d_D_addEnd_0 : decode b_D_addEnd 0 = .ok (.aload_n 0, 1) := by decide +kernel
theorem d_D_addEnd_1 : decode b_D_addEnd 1 = .ok (.getfield 104, 3) := by decide +kernel
theorem d_D_addEnd_4 : decode b_D_addEnd 4 = .ok (.bipush 60, 2) := by decide +kernel
theorem d_D_addEnd_6 : decode b_D_addEnd 6 = .ok (.if_icmp .ge 33, 3) := by decide +kernel
theorem d_D_addEnd_9 : decode b_D_addEnd 9 = .ok (.aload_n 0, 1) := by decide +kernel
theorem d_D_addEnd_10 : decode b_D_addEnd 10 = .ok (.getfield 20, 3) := by decide +kernel
theorem d_D_addEnd_13 : decode b_D_addEnd 13 = .ok (.aload_n 0, 1) := by decide +kernel
theorem d_D_addEnd_14 : decode b_D_addEnd 14 = .ok (.getfield 104, 3) := by decide +kernel
theorem d_D_addEnd_17 : decode b_D_addEnd 17 = .ok (.iload_n 1, 1) := by decide +kernel
theorem d_D_addEnd_18 : decode b_D_addEnd 18 = .ok (.iastore, 1) := by decide +kernel
theorem d_D_addEnd_19 : decode b_D_addEnd 19 = .ok (.aload_n 0, 1) := by decide +kernel
theorem d_D_addEnd_20 : decode b_D_addEnd 20 = .ok (.getfield 23, 3) := by decide +kernel
theorem d_D_addEnd_23 : decode b_D_addEnd 23 = .ok (.aload_n 0, 1) := by decide +kernel
theorem d_D_addEnd_24 : decode b_D_addEnd 24 = .ok (.getfield 104, 3) := by decide +kernel
theorem d_D_addEnd_27 : decode b_D_addEnd 27 = .ok (.iload_n 2, 1) := by decide +kernel
theorem d_D_addEnd_28 : decode b_D_addEnd 28 = .ok (.iastore, 1) := by decide +kernel
theorem d_D_addEnd_29 : decode b_D_addEnd 29 = .ok (.aload_n 0, 1) := by decide +kernel
theorem d_D_addEnd_30 : decode b_D_addEnd 30 = .ok (.dup, 1) := by decide +kernel
theorem d_D_addEnd_31 : decode b_D_addEnd 31 = .ok (.getfield 104, 3) := by decide +kernel
theorem d_D_addEnd_34 : decode b_D_addEnd 34 = .ok (.iconst 1, 1) := by decide +kernel
theorem d_D_addEnd_35 : decode b_D_addEnd 35 = .ok (.iadd, 1) := by decide +kernel
theorem d_D_addEnd_36 : decode b_D_addEnd 36 = .ok (.putfield 104, 3) := by decide +kernel
theorem d_D_addEnd_39 : decode b_D_addEnd 39 = .ok (.return_, 1) := by decide +kernel
theorem d_D_openNets_0 : decode b_D_openNets 0 = .ok (.iconst 0, 1) := by decide +kernel
theorem d_D_openNets_1 : decode b_D_openNets 1 = .ok (.istore_n 1, 1) := by decide +kernel
theorem d_D_openNets_2 : decode b_D_openNets 2 = .ok (.iconst 0, 1) := by decide +kernel
theorem d_D_openNets_3 : decode b_D_openNets 3 = .ok (.istore_n 2, 1) := by decide +kernel
theorem d_D_openNets_4 : decode b_D_openNets 4 = .ok (.iload_n 2, 1) := by decide +kernel
theorem d_D_openNets_5 : decode b_D_openNets 5 = .ok (.aload_n 0, 1) := by decide +kernel
theorem d_D_openNets_6 : decode b_D_openNets 6 = .ok (.getfield 104, 3) := by decide +kernel
theorem d_D_openNets_9 : decode b_D_openNets 9 = .ok (.if_icmp .ge 63, 3) := by decide +kernel
theorem d_D_openNets_12 : decode b_D_openNets 12 = .ok (.iconst 0, 1) := by decide +kernel
theorem d_D_openNets_13 : decode b_D_openNets 13 = .ok (.istore_n 3, 1) := by decide +kernel
theorem d_D_openNets_14 : decode b_D_openNets 14 = .ok (.iload_n 3, 1) := by decide +kernel
theorem d_D_openNets_15 : decode b_D_openNets 15 = .ok (.iload_n 2, 1) := by decide +kernel
theorem d_D_openNets_16 : decode b_D_openNets 16 = .ok (.if_icmp .ge 50, 3) := by decide +kernel
theorem d_D_openNets_19 : decode b_D_openNets 19 = .ok (.aload_n 0, 1) := by decide +kernel
theorem d_D_openNets_20 : decode b_D_openNets 20 = .ok (.getfield 20, 3) := by decide +kernel
theorem d_D_openNets_23 : decode b_D_openNets 23 = .ok (.iload_n 2, 1) := by decide +kernel
theorem d_D_openNets_24 : decode b_D_openNets 24 = .ok (.iaload, 1) := by decide +kernel
theorem d_D_openNets_25 : decode b_D_openNets 25 = .ok (.aload_n 0, 1) := by decide +kernel
theorem d_D_openNets_26 : decode b_D_openNets 26 = .ok (.getfield 20, 3) := by decide +kernel
theorem d_D_openNets_29 : decode b_D_openNets 29 = .ok (.iload_n 3, 1) := by decide +kernel
theorem d_D_openNets_30 : decode b_D_openNets 30 = .ok (.iaload, 1) := by decide +kernel
theorem d_D_openNets_31 : decode b_D_openNets 31 = .ok (.if_icmp .ne 29, 3) := by decide +kernel
theorem d_D_openNets_34 : decode b_D_openNets 34 = .ok (.aload_n 0, 1) := by decide +kernel
theorem d_D_openNets_35 : decode b_D_openNets 35 = .ok (.getfield 23, 3) := by decide +kernel
theorem d_D_openNets_38 : decode b_D_openNets 38 = .ok (.iload_n 2, 1) := by decide +kernel
theorem d_D_openNets_39 : decode b_D_openNets 39 = .ok (.iaload, 1) := by decide +kernel
theorem d_D_openNets_40 : decode b_D_openNets 40 = .ok (.aload_n 0, 1) := by decide +kernel
theorem d_D_openNets_41 : decode b_D_openNets 41 = .ok (.getfield 23, 3) := by decide +kernel
theorem d_D_openNets_44 : decode b_D_openNets 44 = .ok (.iload_n 3, 1) := by decide +kernel
theorem d_D_openNets_45 : decode b_D_openNets 45 = .ok (.iaload, 1) := by decide +kernel
theorem d_D_openNets_46 : decode b_D_openNets 46 = .ok (.if_icmp .eq 14, 3) := by decide +kernel
theorem d_D_openNets_49 : decode b_D_openNets 49 = .ok (.iload_n 1, 1) := by decide +kernel
theorem d_D_openNets_50 : decode b_D_openNets 50 = .ok (.iconst 1, 1) := by decide +kernel
theorem d_D_openNets_51 : decode b_D_openNets 51 = .ok (.aload_n 0, 1) := by decide +kernel
theorem d_D_openNets_52 : decode b_D_openNets 52 = .ok (.getfield 20, 3) := by decide +kernel
theorem d_D_openNets_55 : decode b_D_openNets 55 = .ok (.iload_n 2, 1) := by decide +kernel
theorem d_D_openNets_56 : decode b_D_openNets 56 = .ok (.iaload, 1) := by decide +kernel
theorem d_D_openNets_57 : decode b_D_openNets 57 = .ok (.ishl, 1) := by decide +kernel
theorem d_D_openNets_58 : decode b_D_openNets 58 = .ok (.ior, 1) := by decide +kernel
theorem d_D_openNets_59 : decode b_D_openNets 59 = .ok (.istore_n 1, 1) := by decide +kernel
theorem d_D_openNets_60 : decode b_D_openNets 60 = .ok (.iinc 3 1, 3) := by decide +kernel
theorem d_D_openNets_63 : decode b_D_openNets 63 = .ok (.goto (-49), 3) := by decide +kernel
theorem d_D_openNets_66 : decode b_D_openNets 66 = .ok (.iinc 2 1, 3) := by decide +kernel
theorem d_D_openNets_69 : decode b_D_openNets 69 = .ok (.goto (-65), 3) := by decide +kernel
theorem d_D_openNets_72 : decode b_D_openNets 72 = .ok (.iload_n 1, 1) := by decide +kernel
theorem d_D_openNets_73 : decode b_D_openNets 73 = .ok (.invokestatic 120, 3) := by decide +kernel
theorem d_D_openNets_76 : decode b_D_openNets 76 = .ok (.ireturn, 1) := by decide +kernel
theorem d_D_shortPairs_0 : decode b_D_shortPairs 0 = .ok (.iconst 0, 1) := by decide +kernel
theorem d_D_shortPairs_1 : decode b_D_shortPairs 1 = .ok (.istore_n 1, 1) := by decide +kernel
theorem d_D_shortPairs_2 : decode b_D_shortPairs 2 = .ok (.iconst 0, 1) := by decide +kernel
theorem d_D_shortPairs_3 : decode b_D_shortPairs 3 = .ok (.istore_n 2, 1) := by decide +kernel
theorem d_D_shortPairs_4 : decode b_D_shortPairs 4 = .ok (.iload_n 2, 1) := by decide +kernel
theorem d_D_shortPairs_5 : decode b_D_shortPairs 5 = .ok (.bipush 12, 2) := by decide +kernel
theorem d_D_shortPairs_7 : decode b_D_shortPairs 7 = .ok (.if_icmp .ge 28, 3) := by decide +kernel
theorem d_D_shortPairs_10 : decode b_D_shortPairs 10 = .ok (.iconst 1, 1) := by decide +kernel
theorem d_D_shortPairs_11 : decode b_D_shortPairs 11 = .ok (.iload_n 2, 1) := by decide +kernel
theorem d_D_shortPairs_12 : decode b_D_shortPairs 12 = .ok (.ishl, 1) := by decide +kernel
theorem d_D_shortPairs_13 : decode b_D_shortPairs 13 = .ok (.iconst 1, 1) := by decide +kernel
theorem d_D_shortPairs_14 : decode b_D_shortPairs 14 = .ok (.isub, 1) := by decide +kernel
theorem d_D_shortPairs_15 : decode b_D_shortPairs 15 = .ok (.istore_n 3, 1) := by decide +kernel
theorem d_D_shortPairs_16 : decode b_D_shortPairs 16 = .ok (.iload_n 1, 1) := by decide +kernel
theorem d_D_shortPairs_17 : decode b_D_shortPairs 17 = .ok (.aload_n 0, 1) := by decide +kernel
theorem d_D_shortPairs_18 : decode b_D_shortPairs 18 = .ok (.iload_n 2, 1) := by decide +kernel
theorem d_D_shortPairs_19 : decode b_D_shortPairs 19 = .ok (.invokevirtual 125, 3) := by decide +kernel
theorem d_D_shortPairs_22 : decode b_D_shortPairs 22 = .ok (.iload_n 3, 1) := by decide +kernel
theorem d_D_shortPairs_23 : decode b_D_shortPairs 23 = .ok (.iand, 1) := by decide +kernel
theorem d_D_shortPairs_24 : decode b_D_shortPairs 24 = .ok (.invokestatic 120, 3) := by decide +kernel
theorem d_D_shortPairs_27 : decode b_D_shortPairs 27 = .ok (.iadd, 1) := by decide +kernel
theorem d_D_shortPairs_28 : decode b_D_shortPairs 28 = .ok (.istore_n 1, 1) := by decide +kernel
theorem d_D_shortPairs_29 : decode b_D_shortPairs 29 = .ok (.iinc 2 1, 3) := by decide +kernel
theorem d_D_shortPairs_32 : decode b_D_shortPairs 32 = .ok (.goto (-28), 3) := by decide +kernel
theorem d_D_shortPairs_35 : decode b_D_shortPairs 35 = .ok (.iload_n 1, 1) := by decide +kernel
theorem d_D_shortPairs_36 : decode b_D_shortPairs 36 = .ok (.ireturn, 1) := by decide +kernel
theorem d_D_netsJoinedWith_0 : decode b_D_netsJoinedWith 0 = .ok (.iconst 0, 1) := by decide +kernel
theorem d_D_netsJoinedWith_1 : decode b_D_netsJoinedWith 1 = .ok (.istore_n 2, 1) := by decide +kernel
theorem d_D_netsJoinedWith_2 : decode b_D_netsJoinedWith 2 = .ok (.iconst 0, 1) := by decide +kernel
theorem d_D_netsJoinedWith_3 : decode b_D_netsJoinedWith 3 = .ok (.istore_n 3, 1) := by decide +kernel
theorem d_D_netsJoinedWith_4 : decode b_D_netsJoinedWith 4 = .ok (.iload_n 3, 1) := by decide +kernel
theorem d_D_netsJoinedWith_5 : decode b_D_netsJoinedWith 5 = .ok (.aload_n 0, 1) := by decide +kernel
theorem d_D_netsJoinedWith_6 : decode b_D_netsJoinedWith 6 = .ok (.getfield 104, 3) := by decide +kernel
theorem d_D_netsJoinedWith_9 : decode b_D_netsJoinedWith 9 = .ok (.if_icmp .ge 32, 3) := by decide +kernel
theorem d_D_netsJoinedWith_12 : decode b_D_netsJoinedWith 12 = .ok (.aload_n 0, 1) := by decide +kernel
theorem d_D_netsJoinedWith_13 : decode b_D_netsJoinedWith 13 = .ok (.getfield 20, 3) := by decide +kernel
theorem d_D_netsJoinedWith_16 : decode b_D_netsJoinedWith 16 = .ok (.iload_n 3, 1) := by decide +kernel
theorem d_D_netsJoinedWith_17 : decode b_D_netsJoinedWith 17 = .ok (.iaload, 1) := by decide +kernel
theorem d_D_netsJoinedWith_18 : decode b_D_netsJoinedWith 18 = .ok (.iload_n 1, 1) := by decide +kernel
theorem d_D_netsJoinedWith_19 : decode b_D_netsJoinedWith 19 = .ok (.if_icmp .ne 16, 3) := by decide +kernel
theorem d_D_netsJoinedWith_22 : decode b_D_netsJoinedWith 22 = .ok (.iload_n 2, 1) := by decide +kernel
theorem d_D_netsJoinedWith_23 : decode b_D_netsJoinedWith 23 = .ok (.aload_n 0, 1) := by decide +kernel
theorem d_D_netsJoinedWith_24 : decode b_D_netsJoinedWith 24 = .ok (.aload_n 0, 1) := by decide +kernel
theorem d_D_netsJoinedWith_25 : decode b_D_netsJoinedWith 25 = .ok (.getfield 23, 3) := by decide +kernel
theorem d_D_netsJoinedWith_28 : decode b_D_netsJoinedWith 28 = .ok (.iload_n 3, 1) := by decide +kernel
theorem d_D_netsJoinedWith_29 : decode b_D_netsJoinedWith 29 = .ok (.iaload, 1) := by decide +kernel
theorem d_D_netsJoinedWith_30 : decode b_D_netsJoinedWith 30 = .ok (.invokevirtual 128, 3) := by decide +kernel
theorem d_D_netsJoinedWith_33 : decode b_D_netsJoinedWith 33 = .ok (.ior, 1) := by decide +kernel
theorem d_D_netsJoinedWith_34 : decode b_D_netsJoinedWith 34 = .ok (.istore_n 2, 1) := by decide +kernel
theorem d_D_netsJoinedWith_35 : decode b_D_netsJoinedWith 35 = .ok (.iinc 3 1, 3) := by decide +kernel
theorem d_D_netsJoinedWith_38 : decode b_D_netsJoinedWith 38 = .ok (.goto (-34), 3) := by decide +kernel
theorem d_D_netsJoinedWith_41 : decode b_D_netsJoinedWith 41 = .ok (.iload_n 2, 1) := by decide +kernel
theorem d_D_netsJoinedWith_42 : decode b_D_netsJoinedWith 42 = .ok (.ireturn, 1) := by decide +kernel
theorem d_D_netsInGroup_0 : decode b_D_netsInGroup 0 = .ok (.iconst 0, 1) := by decide +kernel
theorem d_D_netsInGroup_1 : decode b_D_netsInGroup 1 = .ok (.istore_n 2, 1) := by decide +kernel
theorem d_D_netsInGroup_2 : decode b_D_netsInGroup 2 = .ok (.iconst 0, 1) := by decide +kernel
theorem d_D_netsInGroup_3 : decode b_D_netsInGroup 3 = .ok (.istore_n 3, 1) := by decide +kernel
theorem d_D_netsInGroup_4 : decode b_D_netsInGroup 4 = .ok (.iload_n 3, 1) := by decide +kernel
theorem d_D_netsInGroup_5 : decode b_D_netsInGroup 5 = .ok (.aload_n 0, 1) := by decide +kernel
theorem d_D_netsInGroup_6 : decode b_D_netsInGroup 6 = .ok (.getfield 104, 3) := by decide +kernel
theorem d_D_netsInGroup_9 : decode b_D_netsInGroup 9 = .ok (.if_icmp .ge 30, 3) := by decide +kernel
theorem d_D_netsInGroup_12 : decode b_D_netsInGroup 12 = .ok (.aload_n 0, 1) := by decide +kernel
theorem d_D_netsInGroup_13 : decode b_D_netsInGroup 13 = .ok (.getfield 23, 3) := by decide +kernel
theorem d_D_netsInGroup_16 : decode b_D_netsInGroup 16 = .ok (.iload_n 3, 1) := by decide +kernel
theorem d_D_netsInGroup_17 : decode b_D_netsInGroup 17 = .ok (.iaload, 1) := by decide +kernel
theorem d_D_netsInGroup_18 : decode b_D_netsInGroup 18 = .ok (.iload_n 1, 1) := by decide +kernel
theorem d_D_netsInGroup_19 : decode b_D_netsInGroup 19 = .ok (.if_icmp .ne 14, 3) := by decide +kernel
theorem d_D_netsInGroup_22 : decode b_D_netsInGroup 22 = .ok (.iload_n 2, 1) := by decide +kernel
theorem d_D_netsInGroup_23 : decode b_D_netsInGroup 23 = .ok (.iconst 1, 1) := by decide +kernel
theorem d_D_netsInGroup_24 : decode b_D_netsInGroup 24 = .ok (.aload_n 0, 1) := by decide +kernel
theorem d_D_netsInGroup_25 : decode b_D_netsInGroup 25 = .ok (.getfield 20, 3) := by decide +kernel
theorem d_D_netsInGroup_28 : decode b_D_netsInGroup 28 = .ok (.iload_n 3, 1) := by decide +kernel
theorem d_D_netsInGroup_29 : decode b_D_netsInGroup 29 = .ok (.iaload, 1) := by decide +kernel
theorem d_D_netsInGroup_30 : decode b_D_netsInGroup 30 = .ok (.ishl, 1) := by decide +kernel
theorem d_D_netsInGroup_31 : decode b_D_netsInGroup 31 = .ok (.ior, 1) := by decide +kernel
theorem d_D_netsInGroup_32 : decode b_D_netsInGroup 32 = .ok (.istore_n 2, 1) := by decide +kernel
theorem d_D_netsInGroup_33 : decode b_D_netsInGroup 33 = .ok (.iinc 3 1, 3) := by decide +kernel
theorem d_D_netsInGroup_36 : decode b_D_netsInGroup 36 = .ok (.goto (-32), 3) := by decide +kernel
theorem d_D_netsInGroup_39 : decode b_D_netsInGroup 39 = .ok (.iload_n 2, 1) := by decide +kernel
theorem d_D_netsInGroup_40 : decode b_D_netsInGroup 40 = .ok (.ireturn, 1) := by decide +kernel
theorem d_S_init_0 : decode b_S_init 0 = .ok (.aload_n 0, 1) := by decide +kernel
theorem d_S_init_1 : decode b_S_init 1 = .ok (.invokespecial 3, 3) := by decide +kernel
theorem d_S_init_4 : decode b_S_init 4 = .ok (.aload_n 0, 1) := by decide +kernel
theorem d_S_init_5 : decode b_S_init 5 = .ok (.iconst 4, 1) := by decide +kernel
theorem d_S_init_6 : decode b_S_init 6 = .ok (.newarray .double, 2) := by decide +kernel
theorem d_S_init_8 : decode b_S_init 8 = .ok (.putfield 9, 3) := by decide +kernel
theorem d_S_init_11 : decode b_S_init 11 = .ok (.aload_n 0, 1) := by decide +kernel
theorem d_S_init_12 : decode b_S_init 12 = .ok (.bipush 12, 2) := by decide +kernel
theorem d_S_init_14 : decode b_S_init 14 = .ok (.newarray .double, 2) := by decide +kernel
theorem d_S_init_16 : decode b_S_init 16 = .ok (.putfield 15, 3) := by decide +kernel
theorem d_S_init_19 : decode b_S_init 19 = .ok (.aload_n 0, 1) := by decide +kernel
theorem d_S_init_20 : decode b_S_init 20 = .ok (.bipush 12, 2) := by decide +kernel
theorem d_S_init_22 : decode b_S_init 22 = .ok (.newarray .int, 2) := by decide +kernel
theorem d_S_init_24 : decode b_S_init 24 = .ok (.putfield 18, 3) := by decide +kernel
theorem d_S_init_27 : decode b_S_init 27 = .ok (.aload_n 0, 1) := by decide +kernel
theorem d_S_init_28 : decode b_S_init 28 = .ok (.aload_n 1, 1) := by decide +kernel
theorem d_S_init_29 : decode b_S_init 29 = .ok (.putfield 22, 3) := by decide +kernel
theorem d_S_init_32 : decode b_S_init 32 = .ok (.aload_n 0, 1) := by decide +kernel
theorem d_S_init_33 : decode b_S_init 33 = .ok (.aload_n 2, 1) := by decide +kernel
theorem d_S_init_34 : decode b_S_init 34 = .ok (.putfield 26, 3) := by decide +kernel
theorem d_S_init_37 : decode b_S_init 37 = .ok (.iconst 0, 1) := by decide +kernel
theorem d_S_init_38 : decode b_S_init 38 = .ok (.istore_n 3, 1) := by decide +kernel
theorem d_S_init_39 : decode b_S_init 39 = .ok (.iload_n 3, 1) := by decide +kernel
theorem d_S_init_40 : decode b_S_init 40 = .ok (.iconst 4, 1) := by decide +kernel
theorem d_S_init_41 : decode b_S_init 41 = .ok (.if_icmp .ge 16, 3) := by decide +kernel
theorem d_S_init_44 : decode b_S_init 44 = .ok (.aload_n 0, 1) := by decide +kernel
theorem d_S_init_45 : decode b_S_init 45 = .ok (.getfield 9, 3) := by decide +kernel
theorem d_S_init_48 : decode b_S_init 48 = .ok (.iload_n 3, 1) := by decide +kernel
theorem d_S_init_49 : decode b_S_init 49 = .ok (.dconst 1, 1) := by decide +kernel
theorem d_S_init_50 : decode b_S_init 50 = .ok (.dastore, 1) := by decide +kernel
theorem d_S_init_51 : decode b_S_init 51 = .ok (.iinc 3 1, 3) := by decide +kernel
theorem d_S_init_54 : decode b_S_init 54 = .ok (.goto (-15), 3) := by decide +kernel
theorem d_S_init_57 : decode b_S_init 57 = .ok (.return_, 1) := by decide +kernel
theorem d_S_orderGates_0 : decode b_S_orderGates 0 = .ok (.aload_n 0, 1) := by decide +kernel
theorem d_S_orderGates_1 : decode b_S_orderGates 1 = .ok (.iconst 0, 1) := by decide +kernel
theorem d_S_orderGates_2 : decode b_S_orderGates 2 = .ok (.putfield 30, 3) := by decide +kernel
theorem d_S_orderGates_5 : decode b_S_orderGates 5 = .ok (.aload_n 0, 1) := by decide +kernel
theorem d_S_orderGates_6 : decode b_S_orderGates 6 = .ok (.iconst 0, 1) := by decide +kernel
theorem d_S_orderGates_7 : decode b_S_orderGates 7 = .ok (.putfield 34, 3) := by decide +kernel
theorem d_S_orderGates_10 : decode b_S_orderGates 10 = .ok (.iconst 0, 1) := by decide +kernel
theorem d_S_orderGates_11 : decode b_S_orderGates 11 = .ok (.istore_n 1, 1) := by decide +kernel
theorem d_S_orderGates_12 : decode b_S_orderGates 12 = .ok (.iload_n 1, 1) := by decide +kernel
theorem d_S_orderGates_13 : decode b_S_orderGates 13 = .ok (.bipush 12, 2) := by decide +kernel
theorem d_S_orderGates_15 : decode b_S_orderGates 15 = .ok (.if_icmp .ge 32, 3) := by decide +kernel
theorem d_S_orderGates_18 : decode b_S_orderGates 18 = .ok (.aload_n 0, 1) := by decide +kernel
theorem d_S_orderGates_19 : decode b_S_orderGates 19 = .ok (.getfield 22, 3) := by decide +kernel
theorem d_S_orderGates_22 : decode b_S_orderGates 22 = .ok (.iload_n 1, 1) := by decide +kernel
theorem d_S_orderGates_23 : decode b_S_orderGates 23 = .ok (.invokevirtual 37, 3) := by decide +kernel
theorem d_S_orderGates_26 : decode b_S_orderGates 26 = .ok (.ifCond .ne 15, 3) := by decide +kernel
theorem d_S_orderGates_29 : decode b_S_orderGates 29 = .ok (.aload_n 0, 1) := by decide +kernel
theorem d_S_orderGates_30 : decode b_S_orderGates 30 = .ok (.dup, 1) := by decide +kernel
theorem d_S_orderGates_31 : decode b_S_orderGates 31 = .ok (.getfield 34, 3) := by decide +kernel
theorem d_S_orderGates_34 : decode b_S_orderGates 34 = .ok (.iconst 1, 1) := by decide +kernel
theorem d_S_orderGates_35 : decode b_S_orderGates 35 = .ok (.iload_n 1, 1) := by decide +kernel
theorem d_S_orderGates_36 : decode b_S_orderGates 36 = .ok (.ishl, 1) := by decide +kernel
theorem d_S_orderGates_37 : decode b_S_orderGates 37 = .ok (.ior, 1) := by decide +kernel
theorem d_S_orderGates_38 : decode b_S_orderGates 38 = .ok (.putfield 34, 3) := by decide +kernel
theorem d_S_orderGates_41 : decode b_S_orderGates 41 = .ok (.iinc 1 1, 3) := by decide +kernel
theorem d_S_orderGates_44 : decode b_S_orderGates 44 = .ok (.goto (-32), 3) := by decide +kernel
theorem d_S_orderGates_47 : decode b_S_orderGates 47 = .ok (.iconst 0, 1) := by decide +kernel
theorem d_S_orderGates_48 : decode b_S_orderGates 48 = .ok (.istore_n 1, 1) := by decide +kernel
theorem d_S_orderGates_49 : decode b_S_orderGates 49 = .ok (.iload_n 1, 1) := by decide +kernel
theorem d_S_orderGates_50 : decode b_S_orderGates 50 = .ok (.aload_n 0, 1) := by decide +kernel
theorem d_S_orderGates_51 : decode b_S_orderGates 51 = .ok (.getfield 22, 3) := by decide +kernel
theorem d_S_orderGates_54 : decode b_S_orderGates 54 = .ok (.getfield 43, 3) := by decide +kernel
theorem d_S_orderGates_57 : decode b_S_orderGates 57 = .ok (.if_icmp .ge 76, 3) := by decide +kernel
theorem d_S_orderGates_60 : decode b_S_orderGates 60 = .ok (.iconst 0, 1) := by decide +kernel
theorem d_S_orderGates_61 : decode b_S_orderGates 61 = .ok (.istore_n 2, 1) := by decide +kernel
theorem d_S_orderGates_62 : decode b_S_orderGates 62 = .ok (.iload_n 2, 1) := by decide +kernel
theorem d_S_orderGates_63 : decode b_S_orderGates 63 = .ok (.aload_n 0, 1) := by decide +kernel
theorem d_S_orderGates_64 : decode b_S_orderGates 64 = .ok (.getfield 22, 3) := by decide +kernel
theorem d_S_orderGates_67 : decode b_S_orderGates 67 = .ok (.getfield 43, 3) := by decide +kernel
theorem d_S_orderGates_70 : decode b_S_orderGates 70 = .ok (.if_icmp .ge 57, 3) := by decide +kernel
theorem d_S_orderGates_73 : decode b_S_orderGates 73 = .ok (.aload_n 0, 1) := by decide +kernel
theorem d_S_orderGates_74 : decode b_S_orderGates 74 = .ok (.iload_n 2, 1) := by decide +kernel
theorem d_S_orderGates_75 : decode b_S_orderGates 75 = .ok (.invokevirtual 46, 3) := by decide +kernel
theorem d_S_orderGates_78 : decode b_S_orderGates 78 = .ok (.ifCond .eq 43, 3) := by decide +kernel
theorem d_S_orderGates_81 : decode b_S_orderGates 81 = .ok (.aload_n 0, 1) := by decide +kernel
theorem d_S_orderGates_82 : decode b_S_orderGates 82 = .ok (.getfield 18, 3) := by decide +kernel
theorem d_S_orderGates_85 : decode b_S_orderGates 85 = .ok (.aload_n 0, 1) := by decide +kernel
theorem d_S_orderGates_86 : decode b_S_orderGates 86 = .ok (.getfield 30, 3) := by decide +kernel
theorem d_S_orderGates_89 : decode b_S_orderGates 89 = .ok (.iload_n 2, 1) := by decide +kernel
theorem d_S_orderGates_90 : decode b_S_orderGates 90 = .ok (.iastore, 1) := by decide +kernel
theorem d_S_orderGates_91 : decode b_S_orderGates 91 = .ok (.aload_n 0, 1) := by decide +kernel
theorem d_S_orderGates_92 : decode b_S_orderGates 92 = .ok (.dup, 1) := by decide +kernel
theorem d_S_orderGates_93 : decode b_S_orderGates 93 = .ok (.getfield 30, 3) := by decide +kernel
theorem d_S_orderGates_96 : decode b_S_orderGates 96 = .ok (.iconst 1, 1) := by decide +kernel
theorem d_S_orderGates_97 : decode b_S_orderGates 97 = .ok (.iadd, 1) := by decide +kernel
theorem d_S_orderGates_98 : decode b_S_orderGates 98 = .ok (.putfield 30, 3) := by decide +kernel
theorem d_S_orderGates_101 : decode b_S_orderGates 101 = .ok (.aload_n 0, 1) := by decide +kernel
theorem d_S_orderGates_102 : decode b_S_orderGates 102 = .ok (.dup, 1) := by decide +kernel
theorem d_S_orderGates_103 : decode b_S_orderGates 103 = .ok (.getfield 34, 3) := by decide +kernel
theorem d_S_orderGates_106 : decode b_S_orderGates 106 = .ok (.iconst 1, 1) := by decide +kernel
theorem d_S_orderGates_107 : decode b_S_orderGates 107 = .ok (.aload_n 0, 1) := by decide +kernel
theorem d_S_orderGates_108 : decode b_S_orderGates 108 = .ok (.getfield 22, 3) := by decide +kernel
theorem d_S_orderGates_111 : decode b_S_orderGates 111 = .ok (.getfield 49, 3) := by decide +kernel
theorem d_S_orderGates_114 : decode b_S_orderGates 114 = .ok (.iload_n 2, 1) := by decide +kernel
theorem d_S_orderGates_115 : decode b_S_orderGates 115 = .ok (.iaload, 1) := by decide +kernel
theorem d_S_orderGates_116 : decode b_S_orderGates 116 = .ok (.ishl, 1) := by decide +kernel
theorem d_S_orderGates_117 : decode b_S_orderGates 117 = .ok (.ior, 1) := by decide +kernel
theorem d_S_orderGates_118 : decode b_S_orderGates 118 = .ok (.putfield 34, 3) := by decide +kernel
theorem d_S_orderGates_121 : decode b_S_orderGates 121 = .ok (.iinc 2 1, 3) := by decide +kernel
theorem d_S_orderGates_124 : decode b_S_orderGates 124 = .ok (.goto (-62), 3) := by decide +kernel
theorem d_S_orderGates_127 : decode b_S_orderGates 127 = .ok (.iinc 1 1, 3) := by decide +kernel
theorem d_S_orderGates_130 : decode b_S_orderGates 130 = .ok (.goto (-81), 3) := by decide +kernel
theorem d_S_orderGates_133 : decode b_S_orderGates 133 = .ok (.return_, 1) := by decide +kernel
theorem d_S_isReady_0 : decode b_S_isReady 0 = .ok (.aload_n 0, 1) := by decide +kernel
theorem d_S_isReady_1 : decode b_S_isReady 1 = .ok (.aload_n 0, 1) := by decide +kernel
theorem d_S_isReady_2 : decode b_S_isReady 2 = .ok (.getfield 22, 3) := by decide +kernel
theorem d_S_isReady_5 : decode b_S_isReady 5 = .ok (.getfield 49, 3) := by decide +kernel
theorem d_S_isReady_8 : decode b_S_isReady 8 = .ok (.iload_n 1, 1) := by decide +kernel
theorem d_S_isReady_9 : decode b_S_isReady 9 = .ok (.iaload, 1) := by decide +kernel
theorem d_S_isReady_10 : decode b_S_isReady 10 = .ok (.invokevirtual 52, 3) := by decide +kernel
theorem d_S_isReady_13 : decode b_S_isReady 13 = .ok (.ifCond .ne 39, 3) := by decide +kernel
theorem d_S_isReady_16 : decode b_S_isReady 16 = .ok (.aload_n 0, 1) := by decide +kernel
theorem d_S_isReady_17 : decode b_S_isReady 17 = .ok (.aload_n 0, 1) := by decide +kernel
theorem d_S_isReady_18 : decode b_S_isReady 18 = .ok (.getfield 22, 3) := by decide +kernel
theorem d_S_isReady_21 : decode b_S_isReady 21 = .ok (.getfield 55, 3) := by decide +kernel
theorem d_S_isReady_24 : decode b_S_isReady 24 = .ok (.iload_n 1, 1) := by decide +kernel
theorem d_S_isReady_25 : decode b_S_isReady 25 = .ok (.iaload, 1) := by decide +kernel
theorem d_S_isReady_26 : decode b_S_isReady 26 = .ok (.invokevirtual 52, 3) := by decide +kernel
theorem d_S_isReady_29 : decode b_S_isReady 29 = .ok (.ifCond .eq 23, 3) := by decide +kernel
theorem d_S_isReady_32 : decode b_S_isReady 32 = .ok (.aload_n 0, 1) := by decide +kernel
theorem d_S_isReady_33 : decode b_S_isReady 33 = .ok (.aload_n 0, 1) := by decide +kernel
theorem d_S_isReady_34 : decode b_S_isReady 34 = .ok (.getfield 22, 3) := by decide +kernel
theorem d_S_isReady_37 : decode b_S_isReady 37 = .ok (.getfield 58, 3) := by decide +kernel
theorem d_S_isReady_40 : decode b_S_isReady 40 = .ok (.iload_n 1, 1) := by decide +kernel
theorem d_S_isReady_41 : decode b_S_isReady 41 = .ok (.iaload, 1) := by decide +kernel
theorem d_S_isReady_42 : decode b_S_isReady 42 = .ok (.invokevirtual 52, 3) := by decide +kernel
theorem d_S_isReady_45 : decode b_S_isReady 45 = .ok (.ifCond .eq 7, 3) := by decide +kernel
theorem d_S_isReady_48 : decode b_S_isReady 48 = .ok (.iconst 1, 1) := by decide +kernel
theorem d_S_isReady_49 : decode b_S_isReady 49 = .ok (.goto 4, 3) := by decide +kernel
theorem d_S_isReady_52 : decode b_S_isReady 52 = .ok (.iconst 0, 1) := by decide +kernel
theorem d_S_isReady_53 : decode b_S_isReady 53 = .ok (.ireturn, 1) := by decide +kernel
theorem d_S_isSettled_0 : decode b_S_isSettled 0 = .ok (.aload_n 0, 1) := by decide +kernel
theorem d_S_isSettled_1 : decode b_S_isSettled 1 = .ok (.getfield 34, 3) := by decide +kernel
theorem d_S_isSettled_4 : decode b_S_isSettled 4 = .ok (.iload_n 1, 1) := by decide +kernel
theorem d_S_isSettled_5 : decode b_S_isSettled 5 = .ok (.invokestatic 61, 3) := by decide +kernel
theorem d_S_isSettled_8 : decode b_S_isSettled 8 = .ok (.iconst 1, 1) := by decide +kernel
theorem d_S_isSettled_9 : decode b_S_isSettled 9 = .ok (.if_icmp .ne 7, 3) := by decide +kernel
theorem d_S_isSettled_12 : decode b_S_isSettled 12 = .ok (.iconst 1, 1) := by decide +kernel
theorem d_S_isSettled_13 : decode b_S_isSettled 13 = .ok (.goto 4, 3) := by decide +kernel
theorem d_S_isSettled_16 : decode b_S_isSettled 16 = .ok (.iconst 0, 1) := by decide +kernel
theorem d_S_isSettled_17 : decode b_S_isSettled 17 = .ok (.ireturn, 1) := by decide +kernel
theorem d_S_allSettled_0 : decode b_S_allSettled 0 = .ok (.aload_n 0, 1) := by decide +kernel
theorem d_S_allSettled_1 : decode b_S_allSettled 1 = .ok (.getfield 30, 3) := by decide +kernel
theorem d_S_allSettled_4 : decode b_S_allSettled 4 = .ok (.aload_n 0, 1) := by decide +kernel
theorem d_S_allSettled_5 : decode b_S_allSettled 5 = .ok (.getfield 22, 3) := by decide +kernel
theorem d_S_allSettled_8 : decode b_S_allSettled 8 = .ok (.getfield 43, 3) := by decide +kernel
theorem d_S_allSettled_11 : decode b_S_allSettled 11 = .ok (.if_icmp .ne 7, 3) := by decide +kernel
theorem d_S_allSettled_14 : decode b_S_allSettled 14 = .ok (.iconst 1, 1) := by decide +kernel
theorem d_S_allSettled_15 : decode b_S_allSettled 15 = .ok (.goto 4, 3) := by decide +kernel
theorem d_S_allSettled_18 : decode b_S_allSettled 18 = .ok (.iconst 0, 1) := by decide +kernel
theorem d_S_allSettled_19 : decode b_S_allSettled 19 = .ok (.ireturn, 1) := by decide +kernel
theorem d_S_arrivalAt_0 : decode b_S_arrivalAt 0 = .ok (.iconst 0, 1) := by decide +kernel
theorem d_S_arrivalAt_1 : decode b_S_arrivalAt 1 = .ok (.istore_n 2, 1) := by decide +kernel
theorem d_S_arrivalAt_2 : decode b_S_arrivalAt 2 = .ok (.iload_n 2, 1) := by decide +kernel
theorem d_S_arrivalAt_3 : decode b_S_arrivalAt 3 = .ok (.bipush 12, 2) := by decide +kernel
theorem d_S_arrivalAt_5 : decode b_S_arrivalAt 5 = .ok (.if_icmp .ge 16, 3) := by decide +kernel
theorem d_S_arrivalAt_8 : decode b_S_arrivalAt 8 = .ok (.aload_n 0, 1) := by decide +kernel
theorem d_S_arrivalAt_9 : decode b_S_arrivalAt 9 = .ok (.getfield 15, 3) := by decide +kernel
theorem d_S_arrivalAt_12 : decode b_S_arrivalAt 12 = .ok (.iload_n 2, 1) := by decide +kernel
theorem d_S_arrivalAt_13 : decode b_S_arrivalAt 13 = .ok (.dconst 0, 1) := by decide +kernel
theorem d_S_arrivalAt_14 : decode b_S_arrivalAt 14 = .ok (.dastore, 1) := by decide +kernel
theorem d_S_arrivalAt_15 : decode b_S_arrivalAt 15 = .ok (.iinc 2 1, 3) := by decide +kernel
theorem d_S_arrivalAt_18 : decode b_S_arrivalAt 18 = .ok (.goto (-16), 3) := by decide +kernel
theorem d_S_arrivalAt_21 : decode b_S_arrivalAt 21 = .ok (.iconst 0, 1) := by decide +kernel
theorem d_S_arrivalAt_22 : decode b_S_arrivalAt 22 = .ok (.istore_n 2, 1) := by decide +kernel
theorem d_S_arrivalAt_23 : decode b_S_arrivalAt 23 = .ok (.iload_n 2, 1) := by decide +kernel
theorem d_S_arrivalAt_24 : decode b_S_arrivalAt 24 = .ok (.aload_n 0, 1) := by decide +kernel
theorem d_S_arrivalAt_25 : decode b_S_arrivalAt 25 = .ok (.getfield 30, 3) := by decide +kernel
theorem d_S_arrivalAt_28 : decode b_S_arrivalAt 28 = .ok (.if_icmp .ge 94, 3) := by decide +kernel
theorem d_S_arrivalAt_31 : decode b_S_arrivalAt 31 = .ok (.aload_n 0, 1) := by decide +kernel
theorem d_S_arrivalAt_32 : decode b_S_arrivalAt 32 = .ok (.getfield 18, 3) := by decide +kernel
theorem d_S_arrivalAt_35 : decode b_S_arrivalAt 35 = .ok (.iload_n 2, 1) := by decide +kernel
theorem d_S_arrivalAt_36 : decode b_S_arrivalAt 36 = .ok (.iaload, 1) := by decide +kernel
theorem d_S_arrivalAt_37 : decode b_S_arrivalAt 37 = .ok (.istore_n 3, 1) := by decide +kernel
theorem d_S_arrivalAt_38 : decode b_S_arrivalAt 38 = .ok (.aload_n 0, 1) := by decide +kernel
theorem d_S_arrivalAt_39 : decode b_S_arrivalAt 39 = .ok (.aload_n 0, 1) := by decide +kernel
theorem d_S_arrivalAt_40 : decode b_S_arrivalAt 40 = .ok (.getfield 22, 3) := by decide +kernel
theorem d_S_arrivalAt_43 : decode b_S_arrivalAt 43 = .ok (.getfield 55, 3) := by decide +kernel
theorem d_S_arrivalAt_46 : decode b_S_arrivalAt 46 = .ok (.iload_n 3, 1) := by decide +kernel
theorem d_S_arrivalAt_47 : decode b_S_arrivalAt 47 = .ok (.iaload, 1) := by decide +kernel
theorem d_S_arrivalAt_48 : decode b_S_arrivalAt 48 = .ok (.invokevirtual 65, 3) := by decide +kernel
theorem d_S_arrivalAt_51 : decode b_S_arrivalAt 51 = .ok (.dstore 4, 2) := by decide +kernel
theorem d_S_arrivalAt_53 : decode b_S_arrivalAt 53 = .ok (.aload_n 0, 1) := by decide +kernel
theorem d_S_arrivalAt_54 : decode b_S_arrivalAt 54 = .ok (.aload_n 0, 1) := by decide +kernel
theorem d_S_arrivalAt_55 : decode b_S_arrivalAt 55 = .ok (.getfield 22, 3) := by decide +kernel
theorem d_S_arrivalAt_58 : decode b_S_arrivalAt 58 = .ok (.getfield 58, 3) := by decide +kernel
theorem d_S_arrivalAt_61 : decode b_S_arrivalAt 61 = .ok (.iload_n 3, 1) := by decide +kernel
theorem d_S_arrivalAt_62 : decode b_S_arrivalAt 62 = .ok (.iaload, 1) := by decide +kernel
theorem d_S_arrivalAt_63 : decode b_S_arrivalAt 63 = .ok (.invokevirtual 65, 3) := by decide +kernel
theorem d_S_arrivalAt_66 : decode b_S_arrivalAt 66 = .ok (.dstore 6, 2) := by decide +kernel
theorem d_S_arrivalAt_68 : decode b_S_arrivalAt 68 = .ok (.dload 6, 2) := by decide +kernel
theorem d_S_arrivalAt_70 : decode b_S_arrivalAt 70 = .ok (.dload 4, 2) := by decide +kernel
theorem d_S_arrivalAt_72 : decode b_S_arrivalAt 72 = .ok (.dcmp .l, 1) := by decide +kernel
theorem d_S_arrivalAt_73 : decode b_S_arrivalAt 73 = .ok (.ifCond .le 8, 3) := by decide +kernel
theorem d_S_arrivalAt_76 : decode b_S_arrivalAt 76 = .ok (.dload 6, 2) := by decide +kernel
theorem d_S_arrivalAt_78 : decode b_S_arrivalAt 78 = .ok (.goto 5, 3) := by decide +kernel
theorem d_S_arrivalAt_81 : decode b_S_arrivalAt 81 = .ok (.dload 4, 2) := by decide +kernel
theorem d_S_arrivalAt_83 : decode b_S_arrivalAt 83 = .ok (.dstore 8, 2) := by decide +kernel
theorem d_S_arrivalAt_85 : decode b_S_arrivalAt 85 = .ok (.aload_n 0, 1) := by decide +kernel
theorem d_S_arrivalAt_86 : decode b_S_arrivalAt 86 = .ok (.getfield 15, 3) := by decide +kernel
theorem d_S_arrivalAt_89 : decode b_S_arrivalAt 89 = .ok (.aload_n 0, 1) := by decide +kernel
theorem d_S_arrivalAt_90 : decode b_S_arrivalAt 90 = .ok (.getfield 22, 3) := by decide +kernel
theorem d_S_arrivalAt_93 : decode b_S_arrivalAt 93 = .ok (.getfield 49, 3) := by decide +kernel
theorem d_S_arrivalAt_96 : decode b_S_arrivalAt 96 = .ok (.iload_n 3, 1) := by decide +kernel
theorem d_S_arrivalAt_97 : decode b_S_arrivalAt 97 = .ok (.iaload, 1) := by decide +kernel
theorem d_S_arrivalAt_98 : decode b_S_arrivalAt 98 = .ok (.dload 8, 2) := by decide +kernel
theorem d_S_arrivalAt_100 : decode b_S_arrivalAt 100 = .ok (.aload_n 0, 1) := by decide +kernel
theorem d_S_arrivalAt_101 : decode b_S_arrivalAt 101 = .ok (.getfield 9, 3) := by decide +kernel
theorem d_S_arrivalAt_104 : decode b_S_arrivalAt 104 = .ok (.aload_n 0, 1) := by decide +kernel
theorem d_S_arrivalAt_105 : decode b_S_arrivalAt 105 = .ok (.getfield 22, 3) := by decide +kernel
theorem d_S_arrivalAt_108 : decode b_S_arrivalAt 108 = .ok (.getfield 69, 3) := by decide +kernel
theorem d_S_arrivalAt_111 : decode b_S_arrivalAt 111 = .ok (.iload_n 3, 1) := by decide +kernel
theorem d_S_arrivalAt_112 : decode b_S_arrivalAt 112 = .ok (.iaload, 1) := by decide +kernel
theorem d_S_arrivalAt_113 : decode b_S_arrivalAt 113 = .ok (.daload, 1) := by decide +kernel
theorem d_S_arrivalAt_114 : decode b_S_arrivalAt 114 = .ok (.dadd, 1) := by decide +kernel
theorem d_S_arrivalAt_115 : decode b_S_arrivalAt 115 = .ok (.dastore, 1) := by decide +kernel
theorem d_S_arrivalAt_116 : decode b_S_arrivalAt 116 = .ok (.iinc 2 1, 3) := by decide +kernel
theorem d_S_arrivalAt_119 : decode b_S_arrivalAt 119 = .ok (.goto (-96), 3) := by decide +kernel
theorem d_S_arrivalAt_122 : decode b_S_arrivalAt 122 = .ok (.aload_n 0, 1) := by decide +kernel
theorem d_S_arrivalAt_123 : decode b_S_arrivalAt 123 = .ok (.getfield 15, 3) := by decide +kernel
theorem d_S_arrivalAt_126 : decode b_S_arrivalAt 126 = .ok (.iload_n 1, 1) := by decide +kernel
theorem d_S_arrivalAt_127 : decode b_S_arrivalAt 127 = .ok (.daload, 1) := by decide +kernel
theorem d_S_arrivalAt_128 : decode b_S_arrivalAt 128 = .ok (.dreturn, 1) := by decide +kernel
theorem d_S_arrivalBehind_0 : decode b_S_arrivalBehind 0 = .ok (.aload_n 0, 1) := by decide +kernel
theorem d_S_arrivalBehind_1 : decode b_S_arrivalBehind 1 = .ok (.getfield 15, 3) := by decide +kernel
theorem d_S_arrivalBehind_4 : decode b_S_arrivalBehind 4 = .ok (.iload_n 1, 1) := by decide +kernel
theorem d_S_arrivalBehind_5 : decode b_S_arrivalBehind 5 = .ok (.daload, 1) := by decide +kernel
theorem d_S_arrivalBehind_6 : decode b_S_arrivalBehind 6 = .ok (.aload_n 0, 1) := by decide +kernel
theorem d_S_arrivalBehind_7 : decode b_S_arrivalBehind 7 = .ok (.getfield 26, 3) := by decide +kernel
theorem d_S_arrivalBehind_10 : decode b_S_arrivalBehind 10 = .ok (.iload_n 1, 1) := by decide +kernel
theorem d_S_arrivalBehind_11 : decode b_S_arrivalBehind 11 = .ok (.invokevirtual 72, 3) := by decide +kernel
theorem d_S_arrivalBehind_14 : decode b_S_arrivalBehind 14 = .ok (.dadd, 1) := by decide +kernel
theorem d_S_arrivalBehind_15 : decode b_S_arrivalBehind 15 = .ok (.dreturn, 1) := by decide +kernel
theorem d_S_levels_0 : decode b_S_levels 0 = .ok (.iconst 0, 1) := by decide +kernel
theorem d_S_levels_1 : decode b_S_levels 1 = .ok (.istore_n 2, 1) := by decide +kernel
theorem d_S_levels_2 : decode b_S_levels 2 = .ok (.iconst 0, 1) := by decide +kernel
theorem d_S_levels_3 : decode b_S_levels 3 = .ok (.istore_n 3, 1) := by decide +kernel
theorem d_S_levels_4 : decode b_S_levels 4 = .ok (.iload_n 3, 1) := by decide +kernel
theorem d_S_levels_5 : decode b_S_levels 5 = .ok (.bipush 12, 2) := by decide +kernel
theorem d_S_levels_7 : decode b_S_levels 7 = .ok (.if_icmp .ge 30, 3) := by decide +kernel
theorem d_S_levels_10 : decode b_S_levels 10 = .ok (.aload_n 0, 1) := by decide +kernel
theorem d_S_levels_11 : decode b_S_levels 11 = .ok (.getfield 22, 3) := by decide +kernel
theorem d_S_levels_14 : decode b_S_levels 14 = .ok (.iload_n 3, 1) := by decide +kernel
theorem d_S_levels_15 : decode b_S_levels 15 = .ok (.invokevirtual 37, 3) := by decide +kernel
theorem d_S_levels_18 : decode b_S_levels 18 = .ok (.ifCond .ne 13, 3) := by decide +kernel
theorem d_S_levels_21 : decode b_S_levels 21 = .ok (.iload_n 2, 1) := by decide +kernel
theorem d_S_levels_22 : decode b_S_levels 22 = .ok (.iload_n 1, 1) := by decide +kernel
theorem d_S_levels_23 : decode b_S_levels 23 = .ok (.iload_n 3, 1) := by decide +kernel
theorem d_S_levels_24 : decode b_S_levels 24 = .ok (.invokestatic 61, 3) := by decide +kernel
theorem d_S_levels_27 : decode b_S_levels 27 = .ok (.iload_n 3, 1) := by decide +kernel
theorem d_S_levels_28 : decode b_S_levels 28 = .ok (.ishl, 1) := by decide +kernel
theorem d_S_levels_29 : decode b_S_levels 29 = .ok (.ior, 1) := by decide +kernel
theorem d_S_levels_30 : decode b_S_levels 30 = .ok (.istore_n 2, 1) := by decide +kernel
theorem d_S_levels_31 : decode b_S_levels 31 = .ok (.iinc 3 1, 3) := by decide +kernel
theorem d_S_levels_34 : decode b_S_levels 34 = .ok (.goto (-30), 3) := by decide +kernel
theorem d_S_levels_37 : decode b_S_levels 37 = .ok (.iconst 0, 1) := by decide +kernel
theorem d_S_levels_38 : decode b_S_levels 38 = .ok (.istore_n 3, 1) := by decide +kernel
theorem d_S_levels_39 : decode b_S_levels 39 = .ok (.iload_n 3, 1) := by decide +kernel
theorem d_S_levels_40 : decode b_S_levels 40 = .ok (.aload_n 0, 1) := by decide +kernel
theorem d_S_levels_41 : decode b_S_levels 41 = .ok (.getfield 30, 3) := by decide +kernel
theorem d_S_levels_44 : decode b_S_levels 44 = .ok (.if_icmp .ge 80, 3) := by decide +kernel
theorem d_S_levels_47 : decode b_S_levels 47 = .ok (.aload_n 0, 1) := by decide +kernel
theorem d_S_levels_48 : decode b_S_levels 48 = .ok (.getfield 18, 3) := by decide +kernel
theorem d_S_levels_51 : decode b_S_levels 51 = .ok (.iload_n 3, 1) := by decide +kernel
theorem d_S_levels_52 : decode b_S_levels 52 = .ok (.iaload, 1) := by decide +kernel
theorem d_S_levels_53 : decode b_S_levels 53 = .ok (.istore 4, 2) := by decide +kernel
theorem d_S_levels_55 : decode b_S_levels 55 = .ok (.iload_n 2, 1) := by decide +kernel
theorem d_S_levels_56 : decode b_S_levels 56 = .ok (.aload_n 0, 1) := by decide +kernel
theorem d_S_levels_57 : decode b_S_levels 57 = .ok (.getfield 22, 3) := by decide +kernel
theorem d_S_levels_60 : decode b_S_levels 60 = .ok (.getfield 55, 3) := by decide +kernel
theorem d_S_levels_63 : decode b_S_levels 63 = .ok (.iload 4, 2) := by decide +kernel
theorem d_S_levels_65 : decode b_S_levels 65 = .ok (.iaload, 1) := by decide +kernel
theorem d_S_levels_66 : decode b_S_levels 66 = .ok (.invokestatic 61, 3) := by decide +kernel
theorem d_S_levels_69 : decode b_S_levels 69 = .ok (.istore 5, 2) := by decide +kernel
theorem d_S_levels_71 : decode b_S_levels 71 = .ok (.iload_n 2, 1) := by decide +kernel
theorem d_S_levels_72 : decode b_S_levels 72 = .ok (.aload_n 0, 1) := by decide +kernel
theorem d_S_levels_73 : decode b_S_levels 73 = .ok (.getfield 22, 3) := by decide +kernel
theorem d_S_levels_76 : decode b_S_levels 76 = .ok (.getfield 58, 3) := by decide +kernel
theorem d_S_levels_79 : decode b_S_levels 79 = .ok (.iload 4, 2) := by decide +kernel
theorem d_S_levels_81 : decode b_S_levels 81 = .ok (.iaload, 1) := by decide +kernel
theorem d_S_levels_82 : decode b_S_levels 82 = .ok (.invokestatic 61, 3) := by decide +kernel
theorem d_S_levels_85 : decode b_S_levels 85 = .ok (.istore 6, 2) := by decide +kernel
theorem d_S_levels_87 : decode b_S_levels 87 = .ok (.iload_n 2, 1) := by decide +kernel
theorem d_S_levels_88 : decode b_S_levels 88 = .ok (.aload_n 0, 1) := by decide +kernel
theorem d_S_levels_89 : decode b_S_levels 89 = .ok (.getfield 22, 3) := by decide +kernel
theorem d_S_levels_92 : decode b_S_levels 92 = .ok (.getfield 69, 3) := by decide +kernel
theorem d_S_levels_95 : decode b_S_levels 95 = .ok (.iload 4, 2) := by decide +kernel
theorem d_S_levels_97 : decode b_S_levels 97 = .ok (.iaload, 1) := by decide +kernel
theorem d_S_levels_98 : decode b_S_levels 98 = .ok (.iload 5, 2) := by decide +kernel
theorem d_S_levels_100 : decode b_S_levels 100 = .ok (.iload 6, 2) := by decide +kernel
theorem d_S_levels_102 : decode b_S_levels 102 = .ok (.invokestatic 77, 3) := by decide +kernel
theorem d_S_levels_105 : decode b_S_levels 105 = .ok (.aload_n 0, 1) := by decide +kernel
theorem d_S_levels_106 : decode b_S_levels 106 = .ok (.getfield 22, 3) := by decide +kernel
theorem d_S_levels_109 : decode b_S_levels 109 = .ok (.getfield 49, 3) := by decide +kernel
theorem d_S_levels_112 : decode b_S_levels 112 = .ok (.iload 4, 2) := by decide +kernel
theorem d_S_levels_114 : decode b_S_levels 114 = .ok (.iaload, 1) := by decide +kernel
theorem d_S_levels_115 : decode b_S_levels 115 = .ok (.ishl, 1) := by decide +kernel
theorem d_S_levels_116 : decode b_S_levels 116 = .ok (.ior, 1) := by decide +kernel
theorem d_S_levels_117 : decode b_S_levels 117 = .ok (.istore_n 2, 1) := by decide +kernel
theorem d_S_levels_118 : decode b_S_levels 118 = .ok (.iinc 3 1, 3) := by decide +kernel
theorem d_S_levels_121 : decode b_S_levels 121 = .ok (.goto (-82), 3) := by decide +kernel
theorem d_S_levels_124 : decode b_S_levels 124 = .ok (.iload_n 2, 1) := by decide +kernel
theorem d_S_levels_125 : decode b_S_levels 125 = .ok (.ireturn, 1) := by decide +kernel
theorem d_S_bit_0 : decode b_S_bit 0 = .ok (.iload_n 0, 1) := by decide +kernel
theorem d_S_bit_1 : decode b_S_bit 1 = .ok (.iload_n 1, 1) := by decide +kernel
theorem d_S_bit_2 : decode b_S_bit 2 = .ok (.ishr, 1) := by decide +kernel
theorem d_S_bit_3 : decode b_S_bit 3 = .ok (.iconst 1, 1) := by decide +kernel
theorem d_S_bit_4 : decode b_S_bit 4 = .ok (.iand, 1) := by decide +kernel
theorem d_S_bit_5 : decode b_S_bit 5 = .ok (.ireturn, 1) := by decide +kernel
theorem d_S_output_0 : decode b_S_output 0 = .ok (.iload_n 0, 1) := by decide +kernel
theorem d_S_output_1 : decode b_S_output 1 = .ok (.tableswitch 39 0 2 #[27, 31, 33], 27) := by decide +kernel
theorem d_S_output_28 : decode b_S_output 28 = .ok (.iconst 1, 1) := by decide +kernel
theorem d_S_output_29 : decode b_S_output 29 = .ok (.iload_n 1, 1) := by decide +kernel
theorem d_S_output_30 : decode b_S_output 30 = .ok (.isub, 1) := by decide +kernel
theorem d_S_output_31 : decode b_S_output 31 = .ok (.ireturn, 1) := by decide +kernel
theorem d_S_output_32 : decode b_S_output 32 = .ok (.iload_n 1, 1) := by decide +kernel
theorem d_S_output_33 : decode b_S_output 33 = .ok (.ireturn, 1) := by decide +kernel
theorem d_S_output_34 : decode b_S_output 34 = .ok (.iconst 1, 1) := by decide +kernel
theorem d_S_output_35 : decode b_S_output 35 = .ok (.iload_n 1, 1) := by decide +kernel
theorem d_S_output_36 : decode b_S_output 36 = .ok (.iload_n 2, 1) := by decide +kernel
theorem d_S_output_37 : decode b_S_output 37 = .ok (.iand, 1) := by decide +kernel
theorem d_S_output_38 : decode b_S_output 38 = .ok (.isub, 1) := by decide +kernel
theorem d_S_output_39 : decode b_S_output 39 = .ok (.ireturn, 1) := by decide +kernel
theorem d_S_output_40 : decode b_S_output 40 = .ok (.iconst 1, 1) := by decide +kernel
theorem d_S_output_41 : decode b_S_output 41 = .ok (.iload_n 1, 1) := by decide +kernel
theorem d_S_output_42 : decode b_S_output 42 = .ok (.iload_n 2, 1) := by decide +kernel
theorem d_S_output_43 : decode b_S_output 43 = .ok (.ior, 1) := by decide +kernel
theorem d_S_output_44 : decode b_S_output 44 = .ok (.isub, 1) := by decide +kernel
theorem d_S_output_45 : decode b_S_output 45 = .ok (.ireturn, 1) := by decide +kernel
