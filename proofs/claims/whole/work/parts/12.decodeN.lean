theorem d_C_init_0 : decode b_C_init 0 = .ok (.aload_n 0, 1) := by decide +kernel
theorem d_C_init_1 : decode b_C_init 1 = .ok (.invokespecial 3, 3) := by decide +kernel
theorem d_C_init_4 : decode b_C_init 4 = .ok (.aload_n 0, 1) := by decide +kernel
theorem d_C_init_5 : decode b_C_init 5 = .ok (.bipush 12, 2) := by decide +kernel
theorem d_C_init_7 : decode b_C_init 7 = .ok (.newarray .int, 2) := by decide +kernel
theorem d_C_init_9 : decode b_C_init 9 = .ok (.putfield 9, 3) := by decide +kernel
theorem d_C_init_12 : decode b_C_init 12 = .ok (.aload_n 0, 1) := by decide +kernel
theorem d_C_init_13 : decode b_C_init 13 = .ok (.aload_n 1, 1) := by decide +kernel
theorem d_C_init_14 : decode b_C_init 14 = .ok (.putfield 15, 3) := by decide +kernel
theorem d_C_init_17 : decode b_C_init 17 = .ok (.return_, 1) := by decide +kernel
theorem d_C_assignTracks_0 : decode b_C_assignTracks 0 = .ok (.aload_n 0, 1) := by decide +kernel
theorem d_C_assignTracks_1 : decode b_C_assignTracks 1 = .ok (.getfield 9, 3) := by decide +kernel
theorem d_C_assignTracks_4 : decode b_C_assignTracks 4 = .ok (.iconst 0, 1) := by decide +kernel
theorem d_C_assignTracks_5 : decode b_C_assignTracks 5 = .ok (.invokestatic 19, 3) := by decide +kernel
theorem d_C_assignTracks_8 : decode b_C_assignTracks 8 = .ok (.aload_n 0, 1) := by decide +kernel
theorem d_C_assignTracks_9 : decode b_C_assignTracks 9 = .ok (.iconst 0, 1) := by decide +kernel
theorem d_C_assignTracks_10 : decode b_C_assignTracks 10 = .ok (.putfield 25, 3) := by decide +kernel
theorem d_C_assignTracks_13 : decode b_C_assignTracks 13 = .ok (.aload_n 0, 1) := by decide +kernel
theorem d_C_assignTracks_14 : decode b_C_assignTracks 14 = .ok (.getfield 15, 3) := by decide +kernel
theorem d_C_assignTracks_17 : decode b_C_assignTracks 17 = .ok (.invokevirtual 29, 3) := by decide +kernel
theorem d_C_assignTracks_20 : decode b_C_assignTracks 20 = .ok (.istore_n 1, 1) := by decide +kernel
theorem d_C_assignTracks_21 : decode b_C_assignTracks 21 = .ok (.iconst 1, 1) := by decide +kernel
theorem d_C_assignTracks_22 : decode b_C_assignTracks 22 = .ok (.istore_n 2, 1) := by decide +kernel
theorem d_C_assignTracks_23 : decode b_C_assignTracks 23 = .ok (.iload_n 2, 1) := by decide +kernel
theorem d_C_assignTracks_24 : decode b_C_assignTracks 24 = .ok (.bipush 9, 2) := by decide +kernel
theorem d_C_assignTracks_26 : decode b_C_assignTracks 26 = .ok (.if_icmp .gt 42, 3) := by decide +kernel
theorem d_C_assignTracks_29 : decode b_C_assignTracks 29 = .ok (.iload_n 1, 1) := by decide +kernel
theorem d_C_assignTracks_30 : decode b_C_assignTracks 30 = .ok (.ifCond .le 38, 3) := by decide +kernel
theorem d_C_assignTracks_33 : decode b_C_assignTracks 33 = .ok (.aload_n 0, 1) := by decide +kernel
theorem d_C_assignTracks_34 : decode b_C_assignTracks 34 = .ok (.iload_n 2, 1) := by decide +kernel
theorem d_C_assignTracks_35 : decode b_C_assignTracks 35 = .ok (.invokevirtual 35, 3) := by decide +kernel
theorem d_C_assignTracks_38 : decode b_C_assignTracks 38 = .ok (.istore_n 3, 1) := by decide +kernel
theorem d_C_assignTracks_39 : decode b_C_assignTracks 39 = .ok (.iload_n 3, 1) := by decide +kernel
theorem d_C_assignTracks_40 : decode b_C_assignTracks 40 = .ok (.ifCond .ne 13, 3) := by decide +kernel
theorem d_C_assignTracks_43 : decode b_C_assignTracks 43 = .ok (.new 39, 3) := by decide +kernel
theorem d_C_assignTracks_46 : decode b_C_assignTracks 46 = .ok (.dup, 1) := by decide +kernel
theorem d_C_assignTracks_47 : decode b_C_assignTracks 47 = .ok (.ldc 41, 2) := by decide +kernel
theorem d_C_assignTracks_49 : decode b_C_assignTracks 49 = .ok (.invokespecial 43, 3) := by decide +kernel
theorem d_C_assignTracks_52 : decode b_C_assignTracks 52 = .ok (.athrow, 1) := by decide +kernel
theorem d_C_assignTracks_53 : decode b_C_assignTracks 53 = .ok (.iload_n 1, 1) := by decide +kernel
theorem d_C_assignTracks_54 : decode b_C_assignTracks 54 = .ok (.iload_n 3, 1) := by decide +kernel
theorem d_C_assignTracks_55 : decode b_C_assignTracks 55 = .ok (.isub, 1) := by decide +kernel
theorem d_C_assignTracks_56 : decode b_C_assignTracks 56 = .ok (.istore_n 1, 1) := by decide +kernel
theorem d_C_assignTracks_57 : decode b_C_assignTracks 57 = .ok (.aload_n 0, 1) := by decide +kernel
theorem d_C_assignTracks_58 : decode b_C_assignTracks 58 = .ok (.iload_n 2, 1) := by decide +kernel
theorem d_C_assignTracks_59 : decode b_C_assignTracks 59 = .ok (.putfield 25, 3) := by decide +kernel
theorem d_C_assignTracks_62 : decode b_C_assignTracks 62 = .ok (.iinc 2 1, 3) := by decide +kernel
theorem d_C_assignTracks_65 : decode b_C_assignTracks 65 = .ok (.goto (-42), 3) := by decide +kernel
theorem d_C_assignTracks_68 : decode b_C_assignTracks 68 = .ok (.iload_n 1, 1) := by decide +kernel
theorem d_C_assignTracks_69 : decode b_C_assignTracks 69 = .ok (.ifCond .le 13, 3) := by decide +kernel
theorem d_C_assignTracks_72 : decode b_C_assignTracks 72 = .ok (.new 46, 3) := by decide +kernel
theorem d_C_assignTracks_75 : decode b_C_assignTracks 75 = .ok (.dup, 1) := by decide +kernel
theorem d_C_assignTracks_76 : decode b_C_assignTracks 76 = .ok (.ldc 48, 2) := by decide +kernel
theorem d_C_assignTracks_78 : decode b_C_assignTracks 78 = .ok (.invokespecial 50, 3) := by decide +kernel
theorem d_C_assignTracks_81 : decode b_C_assignTracks 81 = .ok (.athrow, 1) := by decide +kernel
theorem d_C_assignTracks_82 : decode b_C_assignTracks 82 = .ok (.return_, 1) := by decide +kernel
theorem d_C_fillTrack_0 : decode b_C_fillTrack 0 = .ok (.iconst 0, 1) := by decide +kernel
theorem d_C_fillTrack_1 : decode b_C_fillTrack 1 = .ok (.istore_n 2, 1) := by decide +kernel
theorem d_C_fillTrack_2 : decode b_C_fillTrack 2 = .ok (.iconst (-1), 1) := by decide +kernel
theorem d_C_fillTrack_3 : decode b_C_fillTrack 3 = .ok (.istore_n 3, 1) := by decide +kernel
theorem d_C_fillTrack_4 : decode b_C_fillTrack 4 = .ok (.iconst 0, 1) := by decide +kernel
theorem d_C_fillTrack_5 : decode b_C_fillTrack 5 = .ok (.istore 4, 2) := by decide +kernel
theorem d_C_fillTrack_7 : decode b_C_fillTrack 7 = .ok (.iload 4, 2) := by decide +kernel
theorem d_C_fillTrack_9 : decode b_C_fillTrack 9 = .ok (.bipush 24, 2) := by decide +kernel
theorem d_C_fillTrack_11 : decode b_C_fillTrack 11 = .ok (.if_icmp .ge 98, 3) := by decide +kernel
theorem d_C_fillTrack_14 : decode b_C_fillTrack 14 = .ok (.iconst 0, 1) := by decide +kernel
theorem d_C_fillTrack_15 : decode b_C_fillTrack 15 = .ok (.istore 5, 2) := by decide +kernel
theorem d_C_fillTrack_17 : decode b_C_fillTrack 17 = .ok (.iload 5, 2) := by decide +kernel
theorem d_C_fillTrack_19 : decode b_C_fillTrack 19 = .ok (.bipush 12, 2) := by decide +kernel
theorem d_C_fillTrack_21 : decode b_C_fillTrack 21 = .ok (.if_icmp .ge 82, 3) := by decide +kernel
theorem d_C_fillTrack_24 : decode b_C_fillTrack 24 = .ok (.aload_n 0, 1) := by decide +kernel
theorem d_C_fillTrack_25 : decode b_C_fillTrack 25 = .ok (.getfield 9, 3) := by decide +kernel
theorem d_C_fillTrack_28 : decode b_C_fillTrack 28 = .ok (.iload 5, 2) := by decide +kernel
theorem d_C_fillTrack_30 : decode b_C_fillTrack 30 = .ok (.iaload, 1) := by decide +kernel
theorem d_C_fillTrack_31 : decode b_C_fillTrack 31 = .ok (.ifCond .ne 21, 3) := by decide +kernel
theorem d_C_fillTrack_34 : decode b_C_fillTrack 34 = .ok (.aload_n 0, 1) := by decide +kernel
theorem d_C_fillTrack_35 : decode b_C_fillTrack 35 = .ok (.getfield 15, 3) := by decide +kernel
theorem d_C_fillTrack_38 : decode b_C_fillTrack 38 = .ok (.iload 5, 2) := by decide +kernel
theorem d_C_fillTrack_40 : decode b_C_fillTrack 40 = .ok (.invokevirtual 51, 3) := by decide +kernel
theorem d_C_fillTrack_43 : decode b_C_fillTrack 43 = .ok (.iload 4, 2) := by decide +kernel
theorem d_C_fillTrack_45 : decode b_C_fillTrack 45 = .ok (.if_icmp .ne 7, 3) := by decide +kernel
theorem d_C_fillTrack_48 : decode b_C_fillTrack 48 = .ok (.iconst 1, 1) := by decide +kernel
theorem d_C_fillTrack_49 : decode b_C_fillTrack 49 = .ok (.goto 4, 3) := by decide +kernel
theorem d_C_fillTrack_52 : decode b_C_fillTrack 52 = .ok (.iconst 0, 1) := by decide +kernel
theorem d_C_fillTrack_53 : decode b_C_fillTrack 53 = .ok (.istore 6, 2) := by decide +kernel
theorem d_C_fillTrack_55 : decode b_C_fillTrack 55 = .ok (.iload 6, 2) := by decide +kernel
theorem d_C_fillTrack_57 : decode b_C_fillTrack 57 = .ok (.ifCond .eq 40, 3) := by decide +kernel
theorem d_C_fillTrack_60 : decode b_C_fillTrack 60 = .ok (.iload 4, 2) := by decide +kernel
theorem d_C_fillTrack_62 : decode b_C_fillTrack 62 = .ok (.iload_n 3, 1) := by decide +kernel
theorem d_C_fillTrack_63 : decode b_C_fillTrack 63 = .ok (.if_icmp .le 34, 3) := by decide +kernel
theorem d_C_fillTrack_66 : decode b_C_fillTrack 66 = .ok (.aload_n 0, 1) := by decide +kernel
theorem d_C_fillTrack_67 : decode b_C_fillTrack 67 = .ok (.iload 5, 2) := by decide +kernel
theorem d_C_fillTrack_69 : decode b_C_fillTrack 69 = .ok (.iload_n 1, 1) := by decide +kernel
theorem d_C_fillTrack_70 : decode b_C_fillTrack 70 = .ok (.invokevirtual 54, 3) := by decide +kernel
theorem d_C_fillTrack_73 : decode b_C_fillTrack 73 = .ok (.ifCond .eq 24, 3) := by decide +kernel
theorem d_C_fillTrack_76 : decode b_C_fillTrack 76 = .ok (.aload_n 0, 1) := by decide +kernel
theorem d_C_fillTrack_77 : decode b_C_fillTrack 77 = .ok (.getfield 9, 3) := by decide +kernel
theorem d_C_fillTrack_80 : decode b_C_fillTrack 80 = .ok (.iload 5, 2) := by decide +kernel
theorem d_C_fillTrack_82 : decode b_C_fillTrack 82 = .ok (.iload_n 1, 1) := by decide +kernel
theorem d_C_fillTrack_83 : decode b_C_fillTrack 83 = .ok (.iastore, 1) := by decide +kernel
theorem d_C_fillTrack_84 : decode b_C_fillTrack 84 = .ok (.aload_n 0, 1) := by decide +kernel
theorem d_C_fillTrack_85 : decode b_C_fillTrack 85 = .ok (.getfield 15, 3) := by decide +kernel
theorem d_C_fillTrack_88 : decode b_C_fillTrack 88 = .ok (.iload 5, 2) := by decide +kernel
theorem d_C_fillTrack_90 : decode b_C_fillTrack 90 = .ok (.invokevirtual 58, 3) := by decide +kernel
theorem d_C_fillTrack_93 : decode b_C_fillTrack 93 = .ok (.istore_n 3, 1) := by decide +kernel
theorem d_C_fillTrack_94 : decode b_C_fillTrack 94 = .ok (.iinc 2 1, 3) := by decide +kernel
theorem d_C_fillTrack_97 : decode b_C_fillTrack 97 = .ok (.iinc 5 1, 3) := by decide +kernel
theorem d_C_fillTrack_100 : decode b_C_fillTrack 100 = .ok (.goto (-83), 3) := by decide +kernel
theorem d_C_fillTrack_103 : decode b_C_fillTrack 103 = .ok (.iinc 4 1, 3) := by decide +kernel
theorem d_C_fillTrack_106 : decode b_C_fillTrack 106 = .ok (.goto (-99), 3) := by decide +kernel
theorem d_C_fillTrack_109 : decode b_C_fillTrack 109 = .ok (.iload_n 2, 1) := by decide +kernel
theorem d_C_fillTrack_110 : decode b_C_fillTrack 110 = .ok (.ireturn, 1) := by decide +kernel
theorem d_C_isFreeFromAbove_0 : decode b_C_isFreeFromAbove 0 = .ok (.iconst 0, 1) := by decide +kernel
theorem d_C_isFreeFromAbove_1 : decode b_C_isFreeFromAbove 1 = .ok (.istore_n 3, 1) := by decide +kernel
theorem d_C_isFreeFromAbove_2 : decode b_C_isFreeFromAbove 2 = .ok (.iload_n 3, 1) := by decide +kernel
theorem d_C_isFreeFromAbove_3 : decode b_C_isFreeFromAbove 3 = .ok (.bipush 12, 2) := by decide +kernel
theorem d_C_isFreeFromAbove_5 : decode b_C_isFreeFromAbove 5 = .ok (.if_icmp .ge 54, 3) := by decide +kernel
theorem d_C_isFreeFromAbove_8 : decode b_C_isFreeFromAbove 8 = .ok (.aload_n 0, 1) := by decide +kernel
theorem d_C_isFreeFromAbove_9 : decode b_C_isFreeFromAbove 9 = .ok (.getfield 9, 3) := by decide +kernel
theorem d_C_isFreeFromAbove_12 : decode b_C_isFreeFromAbove 12 = .ok (.iload_n 3, 1) := by decide +kernel
theorem d_C_isFreeFromAbove_13 : decode b_C_isFreeFromAbove 13 = .ok (.iaload, 1) := by decide +kernel
theorem d_C_isFreeFromAbove_14 : decode b_C_isFreeFromAbove 14 = .ok (.ifCond .le 17, 3) := by decide +kernel
theorem d_C_isFreeFromAbove_17 : decode b_C_isFreeFromAbove 17 = .ok (.aload_n 0, 1) := by decide +kernel
theorem d_C_isFreeFromAbove_18 : decode b_C_isFreeFromAbove 18 = .ok (.getfield 9, 3) := by decide +kernel
theorem d_C_isFreeFromAbove_21 : decode b_C_isFreeFromAbove 21 = .ok (.iload_n 3, 1) := by decide +kernel
theorem d_C_isFreeFromAbove_22 : decode b_C_isFreeFromAbove 22 = .ok (.iaload, 1) := by decide +kernel
theorem d_C_isFreeFromAbove_23 : decode b_C_isFreeFromAbove 23 = .ok (.iload_n 2, 1) := by decide +kernel
theorem d_C_isFreeFromAbove_24 : decode b_C_isFreeFromAbove 24 = .ok (.if_icmp .ge 7, 3) := by decide +kernel
theorem d_C_isFreeFromAbove_27 : decode b_C_isFreeFromAbove 27 = .ok (.iconst 1, 1) := by decide +kernel
theorem d_C_isFreeFromAbove_28 : decode b_C_isFreeFromAbove 28 = .ok (.goto 4, 3) := by decide +kernel
theorem d_C_isFreeFromAbove_31 : decode b_C_isFreeFromAbove 31 = .ok (.iconst 0, 1) := by decide +kernel
theorem d_C_isFreeFromAbove_32 : decode b_C_isFreeFromAbove 32 = .ok (.istore 4, 2) := by decide +kernel
theorem d_C_isFreeFromAbove_34 : decode b_C_isFreeFromAbove 34 = .ok (.iload 4, 2) := by decide +kernel
theorem d_C_isFreeFromAbove_36 : decode b_C_isFreeFromAbove 36 = .ok (.ifCond .ne 17, 3) := by decide +kernel
theorem d_C_isFreeFromAbove_39 : decode b_C_isFreeFromAbove 39 = .ok (.aload_n 0, 1) := by decide +kernel
theorem d_C_isFreeFromAbove_40 : decode b_C_isFreeFromAbove 40 = .ok (.getfield 15, 3) := by decide +kernel
theorem d_C_isFreeFromAbove_43 : decode b_C_isFreeFromAbove 43 = .ok (.iload_n 3, 1) := by decide +kernel
theorem d_C_isFreeFromAbove_44 : decode b_C_isFreeFromAbove 44 = .ok (.iload_n 1, 1) := by decide +kernel
theorem d_C_isFreeFromAbove_45 : decode b_C_isFreeFromAbove 45 = .ok (.invokevirtual 61, 3) := by decide +kernel
theorem d_C_isFreeFromAbove_48 : decode b_C_isFreeFromAbove 48 = .ok (.ifCond .eq 5, 3) := by decide +kernel
theorem d_C_isFreeFromAbove_51 : decode b_C_isFreeFromAbove 51 = .ok (.iconst 0, 1) := by decide +kernel
theorem d_C_isFreeFromAbove_52 : decode b_C_isFreeFromAbove 52 = .ok (.ireturn, 1) := by decide +kernel
theorem d_C_isFreeFromAbove_53 : decode b_C_isFreeFromAbove 53 = .ok (.iinc 3 1, 3) := by decide +kernel
theorem d_C_isFreeFromAbove_56 : decode b_C_isFreeFromAbove 56 = .ok (.goto (-54), 3) := by decide +kernel
theorem d_C_isFreeFromAbove_59 : decode b_C_isFreeFromAbove 59 = .ok (.iconst 1, 1) := by decide +kernel
theorem d_C_isFreeFromAbove_60 : decode b_C_isFreeFromAbove 60 = .ok (.ireturn, 1) := by decide +kernel
theorem d_C_lines_0 : decode b_C_lines 0 = .ok (.aload_n 0, 1) := by decide +kernel
theorem d_C_lines_1 : decode b_C_lines 1 = .ok (.getfield 25, 3) := by decide +kernel
theorem d_C_lines_4 : decode b_C_lines 4 = .ok (.iconst 2, 1) := by decide +kernel
theorem d_C_lines_5 : decode b_C_lines 5 = .ok (.iadd, 1) := by decide +kernel
theorem d_C_lines_6 : decode b_C_lines 6 = .ok (.ireturn, 1) := by decide +kernel
theorem d_C_wireLength_0 : decode b_C_wireLength 0 = .ok (.aload_n 0, 1) := by decide +kernel
theorem d_C_wireLength_1 : decode b_C_wireLength 1 = .ok (.getfield 9, 3) := by decide +kernel
theorem d_C_wireLength_4 : decode b_C_wireLength 4 = .ok (.iload_n 1, 1) := by decide +kernel
theorem d_C_wireLength_5 : decode b_C_wireLength 5 = .ok (.iaload, 1) := by decide +kernel
theorem d_C_wireLength_6 : decode b_C_wireLength 6 = .ok (.ifCond .ne 5, 3) := by decide +kernel
theorem d_C_wireLength_9 : decode b_C_wireLength 9 = .ok (.iconst 0, 1) := by decide +kernel
theorem d_C_wireLength_10 : decode b_C_wireLength 10 = .ok (.ireturn, 1) := by decide +kernel
theorem d_C_wireLength_11 : decode b_C_wireLength 11 = .ok (.aload_n 0, 1) := by decide +kernel
theorem d_C_wireLength_12 : decode b_C_wireLength 12 = .ok (.getfield 15, 3) := by decide +kernel
theorem d_C_wireLength_15 : decode b_C_wireLength 15 = .ok (.iload_n 1, 1) := by decide +kernel
theorem d_C_wireLength_16 : decode b_C_wireLength 16 = .ok (.invokevirtual 58, 3) := by decide +kernel
theorem d_C_wireLength_19 : decode b_C_wireLength 19 = .ok (.aload_n 0, 1) := by decide +kernel
theorem d_C_wireLength_20 : decode b_C_wireLength 20 = .ok (.getfield 15, 3) := by decide +kernel
theorem d_C_wireLength_23 : decode b_C_wireLength 23 = .ok (.iload_n 1, 1) := by decide +kernel
theorem d_C_wireLength_24 : decode b_C_wireLength 24 = .ok (.invokevirtual 51, 3) := by decide +kernel
theorem d_C_wireLength_27 : decode b_C_wireLength 27 = .ok (.isub, 1) := by decide +kernel
theorem d_C_wireLength_28 : decode b_C_wireLength 28 = .ok (.istore_n 2, 1) := by decide +kernel
theorem d_C_wireLength_29 : decode b_C_wireLength 29 = .ok (.aload_n 0, 1) := by decide +kernel
theorem d_C_wireLength_30 : decode b_C_wireLength 30 = .ok (.getfield 15, 3) := by decide +kernel
theorem d_C_wireLength_33 : decode b_C_wireLength 33 = .ok (.getfield 64, 3) := by decide +kernel
theorem d_C_wireLength_36 : decode b_C_wireLength 36 = .ok (.iconst 0, 1) := by decide +kernel
theorem d_C_wireLength_37 : decode b_C_wireLength 37 = .ok (.aaload, 1) := by decide +kernel
theorem d_C_wireLength_38 : decode b_C_wireLength 38 = .ok (.iload_n 1, 1) := by decide +kernel
theorem d_C_wireLength_39 : decode b_C_wireLength 39 = .ok (.iaload, 1) := by decide +kernel
theorem d_C_wireLength_40 : decode b_C_wireLength 40 = .ok (.aload_n 0, 1) := by decide +kernel
theorem d_C_wireLength_41 : decode b_C_wireLength 41 = .ok (.getfield 9, 3) := by decide +kernel
theorem d_C_wireLength_44 : decode b_C_wireLength 44 = .ok (.iload_n 1, 1) := by decide +kernel
theorem d_C_wireLength_45 : decode b_C_wireLength 45 = .ok (.iaload, 1) := by decide +kernel
theorem d_C_wireLength_46 : decode b_C_wireLength 46 = .ok (.imul, 1) := by decide +kernel
theorem d_C_wireLength_47 : decode b_C_wireLength 47 = .ok (.istore_n 3, 1) := by decide +kernel
theorem d_C_wireLength_48 : decode b_C_wireLength 48 = .ok (.aload_n 0, 1) := by decide +kernel
theorem d_C_wireLength_49 : decode b_C_wireLength 49 = .ok (.getfield 15, 3) := by decide +kernel
theorem d_C_wireLength_52 : decode b_C_wireLength 52 = .ok (.getfield 64, 3) := by decide +kernel
theorem d_C_wireLength_55 : decode b_C_wireLength 55 = .ok (.iconst 1, 1) := by decide +kernel
theorem d_C_wireLength_56 : decode b_C_wireLength 56 = .ok (.aaload, 1) := by decide +kernel
theorem d_C_wireLength_57 : decode b_C_wireLength 57 = .ok (.iload_n 1, 1) := by decide +kernel
theorem d_C_wireLength_58 : decode b_C_wireLength 58 = .ok (.iaload, 1) := by decide +kernel
theorem d_C_wireLength_59 : decode b_C_wireLength 59 = .ok (.aload_n 0, 1) := by decide +kernel
theorem d_C_wireLength_60 : decode b_C_wireLength 60 = .ok (.getfield 25, 3) := by decide +kernel
theorem d_C_wireLength_63 : decode b_C_wireLength 63 = .ok (.iconst 1, 1) := by decide +kernel
theorem d_C_wireLength_64 : decode b_C_wireLength 64 = .ok (.iadd, 1) := by decide +kernel
theorem d_C_wireLength_65 : decode b_C_wireLength 65 = .ok (.aload_n 0, 1) := by decide +kernel
theorem d_C_wireLength_66 : decode b_C_wireLength 66 = .ok (.getfield 9, 3) := by decide +kernel
theorem d_C_wireLength_69 : decode b_C_wireLength 69 = .ok (.iload_n 1, 1) := by decide +kernel
theorem d_C_wireLength_70 : decode b_C_wireLength 70 = .ok (.iaload, 1) := by decide +kernel
theorem d_C_wireLength_71 : decode b_C_wireLength 71 = .ok (.isub, 1) := by decide +kernel
theorem d_C_wireLength_72 : decode b_C_wireLength 72 = .ok (.imul, 1) := by decide +kernel
theorem d_C_wireLength_73 : decode b_C_wireLength 73 = .ok (.istore 4, 2) := by decide +kernel
theorem d_C_wireLength_75 : decode b_C_wireLength 75 = .ok (.iload_n 2, 1) := by decide +kernel
theorem d_C_wireLength_76 : decode b_C_wireLength 76 = .ok (.iload_n 3, 1) := by decide +kernel
theorem d_C_wireLength_77 : decode b_C_wireLength 77 = .ok (.iadd, 1) := by decide +kernel
theorem d_C_wireLength_78 : decode b_C_wireLength 78 = .ok (.iload 4, 2) := by decide +kernel
theorem d_C_wireLength_80 : decode b_C_wireLength 80 = .ok (.iadd, 1) := by decide +kernel
theorem d_C_wireLength_81 : decode b_C_wireLength 81 = .ok (.ireturn, 1) := by decide +kernel
theorem d_C_wireDelay_0 : decode b_C_wireDelay 0 = .ok (.aload_n 0, 1) := by decide +kernel
theorem d_C_wireDelay_1 : decode b_C_wireDelay 1 = .ok (.getfield 9, 3) := by decide +kernel
theorem d_C_wireDelay_4 : decode b_C_wireDelay 4 = .ok (.iload_n 1, 1) := by decide +kernel
theorem d_C_wireDelay_5 : decode b_C_wireDelay 5 = .ok (.iaload, 1) := by decide +kernel
theorem d_C_wireDelay_6 : decode b_C_wireDelay 6 = .ok (.ifCond .ne 5, 3) := by decide +kernel
theorem d_C_wireDelay_9 : decode b_C_wireDelay 9 = .ok (.dconst 0, 1) := by decide +kernel
theorem d_C_wireDelay_10 : decode b_C_wireDelay 10 = .ok (.dreturn, 1) := by decide +kernel
theorem d_C_wireDelay_11 : decode b_C_wireDelay 11 = .ok (.aload_n 0, 1) := by decide +kernel
theorem d_C_wireDelay_12 : decode b_C_wireDelay 12 = .ok (.iload_n 1, 1) := by decide +kernel
theorem d_C_wireDelay_13 : decode b_C_wireDelay 13 = .ok (.invokevirtual 68, 3) := by decide +kernel
theorem d_C_wireDelay_16 : decode b_C_wireDelay 16 = .ok (.i2d, 1) := by decide +kernel
theorem d_C_wireDelay_17 : decode b_C_wireDelay 17 = .ok (.dstore_n 2, 1) := by decide +kernel
theorem d_C_wireDelay_18 : decode b_C_wireDelay 18 = .ok (.ldc2_w 71, 3) := by decide +kernel
theorem d_C_wireDelay_21 : decode b_C_wireDelay 21 = .ok (.dload_n 2, 1) := by decide +kernel
theorem d_C_wireDelay_22 : decode b_C_wireDelay 22 = .ok (.dmul, 1) := by decide +kernel
theorem d_C_wireDelay_23 : decode b_C_wireDelay 23 = .ok (.ldc2_w 73, 3) := by decide +kernel
theorem d_C_wireDelay_26 : decode b_C_wireDelay 26 = .ok (.dload_n 2, 1) := by decide +kernel
theorem d_C_wireDelay_27 : decode b_C_wireDelay 27 = .ok (.dmul, 1) := by decide +kernel
theorem d_C_wireDelay_28 : decode b_C_wireDelay 28 = .ok (.aload_n 0, 1) := by decide +kernel
theorem d_C_wireDelay_29 : decode b_C_wireDelay 29 = .ok (.getfield 15, 3) := by decide +kernel
theorem d_C_wireDelay_32 : decode b_C_wireDelay 32 = .ok (.iload_n 1, 1) := by decide +kernel
theorem d_C_wireDelay_33 : decode b_C_wireDelay 33 = .ok (.invokevirtual 75, 3) := by decide +kernel
theorem d_C_wireDelay_36 : decode b_C_wireDelay 36 = .ok (.i2d, 1) := by decide +kernel
theorem d_C_wireDelay_37 : decode b_C_wireDelay 37 = .ok (.dadd, 1) := by decide +kernel
theorem d_C_wireDelay_38 : decode b_C_wireDelay 38 = .ok (.dmul, 1) := by decide +kernel
theorem d_C_wireDelay_39 : decode b_C_wireDelay 39 = .ok (.dreturn, 1) := by decide +kernel
theorem d_N_init_0 : decode b_N_init 0 = .ok (.aload_n 0, 1) := by decide +kernel
theorem d_N_init_1 : decode b_N_init 1 = .ok (.invokespecial 3, 3) := by decide +kernel
theorem d_N_init_4 : decode b_N_init 4 = .ok (.aload_n 0, 1) := by decide +kernel
theorem d_N_init_5 : decode b_N_init 5 = .ok (.bipush 12, 2) := by decide +kernel
theorem d_N_init_7 : decode b_N_init 7 = .ok (.newarray .int, 2) := by decide +kernel
theorem d_N_init_9 : decode b_N_init 9 = .ok (.putfield 9, 3) := by decide +kernel
theorem d_N_init_12 : decode b_N_init 12 = .ok (.aload_n 0, 1) := by decide +kernel
theorem d_N_init_13 : decode b_N_init 13 = .ok (.bipush 12, 2) := by decide +kernel
theorem d_N_init_15 : decode b_N_init 15 = .ok (.newarray .int, 2) := by decide +kernel
theorem d_N_init_17 : decode b_N_init 17 = .ok (.putfield 15, 3) := by decide +kernel
theorem d_N_init_20 : decode b_N_init 20 = .ok (.aload_n 0, 1) := by decide +kernel
theorem d_N_init_21 : decode b_N_init 21 = .ok (.bipush 12, 2) := by decide +kernel
theorem d_N_init_23 : decode b_N_init 23 = .ok (.newarray .int, 2) := by decide +kernel
theorem d_N_init_25 : decode b_N_init 25 = .ok (.putfield 18, 3) := by decide +kernel
theorem d_N_init_28 : decode b_N_init 28 = .ok (.aload_n 0, 1) := by decide +kernel
theorem d_N_init_29 : decode b_N_init 29 = .ok (.bipush 12, 2) := by decide +kernel
theorem d_N_init_31 : decode b_N_init 31 = .ok (.newarray .int, 2) := by decide +kernel
theorem d_N_init_33 : decode b_N_init 33 = .ok (.putfield 21, 3) := by decide +kernel
theorem d_N_init_36 : decode b_N_init 36 = .ok (.aload_n 0, 1) := by decide +kernel
theorem d_N_init_37 : decode b_N_init 37 = .ok (.bipush 12, 2) := by decide +kernel
theorem d_N_init_39 : decode b_N_init 39 = .ok (.newarray .int, 2) := by decide +kernel
theorem d_N_init_41 : decode b_N_init 41 = .ok (.putfield 24, 3) := by decide +kernel
theorem d_N_init_44 : decode b_N_init 44 = .ok (.aload_n 0, 1) := by decide +kernel
theorem d_N_init_45 : decode b_N_init 45 = .ok (.bipush 12, 2) := by decide +kernel
theorem d_N_init_47 : decode b_N_init 47 = .ok (.newarray .int, 2) := by decide +kernel
theorem d_N_init_49 : decode b_N_init 49 = .ok (.putfield 27, 3) := by decide +kernel
theorem d_N_init_52 : decode b_N_init 52 = .ok (.aload_n 0, 1) := by decide +kernel
theorem d_N_init_53 : decode b_N_init 53 = .ok (.iconst 2, 1) := by decide +kernel
theorem d_N_init_54 : decode b_N_init 54 = .ok (.newarray .int, 2) := by decide +kernel
theorem d_N_init_56 : decode b_N_init 56 = .ok (.putfield 30, 3) := by decide +kernel
theorem d_N_init_59 : decode b_N_init 59 = .ok (.aload_n 0, 1) := by decide +kernel
theorem d_N_init_60 : decode b_N_init 60 = .ok (.iconst 2, 1) := by decide +kernel
theorem d_N_init_61 : decode b_N_init 61 = .ok (.bipush 24, 2) := by decide +kernel
theorem d_N_init_63 : decode b_N_init 63 = .ok (.multianewarray 33 2, 4) := by decide +kernel
theorem d_N_init_67 : decode b_N_init 67 = .ok (.putfield 35, 3) := by decide +kernel
theorem d_N_init_70 : decode b_N_init 70 = .ok (.aload_n 0, 1) := by decide +kernel
theorem d_N_init_71 : decode b_N_init 71 = .ok (.iconst 2, 1) := by decide +kernel
theorem d_N_init_72 : decode b_N_init 72 = .ok (.bipush 12, 2) := by decide +kernel
theorem d_N_init_74 : decode b_N_init 74 = .ok (.multianewarray 33 2, 4) := by decide +kernel
theorem d_N_init_78 : decode b_N_init 78 = .ok (.putfield 38, 3) := by decide +kernel
theorem d_N_init_81 : decode b_N_init 81 = .ok (.aload_n 0, 1) := by decide +kernel
theorem d_N_init_82 : decode b_N_init 82 = .ok (.bipush 12, 2) := by decide +kernel
theorem d_N_init_84 : decode b_N_init 84 = .ok (.newarray .int, 2) := by decide +kernel
theorem d_N_init_86 : decode b_N_init 86 = .ok (.putfield 41, 3) := by decide +kernel
theorem d_N_init_89 : decode b_N_init 89 = .ok (.aload_n 0, 1) := by decide +kernel
theorem d_N_init_90 : decode b_N_init 90 = .ok (.bipush 12, 2) := by decide +kernel
theorem d_N_init_92 : decode b_N_init 92 = .ok (.newarray .int, 2) := by decide +kernel
theorem d_N_init_94 : decode b_N_init 94 = .ok (.putfield 44, 3) := by decide +kernel
theorem d_N_init_97 : decode b_N_init 97 = .ok (.aload_n 0, 1) := by decide +kernel
theorem d_N_init_98 : decode b_N_init 98 = .ok (.bipush 12, 2) := by decide +kernel
theorem d_N_init_100 : decode b_N_init 100 = .ok (.newarray .int, 2) := by decide +kernel
theorem d_N_init_102 : decode b_N_init 102 = .ok (.putfield 47, 3) := by decide +kernel
theorem d_N_init_105 : decode b_N_init 105 = .ok (.aload_n 0, 1) := by decide +kernel
theorem d_N_init_106 : decode b_N_init 106 = .ok (.invokevirtual 50, 3) := by decide +kernel
theorem d_N_init_109 : decode b_N_init 109 = .ok (.return_, 1) := by decide +kernel
theorem d_N_removeAll_0 : decode b_N_removeAll 0 = .ok (.aload_n 0, 1) := by decide +kernel
theorem d_N_removeAll_1 : decode b_N_removeAll 1 = .ok (.iconst 0, 1) := by decide +kernel
theorem d_N_removeAll_2 : decode b_N_removeAll 2 = .ok (.putfield 53, 3) := by decide +kernel
theorem d_N_removeAll_5 : decode b_N_removeAll 5 = .ok (.iconst 0, 1) := by decide +kernel
theorem d_N_removeAll_6 : decode b_N_removeAll 6 = .ok (.istore_n 1, 1) := by decide +kernel
theorem d_N_removeAll_7 : decode b_N_removeAll 7 = .ok (.iload_n 1, 1) := by decide +kernel
theorem d_N_removeAll_8 : decode b_N_removeAll 8 = .ok (.iconst 2, 1) := by decide +kernel
theorem d_N_removeAll_9 : decode b_N_removeAll 9 = .ok (.if_icmp .ge 36, 3) := by decide +kernel
theorem d_N_removeAll_12 : decode b_N_removeAll 12 = .ok (.aload_n 0, 1) := by decide +kernel
theorem d_N_removeAll_13 : decode b_N_removeAll 13 = .ok (.getfield 30, 3) := by decide +kernel
theorem d_N_removeAll_16 : decode b_N_removeAll 16 = .ok (.iload_n 1, 1) := by decide +kernel
theorem d_N_removeAll_17 : decode b_N_removeAll 17 = .ok (.iconst 1, 1) := by decide +kernel
theorem d_N_removeAll_18 : decode b_N_removeAll 18 = .ok (.iastore, 1) := by decide +kernel
theorem d_N_removeAll_19 : decode b_N_removeAll 19 = .ok (.aload_n 0, 1) := by decide +kernel
theorem d_N_removeAll_20 : decode b_N_removeAll 20 = .ok (.getfield 35, 3) := by decide +kernel
theorem d_N_removeAll_23 : decode b_N_removeAll 23 = .ok (.iload_n 1, 1) := by decide +kernel
theorem d_N_removeAll_24 : decode b_N_removeAll 24 = .ok (.aaload, 1) := by decide +kernel
theorem d_N_removeAll_25 : decode b_N_removeAll 25 = .ok (.iconst (-1), 1) := by decide +kernel
theorem d_N_removeAll_26 : decode b_N_removeAll 26 = .ok (.invokestatic 57, 3) := by decide +kernel
theorem d_N_removeAll_29 : decode b_N_removeAll 29 = .ok (.aload_n 0, 1) := by decide +kernel
theorem d_N_removeAll_30 : decode b_N_removeAll 30 = .ok (.getfield 38, 3) := by decide +kernel
theorem d_N_removeAll_33 : decode b_N_removeAll 33 = .ok (.iload_n 1, 1) := by decide +kernel
theorem d_N_removeAll_34 : decode b_N_removeAll 34 = .ok (.aaload, 1) := by decide +kernel
theorem d_N_removeAll_35 : decode b_N_removeAll 35 = .ok (.iconst 0, 1) := by decide +kernel
theorem d_N_removeAll_36 : decode b_N_removeAll 36 = .ok (.invokestatic 57, 3) := by decide +kernel
theorem d_N_removeAll_39 : decode b_N_removeAll 39 = .ok (.iinc 1 1, 3) := by decide +kernel
theorem d_N_removeAll_42 : decode b_N_removeAll 42 = .ok (.goto (-35), 3) := by decide +kernel
theorem d_N_removeAll_45 : decode b_N_removeAll 45 = .ok (.aload_n 0, 1) := by decide +kernel
theorem d_N_removeAll_46 : decode b_N_removeAll 46 = .ok (.getfield 41, 3) := by decide +kernel
theorem d_N_removeAll_49 : decode b_N_removeAll 49 = .ok (.bipush 24, 2) := by decide +kernel
theorem d_N_removeAll_51 : decode b_N_removeAll 51 = .ok (.invokestatic 57, 3) := by decide +kernel
theorem d_N_removeAll_54 : decode b_N_removeAll 54 = .ok (.aload_n 0, 1) := by decide +kernel
theorem d_N_removeAll_55 : decode b_N_removeAll 55 = .ok (.getfield 44, 3) := by decide +kernel
theorem d_N_removeAll_58 : decode b_N_removeAll 58 = .ok (.iconst (-1), 1) := by decide +kernel
theorem d_N_removeAll_59 : decode b_N_removeAll 59 = .ok (.invokestatic 57, 3) := by decide +kernel
theorem d_N_removeAll_62 : decode b_N_removeAll 62 = .ok (.aload_n 0, 1) := by decide +kernel
theorem d_N_removeAll_63 : decode b_N_removeAll 63 = .ok (.getfield 47, 3) := by decide +kernel
theorem d_N_removeAll_66 : decode b_N_removeAll 66 = .ok (.iconst (-1), 1) := by decide +kernel
theorem d_N_removeAll_67 : decode b_N_removeAll 67 = .ok (.invokestatic 57, 3) := by decide +kernel
theorem d_N_removeAll_70 : decode b_N_removeAll 70 = .ok (.return_, 1) := by decide +kernel
theorem d_N_hasRoom_0 : decode b_N_hasRoom 0 = .ok (.aload_n 0, 1) := by decide +kernel
theorem d_N_hasRoom_1 : decode b_N_hasRoom 1 = .ok (.getfield 53, 3) := by decide +kernel
theorem d_N_hasRoom_4 : decode b_N_hasRoom 4 = .ok (.bipush 12, 2) := by decide +kernel
theorem d_N_hasRoom_6 : decode b_N_hasRoom 6 = .ok (.if_icmp .ge 23, 3) := by decide +kernel
theorem d_N_hasRoom_9 : decode b_N_hasRoom 9 = .ok (.aload_n 0, 1) := by decide +kernel
theorem d_N_hasRoom_10 : decode b_N_hasRoom 10 = .ok (.getfield 30, 3) := by decide +kernel
theorem d_N_hasRoom_13 : decode b_N_hasRoom 13 = .ok (.iload_n 2, 1) := by decide +kernel
theorem d_N_hasRoom_14 : decode b_N_hasRoom 14 = .ok (.iaload, 1) := by decide +kernel
theorem d_N_hasRoom_15 : decode b_N_hasRoom 15 = .ok (.iload_n 1, 1) := by decide +kernel
theorem d_N_hasRoom_16 : decode b_N_hasRoom 16 = .ok (.invokestatic 63, 3) := by decide +kernel
theorem d_N_hasRoom_19 : decode b_N_hasRoom 19 = .ok (.iadd, 1) := by decide +kernel
theorem d_N_hasRoom_20 : decode b_N_hasRoom 20 = .ok (.bipush 24, 2) := by decide +kernel
theorem d_N_hasRoom_22 : decode b_N_hasRoom 22 = .ok (.if_icmp .gt 7, 3) := by decide +kernel
theorem d_N_hasRoom_25 : decode b_N_hasRoom 25 = .ok (.iconst 1, 1) := by decide +kernel
theorem d_N_hasRoom_26 : decode b_N_hasRoom 26 = .ok (.goto 4, 3) := by decide +kernel
theorem d_N_hasRoom_29 : decode b_N_hasRoom 29 = .ok (.iconst 0, 1) := by decide +kernel
theorem d_N_hasRoom_30 : decode b_N_hasRoom 30 = .ok (.ireturn, 1) := by decide +kernel
theorem d_N_add_0 : decode b_N_add 0 = .ok (.aload_n 0, 1) := by decide +kernel
theorem d_N_add_1 : decode b_N_add 1 = .ok (.getfield 53, 3) := by decide +kernel
theorem d_N_add_4 : decode b_N_add 4 = .ok (.istore 6, 2) := by decide +kernel
theorem d_N_add_6 : decode b_N_add 6 = .ok (.aload_n 0, 1) := by decide +kernel
theorem d_N_add_7 : decode b_N_add 7 = .ok (.getfield 30, 3) := by decide +kernel
theorem d_N_add_10 : decode b_N_add 10 = .ok (.iload 5, 2) := by decide +kernel
theorem d_N_add_12 : decode b_N_add 12 = .ok (.iaload, 1) := by decide +kernel
theorem d_N_add_13 : decode b_N_add 13 = .ok (.istore 7, 2) := by decide +kernel
theorem d_N_add_15 : decode b_N_add 15 = .ok (.iload 7, 2) := by decide +kernel
theorem d_N_add_17 : decode b_N_add 17 = .ok (.iload_n 1, 1) := by decide +kernel
theorem d_N_add_18 : decode b_N_add 18 = .ok (.invokestatic 63, 3) := by decide +kernel
theorem d_N_add_21 : decode b_N_add 21 = .ok (.iadd, 1) := by decide +kernel
theorem d_N_add_22 : decode b_N_add 22 = .ok (.iconst 1, 1) := by decide +kernel
theorem d_N_add_23 : decode b_N_add 23 = .ok (.isub, 1) := by decide +kernel
theorem d_N_add_24 : decode b_N_add 24 = .ok (.istore 8, 2) := by decide +kernel
theorem d_N_add_26 : decode b_N_add 26 = .ok (.aload_n 0, 1) := by decide +kernel
theorem d_N_add_27 : decode b_N_add 27 = .ok (.getfield 9, 3) := by decide +kernel
theorem d_N_add_30 : decode b_N_add 30 = .ok (.iload 6, 2) := by decide +kernel
theorem d_N_add_32 : decode b_N_add 32 = .ok (.iload_n 1, 1) := by decide +kernel
theorem d_N_add_33 : decode b_N_add 33 = .ok (.iastore, 1) := by decide +kernel
theorem d_N_add_34 : decode b_N_add 34 = .ok (.aload_n 0, 1) := by decide +kernel
theorem d_N_add_35 : decode b_N_add 35 = .ok (.getfield 15, 3) := by decide +kernel
theorem d_N_add_38 : decode b_N_add 38 = .ok (.iload 6, 2) := by decide +kernel
theorem d_N_add_40 : decode b_N_add 40 = .ok (.iload_n 2, 1) := by decide +kernel
theorem d_N_add_41 : decode b_N_add 41 = .ok (.iastore, 1) := by decide +kernel
theorem d_N_add_42 : decode b_N_add 42 = .ok (.aload_n 0, 1) := by decide +kernel
theorem d_N_add_43 : decode b_N_add 43 = .ok (.getfield 18, 3) := by decide +kernel
theorem d_N_add_46 : decode b_N_add 46 = .ok (.iload 6, 2) := by decide +kernel
theorem d_N_add_48 : decode b_N_add 48 = .ok (.iload_n 3, 1) := by decide +kernel
theorem d_N_add_49 : decode b_N_add 49 = .ok (.iastore, 1) := by decide +kernel
theorem d_N_add_50 : decode b_N_add 50 = .ok (.aload_n 0, 1) := by decide +kernel
theorem d_N_add_51 : decode b_N_add 51 = .ok (.getfield 21, 3) := by decide +kernel
theorem d_N_add_54 : decode b_N_add 54 = .ok (.iload 6, 2) := by decide +kernel
theorem d_N_add_56 : decode b_N_add 56 = .ok (.iload 4, 2) := by decide +kernel
theorem d_N_add_58 : decode b_N_add 58 = .ok (.iastore, 1) := by decide +kernel
theorem d_N_add_59 : decode b_N_add 59 = .ok (.aload_n 0, 1) := by decide +kernel
theorem d_N_add_60 : decode b_N_add 60 = .ok (.getfield 24, 3) := by decide +kernel
theorem d_N_add_63 : decode b_N_add 63 = .ok (.iload 6, 2) := by decide +kernel
theorem d_N_add_65 : decode b_N_add 65 = .ok (.iload 5, 2) := by decide +kernel
theorem d_N_add_67 : decode b_N_add 67 = .ok (.iastore, 1) := by decide +kernel
theorem d_N_add_68 : decode b_N_add 68 = .ok (.aload_n 0, 1) := by decide +kernel
theorem d_N_add_69 : decode b_N_add 69 = .ok (.getfield 27, 3) := by decide +kernel
theorem d_N_add_72 : decode b_N_add 72 = .ok (.iload 6, 2) := by decide +kernel
theorem d_N_add_74 : decode b_N_add 74 = .ok (.iload 7, 2) := by decide +kernel
theorem d_N_add_76 : decode b_N_add 76 = .ok (.iastore, 1) := by decide +kernel
theorem d_N_add_77 : decode b_N_add 77 = .ok (.aload_n 0, 1) := by decide +kernel
theorem d_N_add_78 : decode b_N_add 78 = .ok (.getfield 47, 3) := by decide +kernel
theorem d_N_add_81 : decode b_N_add 81 = .ok (.iload 4, 2) := by decide +kernel
theorem d_N_add_83 : decode b_N_add 83 = .ok (.iload 6, 2) := by decide +kernel
theorem d_N_add_85 : decode b_N_add 85 = .ok (.iastore, 1) := by decide +kernel
theorem d_N_add_86 : decode b_N_add 86 = .ok (.aload_n 0, 1) := by decide +kernel
theorem d_N_add_87 : decode b_N_add 87 = .ok (.iload 5, 2) := by decide +kernel
theorem d_N_add_89 : decode b_N_add 89 = .ok (.iload 7, 2) := by decide +kernel
theorem d_N_add_91 : decode b_N_add 91 = .ok (.iload_n 2, 1) := by decide +kernel
theorem d_N_add_92 : decode b_N_add 92 = .ok (.invokevirtual 67, 3) := by decide +kernel
theorem d_N_add_95 : decode b_N_add 95 = .ok (.iload_n 1, 1) := by decide +kernel
theorem d_N_add_96 : decode b_N_add 96 = .ok (.invokestatic 71, 3) := by decide +kernel
theorem d_N_add_99 : decode b_N_add 99 = .ok (.ifCond .ne 14, 3) := by decide +kernel
theorem d_N_add_102 : decode b_N_add 102 = .ok (.aload_n 0, 1) := by decide +kernel
theorem d_N_add_103 : decode b_N_add 103 = .ok (.iload 5, 2) := by decide +kernel
theorem d_N_add_105 : decode b_N_add 105 = .ok (.iload 7, 2) := by decide +kernel
theorem d_N_add_107 : decode b_N_add 107 = .ok (.iconst 1, 1) := by decide +kernel
theorem d_N_add_108 : decode b_N_add 108 = .ok (.iadd, 1) := by decide +kernel
theorem d_N_add_109 : decode b_N_add 109 = .ok (.iload_n 3, 1) := by decide +kernel
theorem d_N_add_110 : decode b_N_add 110 = .ok (.invokevirtual 67, 3) := by decide +kernel
theorem d_N_add_113 : decode b_N_add 113 = .ok (.aload_n 0, 1) := by decide +kernel
theorem d_N_add_114 : decode b_N_add 114 = .ok (.iload 5, 2) := by decide +kernel
theorem d_N_add_116 : decode b_N_add 116 = .ok (.iload 8, 2) := by decide +kernel
theorem d_N_add_118 : decode b_N_add 118 = .ok (.iload 4, 2) := by decide +kernel
theorem d_N_add_120 : decode b_N_add 120 = .ok (.invokevirtual 67, 3) := by decide +kernel
theorem d_N_add_123 : decode b_N_add 123 = .ok (.aload_n 0, 1) := by decide +kernel
theorem d_N_add_124 : decode b_N_add 124 = .ok (.getfield 30, 3) := by decide +kernel
theorem d_N_add_127 : decode b_N_add 127 = .ok (.iload 5, 2) := by decide +kernel
theorem d_N_add_129 : decode b_N_add 129 = .ok (.iload 8, 2) := by decide +kernel
theorem d_N_add_131 : decode b_N_add 131 = .ok (.iconst 2, 1) := by decide +kernel
theorem d_N_add_132 : decode b_N_add 132 = .ok (.iadd, 1) := by decide +kernel
theorem d_N_add_133 : decode b_N_add 133 = .ok (.iastore, 1) := by decide +kernel
theorem d_N_add_134 : decode b_N_add 134 = .ok (.aload_n 0, 1) := by decide +kernel
theorem d_N_add_135 : decode b_N_add 135 = .ok (.dup, 1) := by decide +kernel
theorem d_N_add_136 : decode b_N_add 136 = .ok (.getfield 53, 3) := by decide +kernel
theorem d_N_add_139 : decode b_N_add 139 = .ok (.iconst 1, 1) := by decide +kernel
theorem d_N_add_140 : decode b_N_add 140 = .ok (.iadd, 1) := by decide +kernel
theorem d_N_add_141 : decode b_N_add 141 = .ok (.putfield 53, 3) := by decide +kernel
theorem d_N_add_144 : decode b_N_add 144 = .ok (.iload 6, 2) := by decide +kernel
theorem d_N_add_146 : decode b_N_add 146 = .ok (.ireturn, 1) := by decide +kernel
theorem d_N_addPin_0 : decode b_N_addPin 0 = .ok (.aload_n 0, 1) := by decide +kernel
theorem d_N_addPin_1 : decode b_N_addPin 1 = .ok (.getfield 35, 3) := by decide +kernel
theorem d_N_addPin_4 : decode b_N_addPin 4 = .ok (.iload_n 1, 1) := by decide +kernel
theorem d_N_addPin_5 : decode b_N_addPin 5 = .ok (.aaload, 1) := by decide +kernel
theorem d_N_addPin_6 : decode b_N_addPin 6 = .ok (.iload_n 2, 1) := by decide +kernel
theorem d_N_addPin_7 : decode b_N_addPin 7 = .ok (.iload_n 3, 1) := by decide +kernel
theorem d_N_addPin_8 : decode b_N_addPin 8 = .ok (.iastore, 1) := by decide +kernel
theorem d_N_addPin_9 : decode b_N_addPin 9 = .ok (.aload_n 0, 1) := by decide +kernel
theorem d_N_addPin_10 : decode b_N_addPin 10 = .ok (.getfield 38, 3) := by decide +kernel
theorem d_N_addPin_13 : decode b_N_addPin 13 = .ok (.iload_n 1, 1) := by decide +kernel
theorem d_N_addPin_14 : decode b_N_addPin 14 = .ok (.aaload, 1) := by decide +kernel
theorem d_N_addPin_15 : decode b_N_addPin 15 = .ok (.iload_n 3, 1) := by decide +kernel
theorem d_N_addPin_16 : decode b_N_addPin 16 = .ok (.dup2, 1) := by decide +kernel
theorem d_N_addPin_17 : decode b_N_addPin 17 = .ok (.iaload, 1) := by decide +kernel
theorem d_N_addPin_18 : decode b_N_addPin 18 = .ok (.iconst 1, 1) := by decide +kernel
theorem d_N_addPin_19 : decode b_N_addPin 19 = .ok (.iadd, 1) := by decide +kernel
theorem d_N_addPin_20 : decode b_N_addPin 20 = .ok (.iastore, 1) := by decide +kernel
theorem d_N_addPin_21 : decode b_N_addPin 21 = .ok (.aload_n 0, 1) := by decide +kernel
theorem d_N_addPin_22 : decode b_N_addPin 22 = .ok (.getfield 41, 3) := by decide +kernel
theorem d_N_addPin_25 : decode b_N_addPin 25 = .ok (.iload_n 3, 1) := by decide +kernel
theorem d_N_addPin_26 : decode b_N_addPin 26 = .ok (.aload_n 0, 1) := by decide +kernel
theorem d_N_addPin_27 : decode b_N_addPin 27 = .ok (.getfield 41, 3) := by decide +kernel
theorem d_N_addPin_30 : decode b_N_addPin 30 = .ok (.iload_n 3, 1) := by decide +kernel
theorem d_N_addPin_31 : decode b_N_addPin 31 = .ok (.iaload, 1) := by decide +kernel
theorem d_N_addPin_32 : decode b_N_addPin 32 = .ok (.iload_n 2, 1) := by decide +kernel
theorem d_N_addPin_33 : decode b_N_addPin 33 = .ok (.invokestatic 75, 3) := by decide +kernel
theorem d_N_addPin_36 : decode b_N_addPin 36 = .ok (.iastore, 1) := by decide +kernel
theorem d_N_addPin_37 : decode b_N_addPin 37 = .ok (.aload_n 0, 1) := by decide +kernel
theorem d_N_addPin_38 : decode b_N_addPin 38 = .ok (.getfield 44, 3) := by decide +kernel
theorem d_N_addPin_41 : decode b_N_addPin 41 = .ok (.iload_n 3, 1) := by decide +kernel
theorem d_N_addPin_42 : decode b_N_addPin 42 = .ok (.aload_n 0, 1) := by decide +kernel
theorem d_N_addPin_43 : decode b_N_addPin 43 = .ok (.getfield 44, 3) := by decide +kernel
theorem d_N_addPin_46 : decode b_N_addPin 46 = .ok (.iload_n 3, 1) := by decide +kernel
theorem d_N_addPin_47 : decode b_N_addPin 47 = .ok (.iaload, 1) := by decide +kernel
theorem d_N_addPin_48 : decode b_N_addPin 48 = .ok (.iload_n 2, 1) := by decide +kernel
theorem d_N_addPin_49 : decode b_N_addPin 49 = .ok (.invokestatic 81, 3) := by decide +kernel
theorem d_N_addPin_52 : decode b_N_addPin 52 = .ok (.iastore, 1) := by decide +kernel
theorem d_N_addPin_53 : decode b_N_addPin 53 = .ok (.return_, 1) := by decide +kernel
theorem d_N_hasPin_0 : decode b_N_hasPin 0 = .ok (.iload_n 1, 1) := by decide +kernel
theorem d_N_hasPin_1 : decode b_N_hasPin 1 = .ok (.aload_n 0, 1) := by decide +kernel
theorem d_N_hasPin_2 : decode b_N_hasPin 2 = .ok (.getfield 53, 3) := by decide +kernel
theorem d_N_hasPin_5 : decode b_N_hasPin 5 = .ok (.invokestatic 84, 3) := by decide +kernel
theorem d_N_hasPin_8 : decode b_N_hasPin 8 = .ok (.ifCond .eq 23, 3) := by decide +kernel
theorem d_N_hasPin_11 : decode b_N_hasPin 11 = .ok (.iload_n 2, 1) := by decide +kernel
theorem d_N_hasPin_12 : decode b_N_hasPin 12 = .ok (.aload_n 0, 1) := by decide +kernel
theorem d_N_hasPin_13 : decode b_N_hasPin 13 = .ok (.getfield 9, 3) := by decide +kernel
theorem d_N_hasPin_16 : decode b_N_hasPin 16 = .ok (.iload_n 1, 1) := by decide +kernel
theorem d_N_hasPin_17 : decode b_N_hasPin 17 = .ok (.iaload, 1) := by decide +kernel
theorem d_N_hasPin_18 : decode b_N_hasPin 18 = .ok (.invokestatic 63, 3) := by decide +kernel
theorem d_N_hasPin_21 : decode b_N_hasPin 21 = .ok (.invokestatic 84, 3) := by decide +kernel
theorem d_N_hasPin_24 : decode b_N_hasPin 24 = .ok (.ifCond .eq 7, 3) := by decide +kernel
theorem d_N_hasPin_27 : decode b_N_hasPin 27 = .ok (.iconst 1, 1) := by decide +kernel
theorem d_N_hasPin_28 : decode b_N_hasPin 28 = .ok (.goto 4, 3) := by decide +kernel
theorem d_N_hasPin_31 : decode b_N_hasPin 31 = .ok (.iconst 0, 1) := by decide +kernel
theorem d_N_hasPin_32 : decode b_N_hasPin 32 = .ok (.ireturn, 1) := by decide +kernel
theorem d_N_pinColumn_0 : decode b_N_pinColumn 0 = .ok (.aload_n 0, 1) := by decide +kernel
theorem d_N_pinColumn_1 : decode b_N_pinColumn 1 = .ok (.getfield 27, 3) := by decide +kernel
theorem d_N_pinColumn_4 : decode b_N_pinColumn 4 = .ok (.iload_n 1, 1) := by decide +kernel
theorem d_N_pinColumn_5 : decode b_N_pinColumn 5 = .ok (.iaload, 1) := by decide +kernel
theorem d_N_pinColumn_6 : decode b_N_pinColumn 6 = .ok (.iload_n 2, 1) := by decide +kernel
theorem d_N_pinColumn_7 : decode b_N_pinColumn 7 = .ok (.iadd, 1) := by decide +kernel
theorem d_N_pinColumn_8 : decode b_N_pinColumn 8 = .ok (.ireturn, 1) := by decide +kernel
theorem d_N_isDriven_0 : decode b_N_isDriven 0 = .ok (.aload_n 0, 1) := by decide +kernel
theorem d_N_isDriven_1 : decode b_N_isDriven 1 = .ok (.getfield 47, 3) := by decide +kernel
theorem d_N_isDriven_4 : decode b_N_isDriven 4 = .ok (.iload_n 1, 1) := by decide +kernel
theorem d_N_isDriven_5 : decode b_N_isDriven 5 = .ok (.iaload, 1) := by decide +kernel
theorem d_N_isDriven_6 : decode b_N_isDriven 6 = .ok (.iconst (-1), 1) := by decide +kernel
theorem d_N_isDriven_7 : decode b_N_isDriven 7 = .ok (.if_icmp .eq 7, 3) := by decide +kernel
theorem d_N_isDriven_10 : decode b_N_isDriven 10 = .ok (.iconst 1, 1) := by decide +kernel
theorem d_N_isDriven_11 : decode b_N_isDriven 11 = .ok (.goto 4, 3) := by decide +kernel
theorem d_N_isDriven_14 : decode b_N_isDriven 14 = .ok (.iconst 0, 1) := by decide +kernel
theorem d_N_isDriven_15 : decode b_N_isDriven 15 = .ok (.ireturn, 1) := by decide +kernel
theorem d_N_pins_0 : decode b_N_pins 0 = .ok (.aload_n 0, 1) := by decide +kernel
theorem d_N_pins_1 : decode b_N_pins 1 = .ok (.getfield 38, 3) := by decide +kernel
theorem d_N_pins_4 : decode b_N_pins 4 = .ok (.iconst 0, 1) := by decide +kernel
theorem d_N_pins_5 : decode b_N_pins 5 = .ok (.aaload, 1) := by decide +kernel
theorem d_N_pins_6 : decode b_N_pins 6 = .ok (.iload_n 1, 1) := by decide +kernel
theorem d_N_pins_7 : decode b_N_pins 7 = .ok (.iaload, 1) := by decide +kernel
theorem d_N_pins_8 : decode b_N_pins 8 = .ok (.aload_n 0, 1) := by decide +kernel
theorem d_N_pins_9 : decode b_N_pins 9 = .ok (.getfield 38, 3) := by decide +kernel
theorem d_N_pins_12 : decode b_N_pins 12 = .ok (.iconst 1, 1) := by decide +kernel
theorem d_N_pins_13 : decode b_N_pins 13 = .ok (.aaload, 1) := by decide +kernel
theorem d_N_pins_14 : decode b_N_pins 14 = .ok (.iload_n 1, 1) := by decide +kernel
theorem d_N_pins_15 : decode b_N_pins 15 = .ok (.iaload, 1) := by decide +kernel
theorem d_N_pins_16 : decode b_N_pins 16 = .ok (.iadd, 1) := by decide +kernel
theorem d_N_pins_17 : decode b_N_pins 17 = .ok (.ireturn, 1) := by decide +kernel
theorem d_N_hasPad_0 : decode b_N_hasPad 0 = .ok (.aload_n 0, 1) := by decide +kernel
theorem d_N_hasPad_1 : decode b_N_hasPad 1 = .ok (.iload_n 1, 1) := by decide +kernel
theorem d_N_hasPad_2 : decode b_N_hasPad 2 = .ok (.invokevirtual 88, 3) := by decide +kernel
theorem d_N_hasPad_5 : decode b_N_hasPad 5 = .ok (.ifCond .ne 15, 3) := by decide +kernel
theorem d_N_hasPad_8 : decode b_N_hasPad 8 = .ok (.aload_n 0, 1) := by decide +kernel
theorem d_N_hasPad_9 : decode b_N_hasPad 9 = .ok (.iload_n 1, 1) := by decide +kernel
theorem d_N_hasPad_10 : decode b_N_hasPad 10 = .ok (.invokevirtual 91, 3) := by decide +kernel
theorem d_N_hasPad_13 : decode b_N_hasPad 13 = .ok (.ifCond .le 7, 3) := by decide +kernel
theorem d_N_hasPad_16 : decode b_N_hasPad 16 = .ok (.iconst 1, 1) := by decide +kernel
theorem d_N_hasPad_17 : decode b_N_hasPad 17 = .ok (.goto 4, 3) := by decide +kernel
theorem d_N_hasPad_20 : decode b_N_hasPad 20 = .ok (.iconst 0, 1) := by decide +kernel
theorem d_N_hasPad_21 : decode b_N_hasPad 21 = .ok (.ireturn, 1) := by decide +kernel
theorem d_N_isWired_0 : decode b_N_isWired 0 = .ok (.aload_n 0, 1) := by decide +kernel
theorem d_N_isWired_1 : decode b_N_isWired 1 = .ok (.iload_n 1, 1) := by decide +kernel
theorem d_N_isWired_2 : decode b_N_isWired 2 = .ok (.invokevirtual 91, 3) := by decide +kernel
theorem d_N_isWired_5 : decode b_N_isWired 5 = .ok (.iconst 2, 1) := by decide +kernel
theorem d_N_isWired_6 : decode b_N_isWired 6 = .ok (.if_icmp .ge 11, 3) := by decide +kernel
theorem d_N_isWired_9 : decode b_N_isWired 9 = .ok (.aload_n 0, 1) := by decide +kernel
theorem d_N_isWired_10 : decode b_N_isWired 10 = .ok (.iload_n 1, 1) := by decide +kernel
theorem d_N_isWired_11 : decode b_N_isWired 11 = .ok (.invokevirtual 94, 3) := by decide +kernel
theorem d_N_isWired_14 : decode b_N_isWired 14 = .ok (.ifCond .eq 7, 3) := by decide +kernel
theorem d_N_isWired_17 : decode b_N_isWired 17 = .ok (.iconst 1, 1) := by decide +kernel
theorem d_N_isWired_18 : decode b_N_isWired 18 = .ok (.goto 4, 3) := by decide +kernel
theorem d_N_isWired_21 : decode b_N_isWired 21 = .ok (.iconst 0, 1) := by decide +kernel
theorem d_N_isWired_22 : decode b_N_isWired 22 = .ok (.ireturn, 1) := by decide +kernel
theorem d_N_wiredNets_0 : decode b_N_wiredNets 0 = .ok (.iconst 0, 1) := by decide +kernel
theorem d_N_wiredNets_1 : decode b_N_wiredNets 1 = .ok (.istore_n 1, 1) := by decide +kernel
theorem d_N_wiredNets_2 : decode b_N_wiredNets 2 = .ok (.iconst 0, 1) := by decide +kernel
theorem d_N_wiredNets_3 : decode b_N_wiredNets 3 = .ok (.istore_n 2, 1) := by decide +kernel
theorem d_N_wiredNets_4 : decode b_N_wiredNets 4 = .ok (.iload_n 2, 1) := by decide +kernel
theorem d_N_wiredNets_5 : decode b_N_wiredNets 5 = .ok (.bipush 12, 2) := by decide +kernel
theorem d_N_wiredNets_7 : decode b_N_wiredNets 7 = .ok (.if_icmp .ge 20, 3) := by decide +kernel
theorem d_N_wiredNets_10 : decode b_N_wiredNets 10 = .ok (.aload_n 0, 1) := by decide +kernel
theorem d_N_wiredNets_11 : decode b_N_wiredNets 11 = .ok (.iload_n 2, 1) := by decide +kernel
theorem d_N_wiredNets_12 : decode b_N_wiredNets 12 = .ok (.invokevirtual 97, 3) := by decide +kernel
theorem d_N_wiredNets_15 : decode b_N_wiredNets 15 = .ok (.ifCond .eq 6, 3) := by decide +kernel
theorem d_N_wiredNets_18 : decode b_N_wiredNets 18 = .ok (.iinc 1 1, 3) := by decide +kernel
theorem d_N_wiredNets_21 : decode b_N_wiredNets 21 = .ok (.iinc 2 1, 3) := by decide +kernel
theorem d_N_wiredNets_24 : decode b_N_wiredNets 24 = .ok (.goto (-20), 3) := by decide +kernel
theorem d_N_wiredNets_27 : decode b_N_wiredNets 27 = .ok (.iload_n 1, 1) := by decide +kernel
theorem d_N_wiredNets_28 : decode b_N_wiredNets 28 = .ok (.ireturn, 1) := by decide +kernel
theorem d_N_leftEnd_0 : decode b_N_leftEnd 0 = .ok (.aload_n 0, 1) := by decide +kernel
theorem d_N_leftEnd_1 : decode b_N_leftEnd 1 = .ok (.iload_n 1, 1) := by decide +kernel
theorem d_N_leftEnd_2 : decode b_N_leftEnd 2 = .ok (.invokevirtual 97, 3) := by decide +kernel
theorem d_N_leftEnd_5 : decode b_N_leftEnd 5 = .ok (.ifCond .ne 5, 3) := by decide +kernel
theorem d_N_leftEnd_8 : decode b_N_leftEnd 8 = .ok (.iconst (-1), 1) := by decide +kernel
theorem d_N_leftEnd_9 : decode b_N_leftEnd 9 = .ok (.ireturn, 1) := by decide +kernel
theorem d_N_leftEnd_10 : decode b_N_leftEnd 10 = .ok (.aload_n 0, 1) := by decide +kernel
theorem d_N_leftEnd_11 : decode b_N_leftEnd 11 = .ok (.iload_n 1, 1) := by decide +kernel
theorem d_N_leftEnd_12 : decode b_N_leftEnd 12 = .ok (.invokevirtual 94, 3) := by decide +kernel
theorem d_N_leftEnd_15 : decode b_N_leftEnd 15 = .ok (.ifCond .eq 7, 3) := by decide +kernel
theorem d_N_leftEnd_18 : decode b_N_leftEnd 18 = .ok (.iconst 0, 1) := by decide +kernel
theorem d_N_leftEnd_19 : decode b_N_leftEnd 19 = .ok (.goto 9, 3) := by decide +kernel
theorem d_N_leftEnd_22 : decode b_N_leftEnd 22 = .ok (.aload_n 0, 1) := by decide +kernel
theorem d_N_leftEnd_23 : decode b_N_leftEnd 23 = .ok (.getfield 41, 3) := by decide +kernel
theorem d_N_leftEnd_26 : decode b_N_leftEnd 26 = .ok (.iload_n 1, 1) := by decide +kernel
theorem d_N_leftEnd_27 : decode b_N_leftEnd 27 = .ok (.iaload, 1) := by decide +kernel
theorem d_N_leftEnd_28 : decode b_N_leftEnd 28 = .ok (.ireturn, 1) := by decide +kernel
theorem d_N_rightEnd_0 : decode b_N_rightEnd 0 = .ok (.aload_n 0, 1) := by decide +kernel
theorem d_N_rightEnd_1 : decode b_N_rightEnd 1 = .ok (.iload_n 1, 1) := by decide +kernel
theorem d_N_rightEnd_2 : decode b_N_rightEnd 2 = .ok (.invokevirtual 97, 3) := by decide +kernel
theorem d_N_rightEnd_5 : decode b_N_rightEnd 5 = .ok (.ifCond .eq 12, 3) := by decide +kernel
theorem d_N_rightEnd_8 : decode b_N_rightEnd 8 = .ok (.aload_n 0, 1) := by decide +kernel
theorem d_N_rightEnd_9 : decode b_N_rightEnd 9 = .ok (.getfield 44, 3) := by decide +kernel
theorem d_N_rightEnd_12 : decode b_N_rightEnd 12 = .ok (.iload_n 1, 1) := by decide +kernel
theorem d_N_rightEnd_13 : decode b_N_rightEnd 13 = .ok (.iaload, 1) := by decide +kernel
theorem d_N_rightEnd_14 : decode b_N_rightEnd 14 = .ok (.goto 4, 3) := by decide +kernel
theorem d_N_rightEnd_17 : decode b_N_rightEnd 17 = .ok (.iconst (-1), 1) := by decide +kernel
theorem d_N_rightEnd_18 : decode b_N_rightEnd 18 = .ok (.ireturn, 1) := by decide +kernel
theorem d_N_isAbove_0 : decode b_N_isAbove 0 = .ok (.iload_n 1, 1) := by decide +kernel
theorem d_N_isAbove_1 : decode b_N_isAbove 1 = .ok (.iload_n 2, 1) := by decide +kernel
theorem d_N_isAbove_2 : decode b_N_isAbove 2 = .ok (.if_icmp .eq 19, 3) := by decide +kernel
theorem d_N_isAbove_5 : decode b_N_isAbove 5 = .ok (.aload_n 0, 1) := by decide +kernel
theorem d_N_isAbove_6 : decode b_N_isAbove 6 = .ok (.iload_n 1, 1) := by decide +kernel
theorem d_N_isAbove_7 : decode b_N_isAbove 7 = .ok (.invokevirtual 97, 3) := by decide +kernel
theorem d_N_isAbove_10 : decode b_N_isAbove 10 = .ok (.ifCond .eq 11, 3) := by decide +kernel
theorem d_N_isAbove_13 : decode b_N_isAbove 13 = .ok (.aload_n 0, 1) := by decide +kernel
theorem d_N_isAbove_14 : decode b_N_isAbove 14 = .ok (.iload_n 2, 1) := by decide +kernel
theorem d_N_isAbove_15 : decode b_N_isAbove 15 = .ok (.invokevirtual 97, 3) := by decide +kernel
theorem d_N_isAbove_18 : decode b_N_isAbove 18 = .ok (.ifCond .ne 5, 3) := by decide +kernel
theorem d_N_isAbove_21 : decode b_N_isAbove 21 = .ok (.iconst 0, 1) := by decide +kernel
theorem d_N_isAbove_22 : decode b_N_isAbove 22 = .ok (.ireturn, 1) := by decide +kernel
theorem d_N_isAbove_23 : decode b_N_isAbove 23 = .ok (.iconst 0, 1) := by decide +kernel
theorem d_N_isAbove_24 : decode b_N_isAbove 24 = .ok (.istore_n 3, 1) := by decide +kernel
theorem d_N_isAbove_25 : decode b_N_isAbove 25 = .ok (.iload_n 3, 1) := by decide +kernel
theorem d_N_isAbove_26 : decode b_N_isAbove 26 = .ok (.bipush 24, 2) := by decide +kernel
theorem d_N_isAbove_28 : decode b_N_isAbove 28 = .ok (.if_icmp .ge 35, 3) := by decide +kernel
theorem d_N_isAbove_31 : decode b_N_isAbove 31 = .ok (.aload_n 0, 1) := by decide +kernel
theorem d_N_isAbove_32 : decode b_N_isAbove 32 = .ok (.getfield 35, 3) := by decide +kernel
theorem d_N_isAbove_35 : decode b_N_isAbove 35 = .ok (.iconst 0, 1) := by decide +kernel
theorem d_N_isAbove_36 : decode b_N_isAbove 36 = .ok (.aaload, 1) := by decide +kernel
theorem d_N_isAbove_37 : decode b_N_isAbove 37 = .ok (.iload_n 3, 1) := by decide +kernel
theorem d_N_isAbove_38 : decode b_N_isAbove 38 = .ok (.iaload, 1) := by decide +kernel
theorem d_N_isAbove_39 : decode b_N_isAbove 39 = .ok (.iload_n 1, 1) := by decide +kernel
theorem d_N_isAbove_40 : decode b_N_isAbove 40 = .ok (.if_icmp .ne 17, 3) := by decide +kernel
theorem d_N_isAbove_43 : decode b_N_isAbove 43 = .ok (.aload_n 0, 1) := by decide +kernel
theorem d_N_isAbove_44 : decode b_N_isAbove 44 = .ok (.getfield 35, 3) := by decide +kernel
theorem d_N_isAbove_47 : decode b_N_isAbove 47 = .ok (.iconst 1, 1) := by decide +kernel
theorem d_N_isAbove_48 : decode b_N_isAbove 48 = .ok (.aaload, 1) := by decide +kernel
theorem d_N_isAbove_49 : decode b_N_isAbove 49 = .ok (.iload_n 3, 1) := by decide +kernel
theorem d_N_isAbove_50 : decode b_N_isAbove 50 = .ok (.iaload, 1) := by decide +kernel
theorem d_N_isAbove_51 : decode b_N_isAbove 51 = .ok (.iload_n 2, 1) := by decide +kernel
theorem d_N_isAbove_52 : decode b_N_isAbove 52 = .ok (.if_icmp .ne 5, 3) := by decide +kernel
theorem d_N_isAbove_55 : decode b_N_isAbove 55 = .ok (.iconst 1, 1) := by decide +kernel
theorem d_N_isAbove_56 : decode b_N_isAbove 56 = .ok (.ireturn, 1) := by decide +kernel
theorem d_N_isAbove_57 : decode b_N_isAbove 57 = .ok (.iinc 3 1, 3) := by decide +kernel
theorem d_N_isAbove_60 : decode b_N_isAbove 60 = .ok (.goto (-35), 3) := by decide +kernel
theorem d_N_isAbove_63 : decode b_N_isAbove 63 = .ok (.iconst 0, 1) := by decide +kernel
theorem d_N_isAbove_64 : decode b_N_isAbove 64 = .ok (.ireturn, 1) := by decide +kernel
