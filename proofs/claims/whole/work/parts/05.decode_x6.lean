theorem dX6_init_0 : decode cX6_init 0 = .ok (.aload_n 0, 1) := by decide +kernel
theorem dX6_init_1 : decode cX6_init 1 = .ok (.invokespecial 1, 3) := by decide +kernel
theorem dX6_init_4 : decode cX6_init 4 = .ok (.aload_n 0, 1) := by decide +kernel
theorem dX6_init_5 : decode cX6_init 5 = .ok (.sipush 483, 3) := by decide +kernel
theorem dX6_init_8 : decode cX6_init 8 = .ok (.newarray .int, 2) := by decide +kernel
theorem dX6_init_10 : decode cX6_init 10 = .ok (.putfield 7, 3) := by decide +kernel
theorem dX6_init_13 : decode cX6_init 13 = .ok (.aload_n 0, 1) := by decide +kernel
theorem dX6_init_14 : decode cX6_init 14 = .ok (.bipush 90, 2) := by decide +kernel
theorem dX6_init_16 : decode cX6_init 16 = .ok (.newarray .int, 2) := by decide +kernel
theorem dX6_init_18 : decode cX6_init 18 = .ok (.putfield 13, 3) := by decide +kernel
theorem dX6_init_21 : decode cX6_init 21 = .ok (.aload_n 0, 1) := by decide +kernel
theorem dX6_init_22 : decode cX6_init 22 = .ok (.bipush 96, 2) := by decide +kernel
theorem dX6_init_24 : decode cX6_init 24 = .ok (.newarray .long, 2) := by decide +kernel
theorem dX6_init_26 : decode cX6_init 26 = .ok (.putfield 16, 3) := by decide +kernel
theorem dX6_init_29 : decode cX6_init 29 = .ok (.aload_n 0, 1) := by decide +kernel
theorem dX6_init_30 : decode cX6_init 30 = .ok (.iconst 4, 1) := by decide +kernel
theorem dX6_init_31 : decode cX6_init 31 = .ok (.newarray .int, 2) := by decide +kernel
theorem dX6_init_33 : decode cX6_init 33 = .ok (.putfield 20, 3) := by decide +kernel
theorem dX6_init_36 : decode cX6_init 36 = .ok (.aload_n 0, 1) := by decide +kernel
theorem dX6_init_37 : decode cX6_init 37 = .ok (.iconst 4, 1) := by decide +kernel
theorem dX6_init_38 : decode cX6_init 38 = .ok (.newarray .int, 2) := by decide +kernel
theorem dX6_init_40 : decode cX6_init 40 = .ok (.putfield 23, 3) := by decide +kernel
theorem dX6_init_43 : decode cX6_init 43 = .ok (.aload_n 0, 1) := by decide +kernel
theorem dX6_init_44 : decode cX6_init 44 = .ok (.bipush 36, 2) := by decide +kernel
theorem dX6_init_46 : decode cX6_init 46 = .ok (.newarray .int, 2) := by decide +kernel
theorem dX6_init_48 : decode cX6_init 48 = .ok (.putfield 26, 3) := by decide +kernel
theorem dX6_init_51 : decode cX6_init 51 = .ok (.aload_n 0, 1) := by decide +kernel
theorem dX6_init_52 : decode cX6_init 52 = .ok (.bipush 81, 2) := by decide +kernel
theorem dX6_init_54 : decode cX6_init 54 = .ok (.newarray .int, 2) := by decide +kernel
theorem dX6_init_56 : decode cX6_init 56 = .ok (.putfield 29, 3) := by decide +kernel
theorem dX6_init_59 : decode cX6_init 59 = .ok (.aload_n 0, 1) := by decide +kernel
theorem dX6_init_60 : decode cX6_init 60 = .ok (.bipush 81, 2) := by decide +kernel
theorem dX6_init_62 : decode cX6_init 62 = .ok (.newarray .int, 2) := by decide +kernel
theorem dX6_init_64 : decode cX6_init 64 = .ok (.putfield 32, 3) := by decide +kernel
theorem dX6_init_67 : decode cX6_init 67 = .ok (.aload_n 0, 1) := by decide +kernel
theorem dX6_init_68 : decode cX6_init 68 = .ok (.bipush 24, 2) := by decide +kernel
theorem dX6_init_70 : decode cX6_init 70 = .ok (.newarray .long, 2) := by decide +kernel
theorem dX6_init_72 : decode cX6_init 72 = .ok (.putfield 35, 3) := by decide +kernel
theorem dX6_init_75 : decode cX6_init 75 = .ok (.aload_n 0, 1) := by decide +kernel
theorem dX6_init_76 : decode cX6_init 76 = .ok (.getfield 7, 3) := by decide +kernel
theorem dX6_init_79 : decode cX6_init 79 = .ok (.bipush 20, 2) := by decide +kernel
theorem dX6_init_81 : decode cX6_init 81 = .ok (.iconst 1, 1) := by decide +kernel
theorem dX6_init_82 : decode cX6_init 82 = .ok (.iastore, 1) := by decide +kernel
theorem dX6_init_83 : decode cX6_init 83 = .ok (.aload_n 0, 1) := by decide +kernel
theorem dX6_init_84 : decode cX6_init 84 = .ok (.getfield 7, 3) := by decide +kernel
theorem dX6_init_87 : decode cX6_init 87 = .ok (.bipush 23, 2) := by decide +kernel
theorem dX6_init_89 : decode cX6_init 89 = .ok (.iconst 3, 1) := by decide +kernel
theorem dX6_init_90 : decode cX6_init 90 = .ok (.iastore, 1) := by decide +kernel
theorem dX6_init_91 : decode cX6_init 91 = .ok (.iconst 0, 1) := by decide +kernel
theorem dX6_init_92 : decode cX6_init 92 = .ok (.istore_n 1, 1) := by decide +kernel
theorem dX6_init_93 : decode cX6_init 93 = .ok (.iload_n 1, 1) := by decide +kernel
theorem dX6_init_94 : decode cX6_init 94 = .ok (.iconst 4, 1) := by decide +kernel
theorem dX6_init_95 : decode cX6_init 95 = .ok (.if_icmp .ge 16, 3) := by decide +kernel
theorem dX6_init_98 : decode cX6_init 98 = .ok (.aload_n 0, 1) := by decide +kernel
theorem dX6_init_99 : decode cX6_init 99 = .ok (.getfield 23, 3) := by decide +kernel
theorem dX6_init_102 : decode cX6_init 102 = .ok (.iload_n 1, 1) := by decide +kernel
theorem dX6_init_103 : decode cX6_init 103 = .ok (.iconst (-1), 1) := by decide +kernel
theorem dX6_init_104 : decode cX6_init 104 = .ok (.iastore, 1) := by decide +kernel
theorem dX6_init_105 : decode cX6_init 105 = .ok (.iinc 1 1, 3) := by decide +kernel
theorem dX6_init_108 : decode cX6_init 108 = .ok (.goto (-15), 3) := by decide +kernel
theorem dX6_init_111 : decode cX6_init 111 = .ok (.return_, 1) := by decide +kernel
theorem dX6_in_0 : decode cX6_in 0 = .ok (.lload_n 0, 1) := by decide +kernel
theorem dX6_in_1 : decode cX6_in 1 = .ok (.lload_n 2, 1) := by decide +kernel
theorem dX6_in_2 : decode cX6_in 2 = .ok (.lcmp, 1) := by decide +kernel
theorem dX6_in_3 : decode cX6_in 3 = .ok (.ifCond .lt 14, 3) := by decide +kernel
theorem dX6_in_6 : decode cX6_in 6 = .ok (.lload_n 0, 1) := by decide +kernel
theorem dX6_in_7 : decode cX6_in 7 = .ok (.lload 4, 2) := by decide +kernel
theorem dX6_in_9 : decode cX6_in 9 = .ok (.lcmp, 1) := by decide +kernel
theorem dX6_in_10 : decode cX6_in 10 = .ok (.ifCond .gt 7, 3) := by decide +kernel
theorem dX6_in_13 : decode cX6_in 13 = .ok (.iconst 1, 1) := by decide +kernel
theorem dX6_in_14 : decode cX6_in 14 = .ok (.goto 4, 3) := by decide +kernel
theorem dX6_in_17 : decode cX6_in 17 = .ok (.iconst 0, 1) := by decide +kernel
theorem dX6_in_18 : decode cX6_in 18 = .ok (.ireturn, 1) := by decide +kernel
theorem dX6_has_0 : decode cX6_has 0 = .ok (.iload_n 0, 1) := by decide +kernel
theorem dX6_has_1 : decode cX6_has 1 = .ok (.iload_n 1, 1) := by decide +kernel
theorem dX6_has_2 : decode cX6_has 2 = .ok (.ishr, 1) := by decide +kernel
theorem dX6_has_3 : decode cX6_has 3 = .ok (.iconst 1, 1) := by decide +kernel
theorem dX6_has_4 : decode cX6_has 4 = .ok (.iand, 1) := by decide +kernel
theorem dX6_has_5 : decode cX6_has 5 = .ok (.iconst 1, 1) := by decide +kernel
theorem dX6_has_6 : decode cX6_has 6 = .ok (.if_icmp .ne 7, 3) := by decide +kernel
theorem dX6_has_9 : decode cX6_has 9 = .ok (.iconst 1, 1) := by decide +kernel
theorem dX6_has_10 : decode cX6_has 10 = .ok (.goto 4, 3) := by decide +kernel
theorem dX6_has_13 : decode cX6_has 13 = .ok (.iconst 0, 1) := by decide +kernel
theorem dX6_has_14 : decode cX6_has 14 = .ok (.ireturn, 1) := by decide +kernel
theorem dX6_ones_0 : decode cX6_ones 0 = .ok (.iconst 0, 1) := by decide +kernel
theorem dX6_ones_1 : decode cX6_ones 1 = .ok (.istore_n 1, 1) := by decide +kernel
theorem dX6_ones_2 : decode cX6_ones 2 = .ok (.iconst 0, 1) := by decide +kernel
theorem dX6_ones_3 : decode cX6_ones 3 = .ok (.istore_n 2, 1) := by decide +kernel
theorem dX6_ones_4 : decode cX6_ones 4 = .ok (.iload_n 2, 1) := by decide +kernel
theorem dX6_ones_5 : decode cX6_ones 5 = .ok (.bipush 8, 2) := by decide +kernel
theorem dX6_ones_7 : decode cX6_ones 7 = .ok (.if_icmp .ge 17, 3) := by decide +kernel
theorem dX6_ones_10 : decode cX6_ones 10 = .ok (.iload_n 1, 1) := by decide +kernel
theorem dX6_ones_11 : decode cX6_ones 11 = .ok (.iload_n 0, 1) := by decide +kernel
theorem dX6_ones_12 : decode cX6_ones 12 = .ok (.iload_n 2, 1) := by decide +kernel
theorem dX6_ones_13 : decode cX6_ones 13 = .ok (.ishr, 1) := by decide +kernel
theorem dX6_ones_14 : decode cX6_ones 14 = .ok (.iconst 1, 1) := by decide +kernel
theorem dX6_ones_15 : decode cX6_ones 15 = .ok (.iand, 1) := by decide +kernel
theorem dX6_ones_16 : decode cX6_ones 16 = .ok (.iadd, 1) := by decide +kernel
theorem dX6_ones_17 : decode cX6_ones 17 = .ok (.istore_n 1, 1) := by decide +kernel
theorem dX6_ones_18 : decode cX6_ones 18 = .ok (.iinc 2 1, 3) := by decide +kernel
theorem dX6_ones_21 : decode cX6_ones 21 = .ok (.goto (-17), 3) := by decide +kernel
theorem dX6_ones_24 : decode cX6_ones 24 = .ok (.iload_n 1, 1) := by decide +kernel
theorem dX6_ones_25 : decode cX6_ones 25 = .ok (.ireturn, 1) := by decide +kernel
theorem dX6_copyAll_0 : decode cX6_copyAll 0 = .ok (.iconst 0, 1) := by decide +kernel
theorem dX6_copyAll_1 : decode cX6_copyAll 1 = .ok (.istore 4, 2) := by decide +kernel
theorem dX6_copyAll_3 : decode cX6_copyAll 3 = .ok (.iload 4, 2) := by decide +kernel
theorem dX6_copyAll_5 : decode cX6_copyAll 5 = .ok (.iload_n 3, 1) := by decide +kernel
theorem dX6_copyAll_6 : decode cX6_copyAll 6 = .ok (.if_icmp .ge 27, 3) := by decide +kernel
theorem dX6_copyAll_9 : decode cX6_copyAll 9 = .ok (.aload_n 0, 1) := by decide +kernel
theorem dX6_copyAll_10 : decode cX6_copyAll 10 = .ok (.getfield 7, 3) := by decide +kernel
theorem dX6_copyAll_13 : decode cX6_copyAll 13 = .ok (.iload_n 2, 1) := by decide +kernel
theorem dX6_copyAll_14 : decode cX6_copyAll 14 = .ok (.iload 4, 2) := by decide +kernel
theorem dX6_copyAll_16 : decode cX6_copyAll 16 = .ok (.iadd, 1) := by decide +kernel
theorem dX6_copyAll_17 : decode cX6_copyAll 17 = .ok (.aload_n 0, 1) := by decide +kernel
theorem dX6_copyAll_18 : decode cX6_copyAll 18 = .ok (.getfield 7, 3) := by decide +kernel
theorem dX6_copyAll_21 : decode cX6_copyAll 21 = .ok (.iload_n 1, 1) := by decide +kernel
theorem dX6_copyAll_22 : decode cX6_copyAll 22 = .ok (.iload 4, 2) := by decide +kernel
theorem dX6_copyAll_24 : decode cX6_copyAll 24 = .ok (.iadd, 1) := by decide +kernel
theorem dX6_copyAll_25 : decode cX6_copyAll 25 = .ok (.iaload, 1) := by decide +kernel
theorem dX6_copyAll_26 : decode cX6_copyAll 26 = .ok (.iastore, 1) := by decide +kernel
theorem dX6_copyAll_27 : decode cX6_copyAll 27 = .ok (.iinc 4 1, 3) := by decide +kernel
theorem dX6_copyAll_30 : decode cX6_copyAll 30 = .ok (.goto (-27), 3) := by decide +kernel
theorem dX6_copyAll_33 : decode cX6_copyAll 33 = .ok (.return_, 1) := by decide +kernel
theorem dX6_isRider_0 : decode cX6_isRider 0 = .ok (.iload_n 1, 1) := by decide +kernel
theorem dX6_isRider_1 : decode cX6_isRider 1 = .ok (.i2l, 1) := by decide +kernel
theorem dX6_isRider_2 : decode cX6_isRider 2 = .ok (.lconst 0, 1) := by decide +kernel
theorem dX6_isRider_3 : decode cX6_isRider 3 = .ok (.aload_n 0, 1) := by decide +kernel
theorem dX6_isRider_4 : decode cX6_isRider 4 = .ok (.getfield 7, 3) := by decide +kernel
theorem dX6_isRider_7 : decode cX6_isRider 7 = .ok (.bipush 22, 2) := by decide +kernel
theorem dX6_isRider_9 : decode cX6_isRider 9 = .ok (.iaload, 1) := by decide +kernel
theorem dX6_isRider_10 : decode cX6_isRider 10 = .ok (.iconst 1, 1) := by decide +kernel
theorem dX6_isRider_11 : decode cX6_isRider 11 = .ok (.isub, 1) := by decide +kernel
theorem dX6_isRider_12 : decode cX6_isRider 12 = .ok (.i2l, 1) := by decide +kernel
theorem dX6_isRider_13 : decode cX6_isRider 13 = .ok (.invokestatic 38, 3) := by decide +kernel
theorem dX6_isRider_16 : decode cX6_isRider 16 = .ok (.ireturn, 1) := by decide +kernel
theorem dX6_areTwo_0 : decode cX6_areTwo 0 = .ok (.aload_n 0, 1) := by decide +kernel
theorem dX6_areTwo_1 : decode cX6_areTwo 1 = .ok (.iload_n 1, 1) := by decide +kernel
theorem dX6_areTwo_2 : decode cX6_areTwo 2 = .ok (.invokevirtual 42, 3) := by decide +kernel
theorem dX6_areTwo_5 : decode cX6_areTwo 5 = .ok (.ifCond .eq 20, 3) := by decide +kernel
theorem dX6_areTwo_8 : decode cX6_areTwo 8 = .ok (.aload_n 0, 1) := by decide +kernel
theorem dX6_areTwo_9 : decode cX6_areTwo 9 = .ok (.iload_n 2, 1) := by decide +kernel
theorem dX6_areTwo_10 : decode cX6_areTwo 10 = .ok (.invokevirtual 42, 3) := by decide +kernel
theorem dX6_areTwo_13 : decode cX6_areTwo 13 = .ok (.ifCond .eq 12, 3) := by decide +kernel
theorem dX6_areTwo_16 : decode cX6_areTwo 16 = .ok (.iload_n 1, 1) := by decide +kernel
theorem dX6_areTwo_17 : decode cX6_areTwo 17 = .ok (.iload_n 2, 1) := by decide +kernel
theorem dX6_areTwo_18 : decode cX6_areTwo 18 = .ok (.if_icmp .eq 7, 3) := by decide +kernel
theorem dX6_areTwo_21 : decode cX6_areTwo 21 = .ok (.iconst 1, 1) := by decide +kernel
theorem dX6_areTwo_22 : decode cX6_areTwo 22 = .ok (.goto 4, 3) := by decide +kernel
theorem dX6_areTwo_25 : decode cX6_areTwo 25 = .ok (.iconst 0, 1) := by decide +kernel
theorem dX6_areTwo_26 : decode cX6_areTwo 26 = .ok (.ireturn, 1) := by decide +kernel
theorem dX6_stage_0 : decode cX6_stage 0 = .ok (.iload_n 1, 1) := by decide +kernel
theorem dX6_stage_1 : decode cX6_stage 1 = .ok (.i2l, 1) := by decide +kernel
theorem dX6_stage_2 : decode cX6_stage 2 = .ok (.lconst 1, 1) := by decide +kernel
theorem dX6_stage_3 : decode cX6_stage 3 = .ok (.ldc2_w 46, 3) := by decide +kernel
theorem dX6_stage_6 : decode cX6_stage 6 = .ok (.invokestatic 38, 3) := by decide +kernel
theorem dX6_stage_9 : decode cX6_stage 9 = .ok (.ifCond .eq 27, 3) := by decide +kernel
theorem dX6_stage_12 : decode cX6_stage 12 = .ok (.iload_n 2, 1) := by decide +kernel
theorem dX6_stage_13 : decode cX6_stage 13 = .ok (.i2l, 1) := by decide +kernel
theorem dX6_stage_14 : decode cX6_stage 14 = .ok (.lconst 0, 1) := by decide +kernel
theorem dX6_stage_15 : decode cX6_stage 15 = .ok (.ldc2_w 46, 3) := by decide +kernel
theorem dX6_stage_18 : decode cX6_stage 18 = .ok (.invokestatic 38, 3) := by decide +kernel
theorem dX6_stage_21 : decode cX6_stage 21 = .ok (.ifCond .eq 15, 3) := by decide +kernel
theorem dX6_stage_24 : decode cX6_stage 24 = .ok (.iload_n 3, 1) := by decide +kernel
theorem dX6_stage_25 : decode cX6_stage 25 = .ok (.i2l, 1) := by decide +kernel
theorem dX6_stage_26 : decode cX6_stage 26 = .ok (.lconst 0, 1) := by decide +kernel
theorem dX6_stage_27 : decode cX6_stage 27 = .ok (.ldc2_w 48, 3) := by decide +kernel
theorem dX6_stage_30 : decode cX6_stage 30 = .ok (.invokestatic 38, 3) := by decide +kernel
theorem dX6_stage_33 : decode cX6_stage 33 = .ok (.ifCond .ne 5, 3) := by decide +kernel
theorem dX6_stage_36 : decode cX6_stage 36 = .ok (.iconst (-1), 1) := by decide +kernel
theorem dX6_stage_37 : decode cX6_stage 37 = .ok (.ireturn, 1) := by decide +kernel
theorem dX6_stage_38 : decode cX6_stage 38 = .ok (.aload_n 0, 1) := by decide +kernel
theorem dX6_stage_39 : decode cX6_stage 39 = .ok (.getfield 7, 3) := by decide +kernel
theorem dX6_stage_42 : decode cX6_stage 42 = .ok (.bipush 21, 2) := by decide +kernel
theorem dX6_stage_44 : decode cX6_stage 44 = .ok (.iaload, 1) := by decide +kernel
theorem dX6_stage_45 : decode cX6_stage 45 = .ok (.bipush 8, 2) := by decide +kernel
theorem dX6_stage_47 : decode cX6_stage 47 = .ok (.if_icmp .ne 6, 3) := by decide +kernel
theorem dX6_stage_50 : decode cX6_stage 50 = .ok (.bipush (-3), 2) := by decide +kernel
theorem dX6_stage_52 : decode cX6_stage 52 = .ok (.ireturn, 1) := by decide +kernel
theorem dX6_stage_53 : decode cX6_stage 53 = .ok (.aload_n 0, 1) := by decide +kernel
theorem dX6_stage_54 : decode cX6_stage 54 = .ok (.getfield 7, 3) := by decide +kernel
theorem dX6_stage_57 : decode cX6_stage 57 = .ok (.bipush 21, 2) := by decide +kernel
theorem dX6_stage_59 : decode cX6_stage 59 = .ok (.iaload, 1) := by decide +kernel
theorem dX6_stage_60 : decode cX6_stage 60 = .ok (.istore 4, 2) := by decide +kernel
theorem dX6_stage_62 : decode cX6_stage 62 = .ok (.aload_n 0, 1) := by decide +kernel
theorem dX6_stage_63 : decode cX6_stage 63 = .ok (.getfield 7, 3) := by decide +kernel
theorem dX6_stage_66 : decode cX6_stage 66 = .ok (.bipush 24, 2) := by decide +kernel
theorem dX6_stage_68 : decode cX6_stage 68 = .ok (.iload 4, 2) := by decide +kernel
theorem dX6_stage_70 : decode cX6_stage 70 = .ok (.iadd, 1) := by decide +kernel
theorem dX6_stage_71 : decode cX6_stage 71 = .ok (.iload_n 1, 1) := by decide +kernel
theorem dX6_stage_72 : decode cX6_stage 72 = .ok (.iastore, 1) := by decide +kernel
theorem dX6_stage_73 : decode cX6_stage 73 = .ok (.aload_n 0, 1) := by decide +kernel
theorem dX6_stage_74 : decode cX6_stage 74 = .ok (.getfield 7, 3) := by decide +kernel
theorem dX6_stage_77 : decode cX6_stage 77 = .ok (.bipush 32, 2) := by decide +kernel
theorem dX6_stage_79 : decode cX6_stage 79 = .ok (.iload 4, 2) := by decide +kernel
theorem dX6_stage_81 : decode cX6_stage 81 = .ok (.iadd, 1) := by decide +kernel
theorem dX6_stage_82 : decode cX6_stage 82 = .ok (.iload_n 2, 1) := by decide +kernel
theorem dX6_stage_83 : decode cX6_stage 83 = .ok (.iastore, 1) := by decide +kernel
theorem dX6_stage_84 : decode cX6_stage 84 = .ok (.aload_n 0, 1) := by decide +kernel
theorem dX6_stage_85 : decode cX6_stage 85 = .ok (.getfield 7, 3) := by decide +kernel
theorem dX6_stage_88 : decode cX6_stage 88 = .ok (.iconst 0, 1) := by decide +kernel
theorem dX6_stage_89 : decode cX6_stage 89 = .ok (.iload 4, 2) := by decide +kernel
theorem dX6_stage_91 : decode cX6_stage 91 = .ok (.iadd, 1) := by decide +kernel
theorem dX6_stage_92 : decode cX6_stage 92 = .ok (.iload_n 3, 1) := by decide +kernel
theorem dX6_stage_93 : decode cX6_stage 93 = .ok (.iastore, 1) := by decide +kernel
theorem dX6_stage_94 : decode cX6_stage 94 = .ok (.aload_n 0, 1) := by decide +kernel
theorem dX6_stage_95 : decode cX6_stage 95 = .ok (.getfield 7, 3) := by decide +kernel
theorem dX6_stage_98 : decode cX6_stage 98 = .ok (.bipush 21, 2) := by decide +kernel
theorem dX6_stage_100 : decode cX6_stage 100 = .ok (.dup2, 1) := by decide +kernel
theorem dX6_stage_101 : decode cX6_stage 101 = .ok (.iaload, 1) := by decide +kernel
theorem dX6_stage_102 : decode cX6_stage 102 = .ok (.iconst 1, 1) := by decide +kernel
theorem dX6_stage_103 : decode cX6_stage 103 = .ok (.iadd, 1) := by decide +kernel
theorem dX6_stage_104 : decode cX6_stage 104 = .ok (.iastore, 1) := by decide +kernel
theorem dX6_stage_105 : decode cX6_stage 105 = .ok (.aload_n 0, 1) := by decide +kernel
theorem dX6_stage_106 : decode cX6_stage 106 = .ok (.getfield 7, 3) := by decide +kernel
theorem dX6_stage_109 : decode cX6_stage 109 = .ok (.bipush 48, 2) := by decide +kernel
theorem dX6_stage_111 : decode cX6_stage 111 = .ok (.iconst 0, 1) := by decide +kernel
theorem dX6_stage_112 : decode cX6_stage 112 = .ok (.iastore, 1) := by decide +kernel
theorem dX6_stage_113 : decode cX6_stage 113 = .ok (.iload 4, 2) := by decide +kernel
theorem dX6_stage_115 : decode cX6_stage 115 = .ok (.ireturn, 1) := by decide +kernel
theorem dX6_rider_0 : decode cX6_rider 0 = .ok (.iload_n 1, 1) := by decide +kernel
theorem dX6_rider_1 : decode cX6_rider 1 = .ok (.i2l, 1) := by decide +kernel
theorem dX6_rider_2 : decode cX6_rider 2 = .ok (.lconst 0, 1) := by decide +kernel
theorem dX6_rider_3 : decode cX6_rider 3 = .ok (.ldc2_w 48, 3) := by decide +kernel
theorem dX6_rider_6 : decode cX6_rider 6 = .ok (.invokestatic 38, 3) := by decide +kernel
theorem dX6_rider_9 : decode cX6_rider 9 = .ok (.ifCond .eq 27, 3) := by decide +kernel
theorem dX6_rider_12 : decode cX6_rider 12 = .ok (.iload_n 2, 1) := by decide +kernel
theorem dX6_rider_13 : decode cX6_rider 13 = .ok (.i2l, 1) := by decide +kernel
theorem dX6_rider_14 : decode cX6_rider 14 = .ok (.lconst 0, 1) := by decide +kernel
theorem dX6_rider_15 : decode cX6_rider 15 = .ok (.ldc2_w 50, 3) := by decide +kernel
theorem dX6_rider_18 : decode cX6_rider 18 = .ok (.invokestatic 38, 3) := by decide +kernel
theorem dX6_rider_21 : decode cX6_rider 21 = .ok (.ifCond .eq 15, 3) := by decide +kernel
theorem dX6_rider_24 : decode cX6_rider 24 = .ok (.iload_n 3, 1) := by decide +kernel
theorem dX6_rider_25 : decode cX6_rider 25 = .ok (.i2l, 1) := by decide +kernel
theorem dX6_rider_26 : decode cX6_rider 26 = .ok (.lconst 0, 1) := by decide +kernel
theorem dX6_rider_27 : decode cX6_rider 27 = .ok (.ldc2_w 52, 3) := by decide +kernel
theorem dX6_rider_30 : decode cX6_rider 30 = .ok (.invokestatic 38, 3) := by decide +kernel
theorem dX6_rider_33 : decode cX6_rider 33 = .ok (.ifCond .ne 5, 3) := by decide +kernel
theorem dX6_rider_36 : decode cX6_rider 36 = .ok (.iconst (-1), 1) := by decide +kernel
theorem dX6_rider_37 : decode cX6_rider 37 = .ok (.ireturn, 1) := by decide +kernel
theorem dX6_rider_38 : decode cX6_rider 38 = .ok (.aload_n 0, 1) := by decide +kernel
theorem dX6_rider_39 : decode cX6_rider 39 = .ok (.getfield 7, 3) := by decide +kernel
theorem dX6_rider_42 : decode cX6_rider 42 = .ok (.bipush 22, 2) := by decide +kernel
theorem dX6_rider_44 : decode cX6_rider 44 = .ok (.iaload, 1) := by decide +kernel
theorem dX6_rider_45 : decode cX6_rider 45 = .ok (.iconst 4, 1) := by decide +kernel
theorem dX6_rider_46 : decode cX6_rider 46 = .ok (.if_icmp .ne 6, 3) := by decide +kernel
theorem dX6_rider_49 : decode cX6_rider 49 = .ok (.bipush (-3), 2) := by decide +kernel
theorem dX6_rider_51 : decode cX6_rider 51 = .ok (.ireturn, 1) := by decide +kernel
theorem dX6_rider_52 : decode cX6_rider 52 = .ok (.aload_n 0, 1) := by decide +kernel
theorem dX6_rider_53 : decode cX6_rider 53 = .ok (.getfield 7, 3) := by decide +kernel
theorem dX6_rider_56 : decode cX6_rider 56 = .ok (.bipush 22, 2) := by decide +kernel
theorem dX6_rider_58 : decode cX6_rider 58 = .ok (.iaload, 1) := by decide +kernel
theorem dX6_rider_59 : decode cX6_rider 59 = .ok (.istore 4, 2) := by decide +kernel
theorem dX6_rider_61 : decode cX6_rider 61 = .ok (.aload_n 0, 1) := by decide +kernel
theorem dX6_rider_62 : decode cX6_rider 62 = .ok (.getfield 7, 3) := by decide +kernel
theorem dX6_rider_65 : decode cX6_rider 65 = .ok (.bipush 40, 2) := by decide +kernel
theorem dX6_rider_67 : decode cX6_rider 67 = .ok (.iload 4, 2) := by decide +kernel
theorem dX6_rider_69 : decode cX6_rider 69 = .ok (.iadd, 1) := by decide +kernel
theorem dX6_rider_70 : decode cX6_rider 70 = .ok (.iload_n 1, 1) := by decide +kernel
theorem dX6_rider_71 : decode cX6_rider 71 = .ok (.iastore, 1) := by decide +kernel
theorem dX6_rider_72 : decode cX6_rider 72 = .ok (.aload_n 0, 1) := by decide +kernel
theorem dX6_rider_73 : decode cX6_rider 73 = .ok (.getfield 7, 3) := by decide +kernel
theorem dX6_rider_76 : decode cX6_rider 76 = .ok (.bipush 12, 2) := by decide +kernel
theorem dX6_rider_78 : decode cX6_rider 78 = .ok (.iload 4, 2) := by decide +kernel
theorem dX6_rider_80 : decode cX6_rider 80 = .ok (.iadd, 1) := by decide +kernel
theorem dX6_rider_81 : decode cX6_rider 81 = .ok (.iload_n 2, 1) := by decide +kernel
theorem dX6_rider_82 : decode cX6_rider 82 = .ok (.iastore, 1) := by decide +kernel
theorem dX6_rider_83 : decode cX6_rider 83 = .ok (.aload_n 0, 1) := by decide +kernel
theorem dX6_rider_84 : decode cX6_rider 84 = .ok (.getfield 7, 3) := by decide +kernel
theorem dX6_rider_87 : decode cX6_rider 87 = .ok (.bipush 16, 2) := by decide +kernel
theorem dX6_rider_89 : decode cX6_rider 89 = .ok (.iload 4, 2) := by decide +kernel
theorem dX6_rider_91 : decode cX6_rider 91 = .ok (.iadd, 1) := by decide +kernel
theorem dX6_rider_92 : decode cX6_rider 92 = .ok (.iload_n 3, 1) := by decide +kernel
theorem dX6_rider_93 : decode cX6_rider 93 = .ok (.iastore, 1) := by decide +kernel
theorem dX6_rider_94 : decode cX6_rider 94 = .ok (.aload_n 0, 1) := by decide +kernel
theorem dX6_rider_95 : decode cX6_rider 95 = .ok (.getfield 7, 3) := by decide +kernel
theorem dX6_rider_98 : decode cX6_rider 98 = .ok (.bipush 8, 2) := by decide +kernel
theorem dX6_rider_100 : decode cX6_rider 100 = .ok (.iload 4, 2) := by decide +kernel
theorem dX6_rider_102 : decode cX6_rider 102 = .ok (.iadd, 1) := by decide +kernel
theorem dX6_rider_103 : decode cX6_rider 103 = .ok (.iconst 0, 1) := by decide +kernel
theorem dX6_rider_104 : decode cX6_rider 104 = .ok (.iastore, 1) := by decide +kernel
theorem dX6_rider_105 : decode cX6_rider 105 = .ok (.aload_n 0, 1) := by decide +kernel
theorem dX6_rider_106 : decode cX6_rider 106 = .ok (.getfield 7, 3) := by decide +kernel
theorem dX6_rider_109 : decode cX6_rider 109 = .ok (.bipush 44, 2) := by decide +kernel
theorem dX6_rider_111 : decode cX6_rider 111 = .ok (.iload 4, 2) := by decide +kernel
theorem dX6_rider_113 : decode cX6_rider 113 = .ok (.iadd, 1) := by decide +kernel
theorem dX6_rider_114 : decode cX6_rider 114 = .ok (.iconst 0, 1) := by decide +kernel
theorem dX6_rider_115 : decode cX6_rider 115 = .ok (.iastore, 1) := by decide +kernel
theorem dX6_rider_116 : decode cX6_rider 116 = .ok (.aload_n 0, 1) := by decide +kernel
theorem dX6_rider_117 : decode cX6_rider 117 = .ok (.getfield 7, 3) := by decide +kernel
theorem dX6_rider_120 : decode cX6_rider 120 = .ok (.bipush 22, 2) := by decide +kernel
theorem dX6_rider_122 : decode cX6_rider 122 = .ok (.dup2, 1) := by decide +kernel
theorem dX6_rider_123 : decode cX6_rider 123 = .ok (.iaload, 1) := by decide +kernel
theorem dX6_rider_124 : decode cX6_rider 124 = .ok (.iconst 1, 1) := by decide +kernel
theorem dX6_rider_125 : decode cX6_rider 125 = .ok (.iadd, 1) := by decide +kernel
theorem dX6_rider_126 : decode cX6_rider 126 = .ok (.iastore, 1) := by decide +kernel
theorem dX6_rider_127 : decode cX6_rider 127 = .ok (.aload_n 0, 1) := by decide +kernel
theorem dX6_rider_128 : decode cX6_rider 128 = .ok (.getfield 7, 3) := by decide +kernel
theorem dX6_rider_131 : decode cX6_rider 131 = .ok (.bipush 48, 2) := by decide +kernel
theorem dX6_rider_133 : decode cX6_rider 133 = .ok (.iconst 0, 1) := by decide +kernel
theorem dX6_rider_134 : decode cX6_rider 134 = .ok (.iastore, 1) := by decide +kernel
theorem dX6_rider_135 : decode cX6_rider 135 = .ok (.iload 4, 2) := by decide +kernel
theorem dX6_rider_137 : decode cX6_rider 137 = .ok (.ireturn, 1) := by decide +kernel
theorem dX6_of_0 : decode cX6_of 0 = .ok (.iload_n 1, 1) := by decide +kernel
theorem dX6_of_1 : decode cX6_of 1 = .ok (.i2l, 1) := by decide +kernel
theorem dX6_of_2 : decode cX6_of 2 = .ok (.lconst 0, 1) := by decide +kernel
theorem dX6_of_3 : decode cX6_of 3 = .ok (.aload_n 0, 1) := by decide +kernel
theorem dX6_of_4 : decode cX6_of 4 = .ok (.getfield 7, 3) := by decide +kernel
theorem dX6_of_7 : decode cX6_of 7 = .ok (.bipush 21, 2) := by decide +kernel
theorem dX6_of_9 : decode cX6_of 9 = .ok (.iaload, 1) := by decide +kernel
theorem dX6_of_10 : decode cX6_of 10 = .ok (.iconst 1, 1) := by decide +kernel
theorem dX6_of_11 : decode cX6_of 11 = .ok (.isub, 1) := by decide +kernel
theorem dX6_of_12 : decode cX6_of 12 = .ok (.i2l, 1) := by decide +kernel
theorem dX6_of_13 : decode cX6_of 13 = .ok (.invokestatic 38, 3) := by decide +kernel
theorem dX6_of_16 : decode cX6_of 16 = .ok (.ifCond .ne 5, 3) := by decide +kernel
theorem dX6_of_19 : decode cX6_of 19 = .ok (.iconst (-1), 1) := by decide +kernel
theorem dX6_of_20 : decode cX6_of 20 = .ok (.ireturn, 1) := by decide +kernel
theorem dX6_of_21 : decode cX6_of 21 = .ok (.iload_n 2, 1) := by decide +kernel
theorem dX6_of_22 : decode cX6_of 22 = .ok (.ifCond .ne 15, 3) := by decide +kernel
theorem dX6_of_25 : decode cX6_of 25 = .ok (.aload_n 0, 1) := by decide +kernel
theorem dX6_of_26 : decode cX6_of 26 = .ok (.getfield 7, 3) := by decide +kernel
theorem dX6_of_29 : decode cX6_of 29 = .ok (.bipush 24, 2) := by decide +kernel
theorem dX6_of_31 : decode cX6_of 31 = .ok (.iload_n 1, 1) := by decide +kernel
theorem dX6_of_32 : decode cX6_of 32 = .ok (.iadd, 1) := by decide +kernel
theorem dX6_of_33 : decode cX6_of 33 = .ok (.iaload, 1) := by decide +kernel
theorem dX6_of_34 : decode cX6_of 34 = .ok (.goto 37, 3) := by decide +kernel
theorem dX6_of_37 : decode cX6_of 37 = .ok (.iload_n 2, 1) := by decide +kernel
theorem dX6_of_38 : decode cX6_of 38 = .ok (.iconst 1, 1) := by decide +kernel
theorem dX6_of_39 : decode cX6_of 39 = .ok (.if_icmp .ne 15, 3) := by decide +kernel
theorem dX6_of_42 : decode cX6_of 42 = .ok (.aload_n 0, 1) := by decide +kernel
theorem dX6_of_43 : decode cX6_of 43 = .ok (.getfield 7, 3) := by decide +kernel
theorem dX6_of_46 : decode cX6_of 46 = .ok (.bipush 32, 2) := by decide +kernel
theorem dX6_of_48 : decode cX6_of 48 = .ok (.iload_n 1, 1) := by decide +kernel
theorem dX6_of_49 : decode cX6_of 49 = .ok (.iadd, 1) := by decide +kernel
theorem dX6_of_50 : decode cX6_of 50 = .ok (.iaload, 1) := by decide +kernel
theorem dX6_of_51 : decode cX6_of 51 = .ok (.goto 20, 3) := by decide +kernel
theorem dX6_of_54 : decode cX6_of 54 = .ok (.iload_n 2, 1) := by decide +kernel
theorem dX6_of_55 : decode cX6_of 55 = .ok (.iconst 2, 1) := by decide +kernel
theorem dX6_of_56 : decode cX6_of 56 = .ok (.if_icmp .ne 14, 3) := by decide +kernel
theorem dX6_of_59 : decode cX6_of 59 = .ok (.aload_n 0, 1) := by decide +kernel
theorem dX6_of_60 : decode cX6_of 60 = .ok (.getfield 7, 3) := by decide +kernel
theorem dX6_of_63 : decode cX6_of 63 = .ok (.iconst 0, 1) := by decide +kernel
theorem dX6_of_64 : decode cX6_of 64 = .ok (.iload_n 1, 1) := by decide +kernel
theorem dX6_of_65 : decode cX6_of 65 = .ok (.iadd, 1) := by decide +kernel
theorem dX6_of_66 : decode cX6_of 66 = .ok (.iaload, 1) := by decide +kernel
theorem dX6_of_67 : decode cX6_of 67 = .ok (.goto 4, 3) := by decide +kernel
theorem dX6_of_70 : decode cX6_of 70 = .ok (.iconst (-1), 1) := by decide +kernel
theorem dX6_of_71 : decode cX6_of 71 = .ok (.ireturn, 1) := by decide +kernel
theorem dX6_takes_0 : decode cX6_takes 0 = .ok (.iload_n 2, 1) := by decide +kernel
theorem dX6_takes_1 : decode cX6_takes 1 = .ok (.ifCond .eq 8, 3) := by decide +kernel
theorem dX6_takes_4 : decode cX6_takes 4 = .ok (.bipush 6, 2) := by decide +kernel
theorem dX6_takes_6 : decode cX6_takes 6 = .ok (.goto 5, 3) := by decide +kernel
theorem dX6_takes_9 : decode cX6_takes 9 = .ok (.bipush 10, 2) := by decide +kernel
theorem dX6_takes_11 : decode cX6_takes 11 = .ok (.iload_n 1, 1) := by decide +kernel
theorem dX6_takes_12 : decode cX6_takes 12 = .ok (.imul, 1) := by decide +kernel
theorem dX6_takes_13 : decode cX6_takes 13 = .ok (.istore_n 3, 1) := by decide +kernel
theorem dX6_takes_14 : decode cX6_takes 14 = .ok (.iload_n 0, 1) := by decide +kernel
theorem dX6_takes_15 : decode cX6_takes 15 = .ok (.tableswitch 71 1 4 #[29, 33, 39, 53], 29) := by decide +kernel
theorem dX6_takes_44 : decode cX6_takes 44 = .ok (.iload_n 3, 1) := by decide +kernel
theorem dX6_takes_45 : decode cX6_takes 45 = .ok (.iconst 5, 1) := by decide +kernel
theorem dX6_takes_46 : decode cX6_takes 46 = .ok (.iadd, 1) := by decide +kernel
theorem dX6_takes_47 : decode cX6_takes 47 = .ok (.ireturn, 1) := by decide +kernel
theorem dX6_takes_48 : decode cX6_takes 48 = .ok (.iload_n 3, 1) := by decide +kernel
theorem dX6_takes_49 : decode cX6_takes 49 = .ok (.iload_n 3, 1) := by decide +kernel
theorem dX6_takes_50 : decode cX6_takes 50 = .ok (.iconst 2, 1) := by decide +kernel
theorem dX6_takes_51 : decode cX6_takes 51 = .ok (.idiv, 1) := by decide +kernel
theorem dX6_takes_52 : decode cX6_takes 52 = .ok (.iadd, 1) := by decide +kernel
theorem dX6_takes_53 : decode cX6_takes 53 = .ok (.ireturn, 1) := by decide +kernel
theorem dX6_takes_54 : decode cX6_takes 54 = .ok (.iload_n 2, 1) := by decide +kernel
theorem dX6_takes_55 : decode cX6_takes 55 = .ok (.ifCond .eq 7, 3) := by decide +kernel
theorem dX6_takes_58 : decode cX6_takes 58 = .ok (.iload_n 3, 1) := by decide +kernel
theorem dX6_takes_59 : decode cX6_takes 59 = .ok (.goto 8, 3) := by decide +kernel
theorem dX6_takes_62 : decode cX6_takes 62 = .ok (.iload_n 3, 1) := by decide +kernel
theorem dX6_takes_63 : decode cX6_takes 63 = .ok (.iload_n 3, 1) := by decide +kernel
theorem dX6_takes_64 : decode cX6_takes 64 = .ok (.iconst 2, 1) := by decide +kernel
theorem dX6_takes_65 : decode cX6_takes 65 = .ok (.idiv, 1) := by decide +kernel
theorem dX6_takes_66 : decode cX6_takes 66 = .ok (.iadd, 1) := by decide +kernel
theorem dX6_takes_67 : decode cX6_takes 67 = .ok (.ireturn, 1) := by decide +kernel
theorem dX6_takes_68 : decode cX6_takes 68 = .ok (.iload_n 2, 1) := by decide +kernel
theorem dX6_takes_69 : decode cX6_takes 69 = .ok (.ifCond .eq 8, 3) := by decide +kernel
theorem dX6_takes_72 : decode cX6_takes 72 = .ok (.bipush 6, 2) := by decide +kernel
theorem dX6_takes_74 : decode cX6_takes 74 = .ok (.goto 5, 3) := by decide +kernel
theorem dX6_takes_77 : decode cX6_takes 77 = .ok (.bipush 10, 2) := by decide +kernel
theorem dX6_takes_79 : decode cX6_takes 79 = .ok (.iload_n 1, 1) := by decide +kernel
theorem dX6_takes_80 : decode cX6_takes 80 = .ok (.iconst 1, 1) := by decide +kernel
theorem dX6_takes_81 : decode cX6_takes 81 = .ok (.isub, 1) := by decide +kernel
theorem dX6_takes_82 : decode cX6_takes 82 = .ok (.imul, 1) := by decide +kernel
theorem dX6_takes_83 : decode cX6_takes 83 = .ok (.iconst 5, 1) := by decide +kernel
theorem dX6_takes_84 : decode cX6_takes 84 = .ok (.iadd, 1) := by decide +kernel
theorem dX6_takes_85 : decode cX6_takes 85 = .ok (.ireturn, 1) := by decide +kernel
theorem dX6_takes_86 : decode cX6_takes 86 = .ok (.iload_n 3, 1) := by decide +kernel
theorem dX6_takes_87 : decode cX6_takes 87 = .ok (.ireturn, 1) := by decide +kernel
theorem dX6_isThere_0 : decode cX6_isThere 0 = .ok (.aload_n 0, 1) := by decide +kernel
theorem dX6_isThere_1 : decode cX6_isThere 1 = .ok (.getfield 7, 3) := by decide +kernel
theorem dX6_isThere_4 : decode cX6_isThere 4 = .ok (.iload_n 1, 1) := by decide +kernel
theorem dX6_isThere_5 : decode cX6_isThere 5 = .ok (.bipush 8, 2) := by decide +kernel
theorem dX6_isThere_7 : decode cX6_isThere 7 = .ok (.iadd, 1) := by decide +kernel
theorem dX6_isThere_8 : decode cX6_isThere 8 = .ok (.iload_n 2, 1) := by decide +kernel
theorem dX6_isThere_9 : decode cX6_isThere 9 = .ok (.iadd, 1) := by decide +kernel
theorem dX6_isThere_10 : decode cX6_isThere 10 = .ok (.iaload, 1) := by decide +kernel
theorem dX6_isThere_11 : decode cX6_isThere 11 = .ok (.aload_n 0, 1) := by decide +kernel
theorem dX6_isThere_12 : decode cX6_isThere 12 = .ok (.getfield 7, 3) := by decide +kernel
theorem dX6_isThere_15 : decode cX6_isThere 15 = .ok (.iload_n 1, 1) := by decide +kernel
theorem dX6_isThere_16 : decode cX6_isThere 16 = .ok (.bipush 21, 2) := by decide +kernel
theorem dX6_isThere_18 : decode cX6_isThere 18 = .ok (.iadd, 1) := by decide +kernel
theorem dX6_isThere_19 : decode cX6_isThere 19 = .ok (.iaload, 1) := by decide +kernel
theorem dX6_isThere_20 : decode cX6_isThere 20 = .ok (.if_icmp .ne 7, 3) := by decide +kernel
theorem dX6_isThere_23 : decode cX6_isThere 23 = .ok (.iconst 1, 1) := by decide +kernel
theorem dX6_isThere_24 : decode cX6_isThere 24 = .ok (.goto 4, 3) := by decide +kernel
theorem dX6_isThere_27 : decode cX6_isThere 27 = .ok (.iconst 0, 1) := by decide +kernel
theorem dX6_isThere_28 : decode cX6_isThere 28 = .ok (.ireturn, 1) := by decide +kernel
theorem dX6_takesNow_0 : decode cX6_takesNow 0 = .ok (.aload_n 0, 1) := by decide +kernel
theorem dX6_takesNow_1 : decode cX6_takesNow 1 = .ok (.iconst 0, 1) := by decide +kernel
theorem dX6_takesNow_2 : decode cX6_takesNow 2 = .ok (.iload_n 1, 1) := by decide +kernel
theorem dX6_takesNow_3 : decode cX6_takesNow 3 = .ok (.invokevirtual 54, 3) := by decide +kernel
theorem dX6_takesNow_6 : decode cX6_takesNow 6 = .ok (.ifCond .eq 8, 3) := by decide +kernel
theorem dX6_takesNow_9 : decode cX6_takesNow 9 = .ok (.bipush (-4), 2) := by decide +kernel
theorem dX6_takesNow_11 : decode cX6_takesNow 11 = .ok (.goto 33, 3) := by decide +kernel
theorem dX6_takesNow_14 : decode cX6_takesNow 14 = .ok (.aload_n 0, 1) := by decide +kernel
theorem dX6_takesNow_15 : decode cX6_takesNow 15 = .ok (.getfield 7, 3) := by decide +kernel
theorem dX6_takesNow_18 : decode cX6_takesNow 18 = .ok (.bipush 40, 2) := by decide +kernel
theorem dX6_takesNow_20 : decode cX6_takesNow 20 = .ok (.iload_n 1, 1) := by decide +kernel
theorem dX6_takesNow_21 : decode cX6_takesNow 21 = .ok (.iadd, 1) := by decide +kernel
theorem dX6_takesNow_22 : decode cX6_takesNow 22 = .ok (.iaload, 1) := by decide +kernel
theorem dX6_takesNow_23 : decode cX6_takesNow 23 = .ok (.aload_n 0, 1) := by decide +kernel
theorem dX6_takesNow_24 : decode cX6_takesNow 24 = .ok (.getfield 7, 3) := by decide +kernel
theorem dX6_takesNow_27 : decode cX6_takesNow 27 = .ok (.bipush 24, 2) := by decide +kernel
theorem dX6_takesNow_29 : decode cX6_takesNow 29 = .ok (.aload_n 0, 1) := by decide +kernel
theorem dX6_takesNow_30 : decode cX6_takesNow 30 = .ok (.getfield 7, 3) := by decide +kernel
theorem dX6_takesNow_33 : decode cX6_takesNow 33 = .ok (.bipush 8, 2) := by decide +kernel
theorem dX6_takesNow_35 : decode cX6_takesNow 35 = .ok (.iload_n 1, 1) := by decide +kernel
theorem dX6_takesNow_36 : decode cX6_takesNow 36 = .ok (.iadd, 1) := by decide +kernel
theorem dX6_takesNow_37 : decode cX6_takesNow 37 = .ok (.iaload, 1) := by decide +kernel
theorem dX6_takesNow_38 : decode cX6_takesNow 38 = .ok (.iadd, 1) := by decide +kernel
theorem dX6_takesNow_39 : decode cX6_takesNow 39 = .ok (.iaload, 1) := by decide +kernel
theorem dX6_takesNow_40 : decode cX6_takesNow 40 = .ok (.iload_n 2, 1) := by decide +kernel
theorem dX6_takesNow_41 : decode cX6_takesNow 41 = .ok (.invokestatic 58, 3) := by decide +kernel
theorem dX6_takesNow_44 : decode cX6_takesNow 44 = .ok (.ireturn, 1) := by decide +kernel
theorem dX6_at_0 : decode cX6_at 0 = .ok (.aload_n 0, 1) := by decide +kernel
theorem dX6_at_1 : decode cX6_at 1 = .ok (.iload_n 1, 1) := by decide +kernel
theorem dX6_at_2 : decode cX6_at 2 = .ok (.invokevirtual 42, 3) := by decide +kernel
theorem dX6_at_5 : decode cX6_at 5 = .ok (.ifCond .ne 5, 3) := by decide +kernel
theorem dX6_at_8 : decode cX6_at 8 = .ok (.iconst (-1), 1) := by decide +kernel
theorem dX6_at_9 : decode cX6_at 9 = .ok (.ireturn, 1) := by decide +kernel
theorem dX6_at_10 : decode cX6_at 10 = .ok (.iload_n 2, 1) := by decide +kernel
theorem dX6_at_11 : decode cX6_at 11 = .ok (.tableswitch 105 0 6 #[41, 51, 61, 71, 81, 91, 98], 41) := by decide +kernel
theorem dX6_at_52 : decode cX6_at 52 = .ok (.aload_n 0, 1) := by decide +kernel
theorem dX6_at_53 : decode cX6_at 53 = .ok (.getfield 7, 3) := by decide +kernel
theorem dX6_at_56 : decode cX6_at 56 = .ok (.bipush 40, 2) := by decide +kernel
theorem dX6_at_58 : decode cX6_at 58 = .ok (.iload_n 1, 1) := by decide +kernel
theorem dX6_at_59 : decode cX6_at 59 = .ok (.iadd, 1) := by decide +kernel
theorem dX6_at_60 : decode cX6_at 60 = .ok (.iaload, 1) := by decide +kernel
theorem dX6_at_61 : decode cX6_at 61 = .ok (.ireturn, 1) := by decide +kernel
theorem dX6_at_62 : decode cX6_at 62 = .ok (.aload_n 0, 1) := by decide +kernel
theorem dX6_at_63 : decode cX6_at 63 = .ok (.getfield 7, 3) := by decide +kernel
theorem dX6_at_66 : decode cX6_at 66 = .ok (.bipush 8, 2) := by decide +kernel
theorem dX6_at_68 : decode cX6_at 68 = .ok (.iload_n 1, 1) := by decide +kernel
theorem dX6_at_69 : decode cX6_at 69 = .ok (.iadd, 1) := by decide +kernel
theorem dX6_at_70 : decode cX6_at 70 = .ok (.iaload, 1) := by decide +kernel
theorem dX6_at_71 : decode cX6_at 71 = .ok (.ireturn, 1) := by decide +kernel
theorem dX6_at_72 : decode cX6_at 72 = .ok (.aload_n 0, 1) := by decide +kernel
theorem dX6_at_73 : decode cX6_at 73 = .ok (.getfield 7, 3) := by decide +kernel
theorem dX6_at_76 : decode cX6_at 76 = .ok (.bipush 12, 2) := by decide +kernel
theorem dX6_at_78 : decode cX6_at 78 = .ok (.iload_n 1, 1) := by decide +kernel
theorem dX6_at_79 : decode cX6_at 79 = .ok (.iadd, 1) := by decide +kernel
theorem dX6_at_80 : decode cX6_at 80 = .ok (.iaload, 1) := by decide +kernel
theorem dX6_at_81 : decode cX6_at 81 = .ok (.ireturn, 1) := by decide +kernel
theorem dX6_at_82 : decode cX6_at 82 = .ok (.aload_n 0, 1) := by decide +kernel
theorem dX6_at_83 : decode cX6_at 83 = .ok (.getfield 7, 3) := by decide +kernel
theorem dX6_at_86 : decode cX6_at 86 = .ok (.bipush 16, 2) := by decide +kernel
theorem dX6_at_88 : decode cX6_at 88 = .ok (.iload_n 1, 1) := by decide +kernel
theorem dX6_at_89 : decode cX6_at 89 = .ok (.iadd, 1) := by decide +kernel
theorem dX6_at_90 : decode cX6_at 90 = .ok (.iaload, 1) := by decide +kernel
theorem dX6_at_91 : decode cX6_at 91 = .ok (.ireturn, 1) := by decide +kernel
theorem dX6_at_92 : decode cX6_at 92 = .ok (.aload_n 0, 1) := by decide +kernel
theorem dX6_at_93 : decode cX6_at 93 = .ok (.getfield 7, 3) := by decide +kernel
theorem dX6_at_96 : decode cX6_at 96 = .ok (.bipush 44, 2) := by decide +kernel
theorem dX6_at_98 : decode cX6_at 98 = .ok (.iload_n 1, 1) := by decide +kernel
theorem dX6_at_99 : decode cX6_at 99 = .ok (.iadd, 1) := by decide +kernel
theorem dX6_at_100 : decode cX6_at 100 = .ok (.iaload, 1) := by decide +kernel
theorem dX6_at_101 : decode cX6_at 101 = .ok (.ireturn, 1) := by decide +kernel
theorem dX6_at_102 : decode cX6_at 102 = .ok (.aload_n 0, 1) := by decide +kernel
theorem dX6_at_103 : decode cX6_at 103 = .ok (.iload_n 1, 1) := by decide +kernel
theorem dX6_at_104 : decode cX6_at 104 = .ok (.iconst 1, 1) := by decide +kernel
theorem dX6_at_105 : decode cX6_at 105 = .ok (.invokevirtual 62, 3) := by decide +kernel
theorem dX6_at_108 : decode cX6_at 108 = .ok (.ireturn, 1) := by decide +kernel
theorem dX6_at_109 : decode cX6_at 109 = .ok (.aload_n 0, 1) := by decide +kernel
theorem dX6_at_110 : decode cX6_at 110 = .ok (.iload_n 1, 1) := by decide +kernel
theorem dX6_at_111 : decode cX6_at 111 = .ok (.iconst 0, 1) := by decide +kernel
theorem dX6_at_112 : decode cX6_at 112 = .ok (.invokevirtual 62, 3) := by decide +kernel
theorem dX6_at_115 : decode cX6_at 115 = .ok (.ireturn, 1) := by decide +kernel
theorem dX6_at_116 : decode cX6_at 116 = .ok (.iconst (-1), 1) := by decide +kernel
theorem dX6_at_117 : decode cX6_at 117 = .ok (.ireturn, 1) := by decide +kernel
theorem dX6_buys_0 : decode cX6_buys 0 = .ok (.aload_n 0, 1) := by decide +kernel
theorem dX6_buys_1 : decode cX6_buys 1 = .ok (.iload_n 1, 1) := by decide +kernel
theorem dX6_buys_2 : decode cX6_buys 2 = .ok (.invokevirtual 42, 3) := by decide +kernel
theorem dX6_buys_5 : decode cX6_buys 5 = .ok (.ifCond .eq 24, 3) := by decide +kernel
theorem dX6_buys_8 : decode cX6_buys 8 = .ok (.iload_n 2, 1) := by decide +kernel
theorem dX6_buys_9 : decode cX6_buys 9 = .ok (.i2l, 1) := by decide +kernel
theorem dX6_buys_10 : decode cX6_buys 10 = .ok (.lconst 0, 1) := by decide +kernel
theorem dX6_buys_11 : decode cX6_buys 11 = .ok (.iconst 1, 1) := by decide +kernel
theorem dX6_buys_12 : decode cX6_buys 12 = .ok (.aload_n 0, 1) := by decide +kernel
theorem dX6_buys_13 : decode cX6_buys 13 = .ok (.getfield 7, 3) := by decide +kernel
theorem dX6_buys_16 : decode cX6_buys 16 = .ok (.bipush 21, 2) := by decide +kernel
theorem dX6_buys_18 : decode cX6_buys 18 = .ok (.iaload, 1) := by decide +kernel
theorem dX6_buys_19 : decode cX6_buys 19 = .ok (.ishl, 1) := by decide +kernel
theorem dX6_buys_20 : decode cX6_buys 20 = .ok (.iconst 1, 1) := by decide +kernel
theorem dX6_buys_21 : decode cX6_buys 21 = .ok (.isub, 1) := by decide +kernel
theorem dX6_buys_22 : decode cX6_buys 22 = .ok (.i2l, 1) := by decide +kernel
theorem dX6_buys_23 : decode cX6_buys 23 = .ok (.invokestatic 38, 3) := by decide +kernel
theorem dX6_buys_26 : decode cX6_buys 26 = .ok (.ifCond .ne 5, 3) := by decide +kernel
theorem dX6_buys_29 : decode cX6_buys 29 = .ok (.iconst (-1), 1) := by decide +kernel
theorem dX6_buys_30 : decode cX6_buys 30 = .ok (.ireturn, 1) := by decide +kernel
theorem dX6_buys_31 : decode cX6_buys 31 = .ok (.aload_n 0, 1) := by decide +kernel
theorem dX6_buys_32 : decode cX6_buys 32 = .ok (.getfield 7, 3) := by decide +kernel
theorem dX6_buys_35 : decode cX6_buys 35 = .ok (.bipush 44, 2) := by decide +kernel
theorem dX6_buys_37 : decode cX6_buys 37 = .ok (.iload_n 1, 1) := by decide +kernel
theorem dX6_buys_38 : decode cX6_buys 38 = .ok (.iadd, 1) := by decide +kernel
theorem dX6_buys_39 : decode cX6_buys 39 = .ok (.iaload, 1) := by decide +kernel
theorem dX6_buys_40 : decode cX6_buys 40 = .ok (.istore_n 3, 1) := by decide +kernel
theorem dX6_buys_41 : decode cX6_buys 41 = .ok (.aload_n 0, 1) := by decide +kernel
theorem dX6_buys_42 : decode cX6_buys 42 = .ok (.getfield 7, 3) := by decide +kernel
theorem dX6_buys_45 : decode cX6_buys 45 = .ok (.bipush 44, 2) := by decide +kernel
theorem dX6_buys_47 : decode cX6_buys 47 = .ok (.iload_n 1, 1) := by decide +kernel
theorem dX6_buys_48 : decode cX6_buys 48 = .ok (.iadd, 1) := by decide +kernel
theorem dX6_buys_49 : decode cX6_buys 49 = .ok (.iload_n 2, 1) := by decide +kernel
theorem dX6_buys_50 : decode cX6_buys 50 = .ok (.iastore, 1) := by decide +kernel
theorem dX6_buys_51 : decode cX6_buys 51 = .ok (.iload_n 3, 1) := by decide +kernel
theorem dX6_buys_52 : decode cX6_buys 52 = .ok (.ireturn, 1) := by decide +kernel
theorem dX6_price_0 : decode cX6_price 0 = .ok (.iload_n 1, 1) := by decide +kernel
theorem dX6_price_1 : decode cX6_price 1 = .ok (.i2l, 1) := by decide +kernel
theorem dX6_price_2 : decode cX6_price 2 = .ok (.lconst 1, 1) := by decide +kernel
theorem dX6_price_3 : decode cX6_price 3 = .ok (.ldc2_w 46, 3) := by decide +kernel
theorem dX6_price_6 : decode cX6_price 6 = .ok (.invokestatic 38, 3) := by decide +kernel
theorem dX6_price_9 : decode cX6_price 9 = .ok (.ifCond .ne 5, 3) := by decide +kernel
theorem dX6_price_12 : decode cX6_price 12 = .ok (.iconst (-1), 1) := by decide +kernel
theorem dX6_price_13 : decode cX6_price 13 = .ok (.ireturn, 1) := by decide +kernel
theorem dX6_price_14 : decode cX6_price 14 = .ok (.aload_n 0, 1) := by decide +kernel
theorem dX6_price_15 : decode cX6_price 15 = .ok (.getfield 7, 3) := by decide +kernel
theorem dX6_price_18 : decode cX6_price 18 = .ok (.bipush 23, 2) := by decide +kernel
theorem dX6_price_20 : decode cX6_price 20 = .ok (.iaload, 1) := by decide +kernel
theorem dX6_price_21 : decode cX6_price 21 = .ok (.istore_n 2, 1) := by decide +kernel
theorem dX6_price_22 : decode cX6_price 22 = .ok (.aload_n 0, 1) := by decide +kernel
theorem dX6_price_23 : decode cX6_price 23 = .ok (.getfield 7, 3) := by decide +kernel
theorem dX6_price_26 : decode cX6_price 26 = .ok (.bipush 23, 2) := by decide +kernel
theorem dX6_price_28 : decode cX6_price 28 = .ok (.iload_n 1, 1) := by decide +kernel
theorem dX6_price_29 : decode cX6_price 29 = .ok (.iastore, 1) := by decide +kernel
theorem dX6_price_30 : decode cX6_price 30 = .ok (.iload_n 2, 1) := by decide +kernel
theorem dX6_price_31 : decode cX6_price 31 = .ok (.ireturn, 1) := by decide +kernel
theorem dX6_type_0 : decode cX6_type 0 = .ok (.iload_n 1, 1) := by decide +kernel
theorem dX6_type_1 : decode cX6_type 1 = .ok (.i2l, 1) := by decide +kernel
theorem dX6_type_2 : decode cX6_type 2 = .ok (.ldc2_w 66, 3) := by decide +kernel
theorem dX6_type_5 : decode cX6_type 5 = .ok (.ldc2_w 68, 3) := by decide +kernel
theorem dX6_type_8 : decode cX6_type 8 = .ok (.invokestatic 38, 3) := by decide +kernel
theorem dX6_type_11 : decode cX6_type 11 = .ok (.ifCond .ne 5, 3) := by decide +kernel
theorem dX6_type_14 : decode cX6_type 14 = .ok (.iconst (-1), 1) := by decide +kernel
theorem dX6_type_15 : decode cX6_type 15 = .ok (.ireturn, 1) := by decide +kernel
theorem dX6_type_16 : decode cX6_type 16 = .ok (.aload_n 0, 1) := by decide +kernel
theorem dX6_type_17 : decode cX6_type 17 = .ok (.getfield 70, 3) := by decide +kernel
theorem dX6_type_20 : decode cX6_type 20 = .ok (.bipush 90, 2) := by decide +kernel
theorem dX6_type_22 : decode cX6_type 22 = .ok (.if_icmp .ne 6, 3) := by decide +kernel
theorem dX6_type_25 : decode cX6_type 25 = .ok (.bipush (-3), 2) := by decide +kernel
theorem dX6_type_27 : decode cX6_type 27 = .ok (.ireturn, 1) := by decide +kernel
theorem dX6_type_28 : decode cX6_type 28 = .ok (.aload_n 0, 1) := by decide +kernel
theorem dX6_type_29 : decode cX6_type 29 = .ok (.getfield 13, 3) := by decide +kernel
theorem dX6_type_32 : decode cX6_type 32 = .ok (.aload_n 0, 1) := by decide +kernel
theorem dX6_type_33 : decode cX6_type 33 = .ok (.getfield 70, 3) := by decide +kernel
theorem dX6_type_36 : decode cX6_type 36 = .ok (.iload_n 1, 1) := by decide +kernel
theorem dX6_type_37 : decode cX6_type 37 = .ok (.iastore, 1) := by decide +kernel
theorem dX6_type_38 : decode cX6_type 38 = .ok (.aload_n 0, 1) := by decide +kernel
theorem dX6_type_39 : decode cX6_type 39 = .ok (.dup, 1) := by decide +kernel
theorem dX6_type_40 : decode cX6_type 40 = .ok (.getfield 70, 3) := by decide +kernel
theorem dX6_type_43 : decode cX6_type 43 = .ok (.iconst 1, 1) := by decide +kernel
theorem dX6_type_44 : decode cX6_type 44 = .ok (.iadd, 1) := by decide +kernel
theorem dX6_type_45 : decode cX6_type 45 = .ok (.putfield 70, 3) := by decide +kernel
theorem dX6_type_48 : decode cX6_type 48 = .ok (.aload_n 0, 1) := by decide +kernel
theorem dX6_type_49 : decode cX6_type 49 = .ok (.getfield 70, 3) := by decide +kernel
theorem dX6_type_52 : decode cX6_type 52 = .ok (.ireturn, 1) := by decide +kernel
theorem dX6_letterAt_0 : decode cX6_letterAt 0 = .ok (.iload_n 1, 1) := by decide +kernel
theorem dX6_letterAt_1 : decode cX6_letterAt 1 = .ok (.aload_n 0, 1) := by decide +kernel
theorem dX6_letterAt_2 : decode cX6_letterAt 2 = .ok (.getfield 70, 3) := by decide +kernel
theorem dX6_letterAt_5 : decode cX6_letterAt 5 = .ok (.if_icmp .ge 12, 3) := by decide +kernel
theorem dX6_letterAt_8 : decode cX6_letterAt 8 = .ok (.aload_n 0, 1) := by decide +kernel
theorem dX6_letterAt_9 : decode cX6_letterAt 9 = .ok (.getfield 13, 3) := by decide +kernel
theorem dX6_letterAt_12 : decode cX6_letterAt 12 = .ok (.iload_n 1, 1) := by decide +kernel
theorem dX6_letterAt_13 : decode cX6_letterAt 13 = .ok (.iaload, 1) := by decide +kernel
theorem dX6_letterAt_14 : decode cX6_letterAt 14 = .ok (.goto 4, 3) := by decide +kernel
theorem dX6_letterAt_17 : decode cX6_letterAt 17 = .ok (.iconst (-1), 1) := by decide +kernel
theorem dX6_letterAt_18 : decode cX6_letterAt 18 = .ok (.ireturn, 1) := by decide +kernel
theorem dX6_here_0 : decode cX6_here 0 = .ok (.aload_n 0, 1) := by decide +kernel
theorem dX6_here_1 : decode cX6_here 1 = .ok (.aload_n 0, 1) := by decide +kernel
theorem dX6_here_2 : decode cX6_here 2 = .ok (.getfield 74, 3) := by decide +kernel
theorem dX6_here_5 : decode cX6_here 5 = .ok (.invokevirtual 77, 3) := by decide +kernel
theorem dX6_here_8 : decode cX6_here 8 = .ok (.bipush 32, 2) := by decide +kernel
theorem dX6_here_10 : decode cX6_here 10 = .ok (.if_icmp .ne 16, 3) := by decide +kernel
theorem dX6_here_13 : decode cX6_here 13 = .ok (.aload_n 0, 1) := by decide +kernel
theorem dX6_here_14 : decode cX6_here 14 = .ok (.dup, 1) := by decide +kernel
theorem dX6_here_15 : decode cX6_here 15 = .ok (.getfield 74, 3) := by decide +kernel
theorem dX6_here_18 : decode cX6_here 18 = .ok (.iconst 1, 1) := by decide +kernel
theorem dX6_here_19 : decode cX6_here 19 = .ok (.iadd, 1) := by decide +kernel
theorem dX6_here_20 : decode cX6_here 20 = .ok (.putfield 74, 3) := by decide +kernel
theorem dX6_here_23 : decode cX6_here 23 = .ok (.goto (-23), 3) := by decide +kernel
theorem dX6_here_26 : decode cX6_here 26 = .ok (.aload_n 0, 1) := by decide +kernel
theorem dX6_here_27 : decode cX6_here 27 = .ok (.aload_n 0, 1) := by decide +kernel
theorem dX6_here_28 : decode cX6_here 28 = .ok (.getfield 74, 3) := by decide +kernel
theorem dX6_here_31 : decode cX6_here 31 = .ok (.invokevirtual 77, 3) := by decide +kernel
theorem dX6_here_34 : decode cX6_here 34 = .ok (.ireturn, 1) := by decide +kernel
theorem dX6_fails_0 : decode cX6_fails 0 = .ok (.aload_n 0, 1) := by decide +kernel
theorem dX6_fails_1 : decode cX6_fails 1 = .ok (.iload_n 1, 1) := by decide +kernel
theorem dX6_fails_2 : decode cX6_fails 2 = .ok (.putfield 81, 3) := by decide +kernel
theorem dX6_fails_5 : decode cX6_fails 5 = .ok (.iconst 0, 1) := by decide +kernel
theorem dX6_fails_6 : decode cX6_fails 6 = .ok (.ireturn, 1) := by decide +kernel
theorem dX6_digit_0 : decode cX6_digit 0 = .ok (.aload_n 0, 1) := by decide +kernel
theorem dX6_digit_1 : decode cX6_digit 1 = .ok (.invokevirtual 84, 3) := by decide +kernel
theorem dX6_digit_4 : decode cX6_digit 4 = .ok (.bipush 48, 2) := by decide +kernel
theorem dX6_digit_6 : decode cX6_digit 6 = .ok (.isub, 1) := by decide +kernel
theorem dX6_digit_7 : decode cX6_digit 7 = .ok (.istore_n 3, 1) := by decide +kernel
theorem dX6_digit_8 : decode cX6_digit 8 = .ok (.iload_n 3, 1) := by decide +kernel
theorem dX6_digit_9 : decode cX6_digit 9 = .ok (.i2l, 1) := by decide +kernel
theorem dX6_digit_10 : decode cX6_digit 10 = .ok (.iload_n 1, 1) := by decide +kernel
theorem dX6_digit_11 : decode cX6_digit 11 = .ok (.i2l, 1) := by decide +kernel
theorem dX6_digit_12 : decode cX6_digit 12 = .ok (.iload_n 2, 1) := by decide +kernel
theorem dX6_digit_13 : decode cX6_digit 13 = .ok (.i2l, 1) := by decide +kernel
theorem dX6_digit_14 : decode cX6_digit 14 = .ok (.invokestatic 38, 3) := by decide +kernel
theorem dX6_digit_17 : decode cX6_digit 17 = .ok (.ifCond .ne 14, 3) := by decide +kernel
theorem dX6_digit_20 : decode cX6_digit 20 = .ok (.aload_n 0, 1) := by decide +kernel
theorem dX6_digit_21 : decode cX6_digit 21 = .ok (.aload_n 0, 1) := by decide +kernel
theorem dX6_digit_22 : decode cX6_digit 22 = .ok (.getfield 74, 3) := by decide +kernel
theorem dX6_digit_25 : decode cX6_digit 25 = .ok (.invokevirtual 88, 3) := by decide +kernel
theorem dX6_digit_28 : decode cX6_digit 28 = .ok (.pop, 1) := by decide +kernel
theorem dX6_digit_29 : decode cX6_digit 29 = .ok (.iconst (-1), 1) := by decide +kernel
theorem dX6_digit_30 : decode cX6_digit 30 = .ok (.ireturn, 1) := by decide +kernel
theorem dX6_digit_31 : decode cX6_digit 31 = .ok (.aload_n 0, 1) := by decide +kernel
theorem dX6_digit_32 : decode cX6_digit 32 = .ok (.dup, 1) := by decide +kernel
theorem dX6_digit_33 : decode cX6_digit 33 = .ok (.getfield 74, 3) := by decide +kernel
theorem dX6_digit_36 : decode cX6_digit 36 = .ok (.iconst 1, 1) := by decide +kernel
theorem dX6_digit_37 : decode cX6_digit 37 = .ok (.iadd, 1) := by decide +kernel
theorem dX6_digit_38 : decode cX6_digit 38 = .ok (.putfield 74, 3) := by decide +kernel
theorem dX6_digit_41 : decode cX6_digit 41 = .ok (.iload_n 3, 1) := by decide +kernel
theorem dX6_digit_42 : decode cX6_digit 42 = .ok (.ireturn, 1) := by decide +kernel
theorem dX6_number_0 : decode cX6_number 0 = .ok (.aload_n 0, 1) := by decide +kernel
theorem dX6_number_1 : decode cX6_number 1 = .ok (.invokevirtual 84, 3) := by decide +kernel
theorem dX6_number_4 : decode cX6_number 4 = .ok (.pop, 1) := by decide +kernel
theorem dX6_number_5 : decode cX6_number 5 = .ok (.aload_n 0, 1) := by decide +kernel
theorem dX6_number_6 : decode cX6_number 6 = .ok (.getfield 74, 3) := by decide +kernel
theorem dX6_number_9 : decode cX6_number 9 = .ok (.istore_n 2, 1) := by decide +kernel
theorem dX6_number_10 : decode cX6_number 10 = .ok (.iconst 0, 1) := by decide +kernel
theorem dX6_number_11 : decode cX6_number 11 = .ok (.istore_n 3, 1) := by decide +kernel
theorem dX6_number_12 : decode cX6_number 12 = .ok (.aload_n 0, 1) := by decide +kernel
theorem dX6_number_13 : decode cX6_number 13 = .ok (.getfield 74, 3) := by decide +kernel
theorem dX6_number_16 : decode cX6_number 16 = .ok (.iload_n 2, 1) := by decide +kernel
theorem dX6_number_17 : decode cX6_number 17 = .ok (.isub, 1) := by decide +kernel
theorem dX6_number_18 : decode cX6_number 18 = .ok (.iconst 3, 1) := by decide +kernel
theorem dX6_number_19 : decode cX6_number 19 = .ok (.if_icmp .ge 54, 3) := by decide +kernel
theorem dX6_number_22 : decode cX6_number 22 = .ok (.aload_n 0, 1) := by decide +kernel
theorem dX6_number_23 : decode cX6_number 23 = .ok (.aload_n 0, 1) := by decide +kernel
theorem dX6_number_24 : decode cX6_number 24 = .ok (.getfield 74, 3) := by decide +kernel
theorem dX6_number_27 : decode cX6_number 27 = .ok (.invokevirtual 77, 3) := by decide +kernel
theorem dX6_number_30 : decode cX6_number 30 = .ok (.i2l, 1) := by decide +kernel
theorem dX6_number_31 : decode cX6_number 31 = .ok (.ldc2_w 91, 3) := by decide +kernel
theorem dX6_number_34 : decode cX6_number 34 = .ok (.ldc2_w 93, 3) := by decide +kernel
theorem dX6_number_37 : decode cX6_number 37 = .ok (.invokestatic 38, 3) := by decide +kernel
theorem dX6_number_40 : decode cX6_number 40 = .ok (.ifCond .eq 33, 3) := by decide +kernel
theorem dX6_number_43 : decode cX6_number 43 = .ok (.bipush 10, 2) := by decide +kernel
theorem dX6_number_45 : decode cX6_number 45 = .ok (.iload_n 3, 1) := by decide +kernel
theorem dX6_number_46 : decode cX6_number 46 = .ok (.imul, 1) := by decide +kernel
theorem dX6_number_47 : decode cX6_number 47 = .ok (.aload_n 0, 1) := by decide +kernel
theorem dX6_number_48 : decode cX6_number 48 = .ok (.aload_n 0, 1) := by decide +kernel
theorem dX6_number_49 : decode cX6_number 49 = .ok (.getfield 74, 3) := by decide +kernel
theorem dX6_number_52 : decode cX6_number 52 = .ok (.invokevirtual 77, 3) := by decide +kernel
theorem dX6_number_55 : decode cX6_number 55 = .ok (.iadd, 1) := by decide +kernel
theorem dX6_number_56 : decode cX6_number 56 = .ok (.bipush 48, 2) := by decide +kernel
theorem dX6_number_58 : decode cX6_number 58 = .ok (.isub, 1) := by decide +kernel
theorem dX6_number_59 : decode cX6_number 59 = .ok (.istore_n 3, 1) := by decide +kernel
theorem dX6_number_60 : decode cX6_number 60 = .ok (.aload_n 0, 1) := by decide +kernel
theorem dX6_number_61 : decode cX6_number 61 = .ok (.dup, 1) := by decide +kernel
theorem dX6_number_62 : decode cX6_number 62 = .ok (.getfield 74, 3) := by decide +kernel
theorem dX6_number_65 : decode cX6_number 65 = .ok (.iconst 1, 1) := by decide +kernel
theorem dX6_number_66 : decode cX6_number 66 = .ok (.iadd, 1) := by decide +kernel
theorem dX6_number_67 : decode cX6_number 67 = .ok (.putfield 74, 3) := by decide +kernel
theorem dX6_number_70 : decode cX6_number 70 = .ok (.goto (-58), 3) := by decide +kernel
theorem dX6_number_73 : decode cX6_number 73 = .ok (.aload_n 0, 1) := by decide +kernel
theorem dX6_number_74 : decode cX6_number 74 = .ok (.getfield 74, 3) := by decide +kernel
theorem dX6_number_77 : decode cX6_number 77 = .ok (.iload_n 2, 1) := by decide +kernel
theorem dX6_number_78 : decode cX6_number 78 = .ok (.if_icmp .eq 8, 3) := by decide +kernel
theorem dX6_number_81 : decode cX6_number 81 = .ok (.iload_n 3, 1) := by decide +kernel
theorem dX6_number_82 : decode cX6_number 82 = .ok (.iload_n 1, 1) := by decide +kernel
theorem dX6_number_83 : decode cX6_number 83 = .ok (.if_icmp .le 11, 3) := by decide +kernel
theorem dX6_number_86 : decode cX6_number 86 = .ok (.aload_n 0, 1) := by decide +kernel
theorem dX6_number_87 : decode cX6_number 87 = .ok (.iload_n 2, 1) := by decide +kernel
theorem dX6_number_88 : decode cX6_number 88 = .ok (.invokevirtual 88, 3) := by decide +kernel
theorem dX6_number_91 : decode cX6_number 91 = .ok (.pop, 1) := by decide +kernel
theorem dX6_number_92 : decode cX6_number 92 = .ok (.iconst (-1), 1) := by decide +kernel
theorem dX6_number_93 : decode cX6_number 93 = .ok (.ireturn, 1) := by decide +kernel
theorem dX6_number_94 : decode cX6_number 94 = .ok (.iload_n 3, 1) := by decide +kernel
theorem dX6_number_95 : decode cX6_number 95 = .ok (.ireturn, 1) := by decide +kernel
theorem dX6_takesStage_0 : decode cX6_takesStage 0 = .ok (.aload_n 0, 1) := by decide +kernel
theorem dX6_takesStage_1 : decode cX6_takesStage 1 = .ok (.getfield 7, 3) := by decide +kernel
theorem dX6_takesStage_4 : decode cX6_takesStage 4 = .ok (.sipush 455, 3) := by decide +kernel
theorem dX6_takesStage_7 : decode cX6_takesStage 7 = .ok (.iaload, 1) := by decide +kernel
theorem dX6_takesStage_8 : decode cX6_takesStage 8 = .ok (.istore_n 1, 1) := by decide +kernel
theorem dX6_takesStage_9 : decode cX6_takesStage 9 = .ok (.aload_n 0, 1) := by decide +kernel
theorem dX6_takesStage_10 : decode cX6_takesStage 10 = .ok (.iconst 1, 1) := by decide +kernel
theorem dX6_takesStage_11 : decode cX6_takesStage 11 = .ok (.bipush 9, 2) := by decide +kernel
theorem dX6_takesStage_13 : decode cX6_takesStage 13 = .ok (.invokevirtual 95, 3) := by decide +kernel
theorem dX6_takesStage_16 : decode cX6_takesStage 16 = .ok (.istore_n 2, 1) := by decide +kernel
theorem dX6_takesStage_17 : decode cX6_takesStage 17 = .ok (.iload_n 2, 1) := by decide +kernel
theorem dX6_takesStage_18 : decode cX6_takesStage 18 = .ok (.ifCond .ge 7, 3) := by decide +kernel
theorem dX6_takesStage_21 : decode cX6_takesStage 21 = .ok (.iconst (-1), 1) := by decide +kernel
theorem dX6_takesStage_22 : decode cX6_takesStage 22 = .ok (.goto 10, 3) := by decide +kernel
theorem dX6_takesStage_25 : decode cX6_takesStage 25 = .ok (.aload_n 0, 1) := by decide +kernel
theorem dX6_takesStage_26 : decode cX6_takesStage 26 = .ok (.iconst 0, 1) := by decide +kernel
theorem dX6_takesStage_27 : decode cX6_takesStage 27 = .ok (.bipush 9, 2) := by decide +kernel
theorem dX6_takesStage_29 : decode cX6_takesStage 29 = .ok (.invokevirtual 95, 3) := by decide +kernel
theorem dX6_takesStage_32 : decode cX6_takesStage 32 = .ok (.istore_n 3, 1) := by decide +kernel
theorem dX6_takesStage_33 : decode cX6_takesStage 33 = .ok (.iload_n 3, 1) := by decide +kernel
theorem dX6_takesStage_34 : decode cX6_takesStage 34 = .ok (.ifCond .ge 7, 3) := by decide +kernel
theorem dX6_takesStage_37 : decode cX6_takesStage 37 = .ok (.iconst (-1), 1) := by decide +kernel
theorem dX6_takesStage_38 : decode cX6_takesStage 38 = .ok (.goto 9, 3) := by decide +kernel
theorem dX6_takesStage_41 : decode cX6_takesStage 41 = .ok (.aload_n 0, 1) := by decide +kernel
theorem dX6_takesStage_42 : decode cX6_takesStage 42 = .ok (.iconst 0, 1) := by decide +kernel
theorem dX6_takesStage_43 : decode cX6_takesStage 43 = .ok (.iconst 4, 1) := by decide +kernel
theorem dX6_takesStage_44 : decode cX6_takesStage 44 = .ok (.invokevirtual 95, 3) := by decide +kernel
theorem dX6_takesStage_47 : decode cX6_takesStage 47 = .ok (.istore 4, 2) := by decide +kernel
theorem dX6_takesStage_49 : decode cX6_takesStage 49 = .ok (.iload 4, 2) := by decide +kernel
theorem dX6_takesStage_51 : decode cX6_takesStage 51 = .ok (.ifCond .ge 5, 3) := by decide +kernel
theorem dX6_takesStage_54 : decode cX6_takesStage 54 = .ok (.iconst 0, 1) := by decide +kernel
theorem dX6_takesStage_55 : decode cX6_takesStage 55 = .ok (.ireturn, 1) := by decide +kernel
theorem dX6_takesStage_56 : decode cX6_takesStage 56 = .ok (.aload_n 0, 1) := by decide +kernel
theorem dX6_takesStage_57 : decode cX6_takesStage 57 = .ok (.getfield 7, 3) := by decide +kernel
theorem dX6_takesStage_60 : decode cX6_takesStage 60 = .ok (.sipush 458, 3) := by decide +kernel
theorem dX6_takesStage_63 : decode cX6_takesStage 63 = .ok (.iload_n 1, 1) := by decide +kernel
theorem dX6_takesStage_64 : decode cX6_takesStage 64 = .ok (.iadd, 1) := by decide +kernel
theorem dX6_takesStage_65 : decode cX6_takesStage 65 = .ok (.iload_n 2, 1) := by decide +kernel
theorem dX6_takesStage_66 : decode cX6_takesStage 66 = .ok (.iastore, 1) := by decide +kernel
theorem dX6_takesStage_67 : decode cX6_takesStage 67 = .ok (.aload_n 0, 1) := by decide +kernel
theorem dX6_takesStage_68 : decode cX6_takesStage 68 = .ok (.getfield 7, 3) := by decide +kernel
theorem dX6_takesStage_71 : decode cX6_takesStage 71 = .ok (.sipush 466, 3) := by decide +kernel
theorem dX6_takesStage_74 : decode cX6_takesStage 74 = .ok (.iload_n 1, 1) := by decide +kernel
theorem dX6_takesStage_75 : decode cX6_takesStage 75 = .ok (.iadd, 1) := by decide +kernel
theorem dX6_takesStage_76 : decode cX6_takesStage 76 = .ok (.iload_n 3, 1) := by decide +kernel
theorem dX6_takesStage_77 : decode cX6_takesStage 77 = .ok (.iastore, 1) := by decide +kernel
theorem dX6_takesStage_78 : decode cX6_takesStage 78 = .ok (.aload_n 0, 1) := by decide +kernel
theorem dX6_takesStage_79 : decode cX6_takesStage 79 = .ok (.getfield 7, 3) := by decide +kernel
theorem dX6_takesStage_82 : decode cX6_takesStage 82 = .ok (.sipush 434, 3) := by decide +kernel
theorem dX6_takesStage_85 : decode cX6_takesStage 85 = .ok (.iload_n 1, 1) := by decide +kernel
theorem dX6_takesStage_86 : decode cX6_takesStage 86 = .ok (.iadd, 1) := by decide +kernel
theorem dX6_takesStage_87 : decode cX6_takesStage 87 = .ok (.iload 4, 2) := by decide +kernel
theorem dX6_takesStage_89 : decode cX6_takesStage 89 = .ok (.iastore, 1) := by decide +kernel
theorem dX6_takesStage_90 : decode cX6_takesStage 90 = .ok (.aload_n 0, 1) := by decide +kernel
theorem dX6_takesStage_91 : decode cX6_takesStage 91 = .ok (.getfield 7, 3) := by decide +kernel
theorem dX6_takesStage_94 : decode cX6_takesStage 94 = .ok (.sipush 455, 3) := by decide +kernel
theorem dX6_takesStage_97 : decode cX6_takesStage 97 = .ok (.dup2, 1) := by decide +kernel
theorem dX6_takesStage_98 : decode cX6_takesStage 98 = .ok (.iaload, 1) := by decide +kernel
theorem dX6_takesStage_99 : decode cX6_takesStage 99 = .ok (.iconst 1, 1) := by decide +kernel
theorem dX6_takesStage_100 : decode cX6_takesStage 100 = .ok (.iadd, 1) := by decide +kernel
theorem dX6_takesStage_101 : decode cX6_takesStage 101 = .ok (.iastore, 1) := by decide +kernel
theorem dX6_takesStage_102 : decode cX6_takesStage 102 = .ok (.iconst 1, 1) := by decide +kernel
theorem dX6_takesStage_103 : decode cX6_takesStage 103 = .ok (.ireturn, 1) := by decide +kernel
theorem dX6_kindBy_0 : decode cX6_kindBy 0 = .ok (.iload_n 0, 1) := by decide +kernel
theorem dX6_kindBy_1 : decode cX6_kindBy 1 = .ok (.bipush 112, 2) := by decide +kernel
theorem dX6_kindBy_3 : decode cX6_kindBy 3 = .ok (.if_icmp .ne 7, 3) := by decide +kernel
theorem dX6_kindBy_6 : decode cX6_kindBy 6 = .ok (.iconst 0, 1) := by decide +kernel
theorem dX6_kindBy_7 : decode cX6_kindBy 7 = .ok (.goto 44, 3) := by decide +kernel
theorem dX6_kindBy_10 : decode cX6_kindBy 10 = .ok (.iload_n 0, 1) := by decide +kernel
theorem dX6_kindBy_11 : decode cX6_kindBy 11 = .ok (.bipush 115, 2) := by decide +kernel
theorem dX6_kindBy_13 : decode cX6_kindBy 13 = .ok (.if_icmp .ne 7, 3) := by decide +kernel
theorem dX6_kindBy_16 : decode cX6_kindBy 16 = .ok (.iconst 1, 1) := by decide +kernel
theorem dX6_kindBy_17 : decode cX6_kindBy 17 = .ok (.goto 34, 3) := by decide +kernel
theorem dX6_kindBy_20 : decode cX6_kindBy 20 = .ok (.iload_n 0, 1) := by decide +kernel
theorem dX6_kindBy_21 : decode cX6_kindBy 21 = .ok (.bipush 111, 2) := by decide +kernel
theorem dX6_kindBy_23 : decode cX6_kindBy 23 = .ok (.if_icmp .ne 7, 3) := by decide +kernel
theorem dX6_kindBy_26 : decode cX6_kindBy 26 = .ok (.iconst 2, 1) := by decide +kernel
theorem dX6_kindBy_27 : decode cX6_kindBy 27 = .ok (.goto 24, 3) := by decide +kernel
theorem dX6_kindBy_30 : decode cX6_kindBy 30 = .ok (.iload_n 0, 1) := by decide +kernel
theorem dX6_kindBy_31 : decode cX6_kindBy 31 = .ok (.bipush 98, 2) := by decide +kernel
theorem dX6_kindBy_33 : decode cX6_kindBy 33 = .ok (.if_icmp .ne 7, 3) := by decide +kernel
theorem dX6_kindBy_36 : decode cX6_kindBy 36 = .ok (.iconst 3, 1) := by decide +kernel
theorem dX6_kindBy_37 : decode cX6_kindBy 37 = .ok (.goto 14, 3) := by decide +kernel
theorem dX6_kindBy_40 : decode cX6_kindBy 40 = .ok (.iload_n 0, 1) := by decide +kernel
theorem dX6_kindBy_41 : decode cX6_kindBy 41 = .ok (.bipush 114, 2) := by decide +kernel
theorem dX6_kindBy_43 : decode cX6_kindBy 43 = .ok (.if_icmp .ne 7, 3) := by decide +kernel
theorem dX6_kindBy_46 : decode cX6_kindBy 46 = .ok (.iconst 4, 1) := by decide +kernel
theorem dX6_kindBy_47 : decode cX6_kindBy 47 = .ok (.goto 4, 3) := by decide +kernel
theorem dX6_kindBy_50 : decode cX6_kindBy 50 = .ok (.iconst (-1), 1) := by decide +kernel
theorem dX6_kindBy_51 : decode cX6_kindBy 51 = .ok (.ireturn, 1) := by decide +kernel
theorem dX6_takesBuys_0 : decode cX6_takesBuys 0 = .ok (.aload_n 0, 1) := by decide +kernel
theorem dX6_takesBuys_1 : decode cX6_takesBuys 1 = .ok (.dup, 1) := by decide +kernel
theorem dX6_takesBuys_2 : decode cX6_takesBuys 2 = .ok (.getfield 74, 3) := by decide +kernel
theorem dX6_takesBuys_5 : decode cX6_takesBuys 5 = .ok (.iconst 1, 1) := by decide +kernel
theorem dX6_takesBuys_6 : decode cX6_takesBuys 6 = .ok (.iadd, 1) := by decide +kernel
theorem dX6_takesBuys_7 : decode cX6_takesBuys 7 = .ok (.putfield 74, 3) := by decide +kernel
theorem dX6_takesBuys_10 : decode cX6_takesBuys 10 = .ok (.iconst 0, 1) := by decide +kernel
theorem dX6_takesBuys_11 : decode cX6_takesBuys 11 = .ok (.istore_n 2, 1) := by decide +kernel
theorem dX6_takesBuys_12 : decode cX6_takesBuys 12 = .ok (.iload_n 2, 1) := by decide +kernel
theorem dX6_takesBuys_13 : decode cX6_takesBuys 13 = .ok (.ifCond .eq 20, 3) := by decide +kernel
theorem dX6_takesBuys_16 : decode cX6_takesBuys 16 = .ok (.aload_n 0, 1) := by decide +kernel
theorem dX6_takesBuys_17 : decode cX6_takesBuys 17 = .ok (.invokevirtual 84, 3) := by decide +kernel
theorem dX6_takesBuys_20 : decode cX6_takesBuys 20 = .ok (.i2l, 1) := by decide +kernel
theorem dX6_takesBuys_21 : decode cX6_takesBuys 21 = .ok (.ldc2_w 91, 3) := by decide +kernel
theorem dX6_takesBuys_24 : decode cX6_takesBuys 24 = .ok (.ldc2_w 93, 3) := by decide +kernel
theorem dX6_takesBuys_27 : decode cX6_takesBuys 27 = .ok (.invokestatic 38, 3) := by decide +kernel
theorem dX6_takesBuys_30 : decode cX6_takesBuys 30 = .ok (.ifCond .eq 48, 3) := by decide +kernel
theorem dX6_takesBuys_33 : decode cX6_takesBuys 33 = .ok (.aload_n 0, 1) := by decide +kernel
theorem dX6_takesBuys_34 : decode cX6_takesBuys 34 = .ok (.iload_n 2, 1) := by decide +kernel
theorem dX6_takesBuys_35 : decode cX6_takesBuys 35 = .ok (.aload_n 0, 1) := by decide +kernel
theorem dX6_takesBuys_36 : decode cX6_takesBuys 36 = .ok (.getfield 7, 3) := by decide +kernel
theorem dX6_takesBuys_39 : decode cX6_takesBuys 39 = .ok (.sipush 455, 3) := by decide +kernel
theorem dX6_takesBuys_42 : decode cX6_takesBuys 42 = .ok (.iaload, 1) := by decide +kernel
theorem dX6_takesBuys_43 : decode cX6_takesBuys 43 = .ok (.iconst 1, 1) := by decide +kernel
theorem dX6_takesBuys_44 : decode cX6_takesBuys 44 = .ok (.isub, 1) := by decide +kernel
theorem dX6_takesBuys_45 : decode cX6_takesBuys 45 = .ok (.invokevirtual 95, 3) := by decide +kernel
theorem dX6_takesBuys_48 : decode cX6_takesBuys 48 = .ok (.istore_n 3, 1) := by decide +kernel
theorem dX6_takesBuys_49 : decode cX6_takesBuys 49 = .ok (.iload_n 3, 1) := by decide +kernel
theorem dX6_takesBuys_50 : decode cX6_takesBuys 50 = .ok (.ifCond .ge 5, 3) := by decide +kernel
theorem dX6_takesBuys_53 : decode cX6_takesBuys 53 = .ok (.iconst 0, 1) := by decide +kernel
theorem dX6_takesBuys_54 : decode cX6_takesBuys 54 = .ok (.ireturn, 1) := by decide +kernel
theorem dX6_takesBuys_55 : decode cX6_takesBuys 55 = .ok (.aload_n 0, 1) := by decide +kernel
theorem dX6_takesBuys_56 : decode cX6_takesBuys 56 = .ok (.getfield 7, 3) := by decide +kernel
theorem dX6_takesBuys_59 : decode cX6_takesBuys 59 = .ok (.sipush 478, 3) := by decide +kernel
theorem dX6_takesBuys_62 : decode cX6_takesBuys 62 = .ok (.iload_n 1, 1) := by decide +kernel
theorem dX6_takesBuys_63 : decode cX6_takesBuys 63 = .ok (.iadd, 1) := by decide +kernel
theorem dX6_takesBuys_64 : decode cX6_takesBuys 64 = .ok (.dup2, 1) := by decide +kernel
theorem dX6_takesBuys_65 : decode cX6_takesBuys 65 = .ok (.iaload, 1) := by decide +kernel
theorem dX6_takesBuys_66 : decode cX6_takesBuys 66 = .ok (.iconst 1, 1) := by decide +kernel
theorem dX6_takesBuys_67 : decode cX6_takesBuys 67 = .ok (.iload_n 3, 1) := by decide +kernel
theorem dX6_takesBuys_68 : decode cX6_takesBuys 68 = .ok (.ishl, 1) := by decide +kernel
theorem dX6_takesBuys_69 : decode cX6_takesBuys 69 = .ok (.ior, 1) := by decide +kernel
theorem dX6_takesBuys_70 : decode cX6_takesBuys 70 = .ok (.iastore, 1) := by decide +kernel
theorem dX6_takesBuys_71 : decode cX6_takesBuys 71 = .ok (.iload_n 3, 1) := by decide +kernel
theorem dX6_takesBuys_72 : decode cX6_takesBuys 72 = .ok (.iconst 1, 1) := by decide +kernel
theorem dX6_takesBuys_73 : decode cX6_takesBuys 73 = .ok (.iadd, 1) := by decide +kernel
theorem dX6_takesBuys_74 : decode cX6_takesBuys 74 = .ok (.istore_n 2, 1) := by decide +kernel
theorem dX6_takesBuys_75 : decode cX6_takesBuys 75 = .ok (.goto (-63), 3) := by decide +kernel
theorem dX6_takesBuys_78 : decode cX6_takesBuys 78 = .ok (.iconst 1, 1) := by decide +kernel
theorem dX6_takesBuys_79 : decode cX6_takesBuys 79 = .ok (.ireturn, 1) := by decide +kernel
theorem dX6_takesRider_0 : decode cX6_takesRider 0 = .ok (.aload_n 0, 1) := by decide +kernel
theorem dX6_takesRider_1 : decode cX6_takesRider 1 = .ok (.getfield 7, 3) := by decide +kernel
theorem dX6_takesRider_4 : decode cX6_takesRider 4 = .ok (.sipush 456, 3) := by decide +kernel
theorem dX6_takesRider_7 : decode cX6_takesRider 7 = .ok (.iaload, 1) := by decide +kernel
theorem dX6_takesRider_8 : decode cX6_takesRider 8 = .ok (.istore_n 1, 1) := by decide +kernel
theorem dX6_takesRider_9 : decode cX6_takesRider 9 = .ok (.aload_n 0, 1) := by decide +kernel
theorem dX6_takesRider_10 : decode cX6_takesRider 10 = .ok (.invokevirtual 84, 3) := by decide +kernel
theorem dX6_takesRider_13 : decode cX6_takesRider 13 = .ok (.invokestatic 99, 3) := by decide +kernel
theorem dX6_takesRider_16 : decode cX6_takesRider 16 = .ok (.istore_n 2, 1) := by decide +kernel
theorem dX6_takesRider_17 : decode cX6_takesRider 17 = .ok (.iload_n 2, 1) := by decide +kernel
theorem dX6_takesRider_18 : decode cX6_takesRider 18 = .ok (.ifCond .ge 12, 3) := by decide +kernel
theorem dX6_takesRider_21 : decode cX6_takesRider 21 = .ok (.aload_n 0, 1) := by decide +kernel
theorem dX6_takesRider_22 : decode cX6_takesRider 22 = .ok (.aload_n 0, 1) := by decide +kernel
theorem dX6_takesRider_23 : decode cX6_takesRider 23 = .ok (.getfield 74, 3) := by decide +kernel
theorem dX6_takesRider_26 : decode cX6_takesRider 26 = .ok (.invokevirtual 88, 3) := by decide +kernel
theorem dX6_takesRider_29 : decode cX6_takesRider 29 = .ok (.ireturn, 1) := by decide +kernel
theorem dX6_takesRider_30 : decode cX6_takesRider 30 = .ok (.aload_n 0, 1) := by decide +kernel
theorem dX6_takesRider_31 : decode cX6_takesRider 31 = .ok (.dup, 1) := by decide +kernel
theorem dX6_takesRider_32 : decode cX6_takesRider 32 = .ok (.getfield 74, 3) := by decide +kernel
theorem dX6_takesRider_35 : decode cX6_takesRider 35 = .ok (.iconst 1, 1) := by decide +kernel
theorem dX6_takesRider_36 : decode cX6_takesRider 36 = .ok (.iadd, 1) := by decide +kernel
theorem dX6_takesRider_37 : decode cX6_takesRider 37 = .ok (.putfield 74, 3) := by decide +kernel
theorem dX6_takesRider_40 : decode cX6_takesRider 40 = .ok (.aload_n 0, 1) := by decide +kernel
theorem dX6_takesRider_41 : decode cX6_takesRider 41 = .ok (.sipush 999, 3) := by decide +kernel
theorem dX6_takesRider_44 : decode cX6_takesRider 44 = .ok (.invokevirtual 102, 3) := by decide +kernel
theorem dX6_takesRider_47 : decode cX6_takesRider 47 = .ok (.istore_n 3, 1) := by decide +kernel
theorem dX6_takesRider_48 : decode cX6_takesRider 48 = .ok (.iload_n 3, 1) := by decide +kernel
theorem dX6_takesRider_49 : decode cX6_takesRider 49 = .ok (.ifCond .ge 5, 3) := by decide +kernel
theorem dX6_takesRider_52 : decode cX6_takesRider 52 = .ok (.iconst 0, 1) := by decide +kernel
theorem dX6_takesRider_53 : decode cX6_takesRider 53 = .ok (.ireturn, 1) := by decide +kernel
theorem dX6_takesRider_54 : decode cX6_takesRider 54 = .ok (.aload_n 0, 1) := by decide +kernel
theorem dX6_takesRider_55 : decode cX6_takesRider 55 = .ok (.invokevirtual 84, 3) := by decide +kernel
theorem dX6_takesRider_58 : decode cX6_takesRider 58 = .ok (.bipush 47, 2) := by decide +kernel
theorem dX6_takesRider_60 : decode cX6_takesRider 60 = .ok (.if_icmp .eq 12, 3) := by decide +kernel
theorem dX6_takesRider_63 : decode cX6_takesRider 63 = .ok (.aload_n 0, 1) := by decide +kernel
theorem dX6_takesRider_64 : decode cX6_takesRider 64 = .ok (.aload_n 0, 1) := by decide +kernel
theorem dX6_takesRider_65 : decode cX6_takesRider 65 = .ok (.getfield 74, 3) := by decide +kernel
theorem dX6_takesRider_68 : decode cX6_takesRider 68 = .ok (.invokevirtual 88, 3) := by decide +kernel
theorem dX6_takesRider_71 : decode cX6_takesRider 71 = .ok (.ireturn, 1) := by decide +kernel
theorem dX6_takesRider_72 : decode cX6_takesRider 72 = .ok (.aload_n 0, 1) := by decide +kernel
theorem dX6_takesRider_73 : decode cX6_takesRider 73 = .ok (.dup, 1) := by decide +kernel
theorem dX6_takesRider_74 : decode cX6_takesRider 74 = .ok (.getfield 74, 3) := by decide +kernel
theorem dX6_takesRider_77 : decode cX6_takesRider 77 = .ok (.iconst 1, 1) := by decide +kernel
theorem dX6_takesRider_78 : decode cX6_takesRider 78 = .ok (.iadd, 1) := by decide +kernel
theorem dX6_takesRider_79 : decode cX6_takesRider 79 = .ok (.putfield 74, 3) := by decide +kernel
theorem dX6_takesRider_82 : decode cX6_takesRider 82 = .ok (.aload_n 0, 1) := by decide +kernel
theorem dX6_takesRider_83 : decode cX6_takesRider 83 = .ok (.bipush 99, 2) := by decide +kernel
theorem dX6_takesRider_85 : decode cX6_takesRider 85 = .ok (.invokevirtual 102, 3) := by decide +kernel
theorem dX6_takesRider_88 : decode cX6_takesRider 88 = .ok (.istore 4, 2) := by decide +kernel
theorem dX6_takesRider_90 : decode cX6_takesRider 90 = .ok (.iload 4, 2) := by decide +kernel
theorem dX6_takesRider_92 : decode cX6_takesRider 92 = .ok (.ifCond .ge 5, 3) := by decide +kernel
theorem dX6_takesRider_95 : decode cX6_takesRider 95 = .ok (.iconst 0, 1) := by decide +kernel
theorem dX6_takesRider_96 : decode cX6_takesRider 96 = .ok (.ireturn, 1) := by decide +kernel
theorem dX6_takesRider_97 : decode cX6_takesRider 97 = .ok (.aload_n 0, 1) := by decide +kernel
theorem dX6_takesRider_98 : decode cX6_takesRider 98 = .ok (.getfield 7, 3) := by decide +kernel
theorem dX6_takesRider_101 : decode cX6_takesRider 101 = .ok (.sipush 474, 3) := by decide +kernel
theorem dX6_takesRider_104 : decode cX6_takesRider 104 = .ok (.iload_n 1, 1) := by decide +kernel
theorem dX6_takesRider_105 : decode cX6_takesRider 105 = .ok (.iadd, 1) := by decide +kernel
theorem dX6_takesRider_106 : decode cX6_takesRider 106 = .ok (.iload_n 2, 1) := by decide +kernel
theorem dX6_takesRider_107 : decode cX6_takesRider 107 = .ok (.iastore, 1) := by decide +kernel
theorem dX6_takesRider_108 : decode cX6_takesRider 108 = .ok (.aload_n 0, 1) := by decide +kernel
theorem dX6_takesRider_109 : decode cX6_takesRider 109 = .ok (.getfield 7, 3) := by decide +kernel
theorem dX6_takesRider_112 : decode cX6_takesRider 112 = .ok (.sipush 446, 3) := by decide +kernel
theorem dX6_takesRider_115 : decode cX6_takesRider 115 = .ok (.iload_n 1, 1) := by decide +kernel
theorem dX6_takesRider_116 : decode cX6_takesRider 116 = .ok (.iadd, 1) := by decide +kernel
theorem dX6_takesRider_117 : decode cX6_takesRider 117 = .ok (.iload_n 3, 1) := by decide +kernel
theorem dX6_takesRider_118 : decode cX6_takesRider 118 = .ok (.iastore, 1) := by decide +kernel
theorem dX6_takesRider_119 : decode cX6_takesRider 119 = .ok (.aload_n 0, 1) := by decide +kernel
theorem dX6_takesRider_120 : decode cX6_takesRider 120 = .ok (.getfield 7, 3) := by decide +kernel
theorem dX6_takesRider_123 : decode cX6_takesRider 123 = .ok (.sipush 450, 3) := by decide +kernel
theorem dX6_takesRider_126 : decode cX6_takesRider 126 = .ok (.iload_n 1, 1) := by decide +kernel
theorem dX6_takesRider_127 : decode cX6_takesRider 127 = .ok (.iadd, 1) := by decide +kernel
theorem dX6_takesRider_128 : decode cX6_takesRider 128 = .ok (.iload 4, 2) := by decide +kernel
theorem dX6_takesRider_130 : decode cX6_takesRider 130 = .ok (.iastore, 1) := by decide +kernel
theorem dX6_takesRider_131 : decode cX6_takesRider 131 = .ok (.aload_n 0, 1) := by decide +kernel
theorem dX6_takesRider_132 : decode cX6_takesRider 132 = .ok (.getfield 7, 3) := by decide +kernel
theorem dX6_takesRider_135 : decode cX6_takesRider 135 = .ok (.sipush 456, 3) := by decide +kernel
theorem dX6_takesRider_138 : decode cX6_takesRider 138 = .ok (.dup2, 1) := by decide +kernel
theorem dX6_takesRider_139 : decode cX6_takesRider 139 = .ok (.iaload, 1) := by decide +kernel
theorem dX6_takesRider_140 : decode cX6_takesRider 140 = .ok (.iconst 1, 1) := by decide +kernel
theorem dX6_takesRider_141 : decode cX6_takesRider 141 = .ok (.iadd, 1) := by decide +kernel
theorem dX6_takesRider_142 : decode cX6_takesRider 142 = .ok (.iastore, 1) := by decide +kernel
theorem dX6_takesRider_143 : decode cX6_takesRider 143 = .ok (.aload_n 0, 1) := by decide +kernel
theorem dX6_takesRider_144 : decode cX6_takesRider 144 = .ok (.invokevirtual 84, 3) := by decide +kernel
theorem dX6_takesRider_147 : decode cX6_takesRider 147 = .ok (.bipush 58, 2) := by decide +kernel
theorem dX6_takesRider_149 : decode cX6_takesRider 149 = .ok (.if_icmp .ne 11, 3) := by decide +kernel
theorem dX6_takesRider_152 : decode cX6_takesRider 152 = .ok (.aload_n 0, 1) := by decide +kernel
theorem dX6_takesRider_153 : decode cX6_takesRider 153 = .ok (.iload_n 1, 1) := by decide +kernel
theorem dX6_takesRider_154 : decode cX6_takesRider 154 = .ok (.invokevirtual 105, 3) := by decide +kernel
theorem dX6_takesRider_157 : decode cX6_takesRider 157 = .ok (.ifCond .eq 7, 3) := by decide +kernel
theorem dX6_takesRider_160 : decode cX6_takesRider 160 = .ok (.iconst 1, 1) := by decide +kernel
theorem dX6_takesRider_161 : decode cX6_takesRider 161 = .ok (.goto 4, 3) := by decide +kernel
theorem dX6_takesRider_164 : decode cX6_takesRider 164 = .ok (.iconst 0, 1) := by decide +kernel
theorem dX6_takesRider_165 : decode cX6_takesRider 165 = .ok (.ireturn, 1) := by decide +kernel
theorem dX6_takesRoad_0 : decode cX6_takesRoad 0 = .ok (.aload_n 0, 1) := by decide +kernel
theorem dX6_takesRoad_1 : decode cX6_takesRoad 1 = .ok (.invokevirtual 108, 3) := by decide +kernel
theorem dX6_takesRoad_4 : decode cX6_takesRoad 4 = .ok (.ifCond .ne 5, 3) := by decide +kernel
theorem dX6_takesRoad_7 : decode cX6_takesRoad 7 = .ok (.iconst 0, 1) := by decide +kernel
theorem dX6_takesRoad_8 : decode cX6_takesRoad 8 = .ok (.ireturn, 1) := by decide +kernel
theorem dX6_takesRoad_9 : decode cX6_takesRoad 9 = .ok (.aload_n 0, 1) := by decide +kernel
theorem dX6_takesRoad_10 : decode cX6_takesRoad 10 = .ok (.invokevirtual 84, 3) := by decide +kernel
theorem dX6_takesRoad_13 : decode cX6_takesRoad 13 = .ok (.bipush 44, 2) := by decide +kernel
theorem dX6_takesRoad_15 : decode cX6_takesRoad 15 = .ok (.if_icmp .ne 35, 3) := by decide +kernel
theorem dX6_takesRoad_18 : decode cX6_takesRoad 18 = .ok (.aload_n 0, 1) := by decide +kernel
theorem dX6_takesRoad_19 : decode cX6_takesRoad 19 = .ok (.getfield 7, 3) := by decide +kernel
theorem dX6_takesRoad_22 : decode cX6_takesRoad 22 = .ok (.sipush 455, 3) := by decide +kernel
theorem dX6_takesRoad_25 : decode cX6_takesRoad 25 = .ok (.iaload, 1) := by decide +kernel
theorem dX6_takesRoad_26 : decode cX6_takesRoad 26 = .ok (.bipush 8, 2) := by decide +kernel
theorem dX6_takesRoad_28 : decode cX6_takesRoad 28 = .ok (.if_icmp .ge 22, 3) := by decide +kernel
theorem dX6_takesRoad_31 : decode cX6_takesRoad 31 = .ok (.aload_n 0, 1) := by decide +kernel
theorem dX6_takesRoad_32 : decode cX6_takesRoad 32 = .ok (.dup, 1) := by decide +kernel
theorem dX6_takesRoad_33 : decode cX6_takesRoad 33 = .ok (.getfield 74, 3) := by decide +kernel
theorem dX6_takesRoad_36 : decode cX6_takesRoad 36 = .ok (.iconst 1, 1) := by decide +kernel
theorem dX6_takesRoad_37 : decode cX6_takesRoad 37 = .ok (.iadd, 1) := by decide +kernel
theorem dX6_takesRoad_38 : decode cX6_takesRoad 38 = .ok (.putfield 74, 3) := by decide +kernel
theorem dX6_takesRoad_41 : decode cX6_takesRoad 41 = .ok (.aload_n 0, 1) := by decide +kernel
theorem dX6_takesRoad_42 : decode cX6_takesRoad 42 = .ok (.invokevirtual 108, 3) := by decide +kernel
theorem dX6_takesRoad_45 : decode cX6_takesRoad 45 = .ok (.ifCond .ne (-36), 3) := by decide +kernel
theorem dX6_takesRoad_48 : decode cX6_takesRoad 48 = .ok (.iconst 0, 1) := by decide +kernel
theorem dX6_takesRoad_49 : decode cX6_takesRoad 49 = .ok (.ireturn, 1) := by decide +kernel
theorem dX6_takesRoad_50 : decode cX6_takesRoad 50 = .ok (.aload_n 0, 1) := by decide +kernel
theorem dX6_takesRoad_51 : decode cX6_takesRoad 51 = .ok (.invokevirtual 84, 3) := by decide +kernel
theorem dX6_takesRoad_54 : decode cX6_takesRoad 54 = .ok (.bipush 59, 2) := by decide +kernel
theorem dX6_takesRoad_56 : decode cX6_takesRoad 56 = .ok (.if_icmp .eq 12, 3) := by decide +kernel
theorem dX6_takesRoad_59 : decode cX6_takesRoad 59 = .ok (.aload_n 0, 1) := by decide +kernel
theorem dX6_takesRoad_60 : decode cX6_takesRoad 60 = .ok (.aload_n 0, 1) := by decide +kernel
theorem dX6_takesRoad_61 : decode cX6_takesRoad 61 = .ok (.getfield 74, 3) := by decide +kernel
theorem dX6_takesRoad_64 : decode cX6_takesRoad 64 = .ok (.invokevirtual 88, 3) := by decide +kernel
theorem dX6_takesRoad_67 : decode cX6_takesRoad 67 = .ok (.ireturn, 1) := by decide +kernel
theorem dX6_takesRoad_68 : decode cX6_takesRoad 68 = .ok (.aload_n 0, 1) := by decide +kernel
theorem dX6_takesRoad_69 : decode cX6_takesRoad 69 = .ok (.dup, 1) := by decide +kernel
theorem dX6_takesRoad_70 : decode cX6_takesRoad 70 = .ok (.getfield 74, 3) := by decide +kernel
theorem dX6_takesRoad_73 : decode cX6_takesRoad 73 = .ok (.iconst 1, 1) := by decide +kernel
theorem dX6_takesRoad_74 : decode cX6_takesRoad 74 = .ok (.iadd, 1) := by decide +kernel
theorem dX6_takesRoad_75 : decode cX6_takesRoad 75 = .ok (.putfield 74, 3) := by decide +kernel
theorem dX6_takesRoad_78 : decode cX6_takesRoad 78 = .ok (.aload_n 0, 1) := by decide +kernel
theorem dX6_takesRoad_79 : decode cX6_takesRoad 79 = .ok (.invokevirtual 112, 3) := by decide +kernel
theorem dX6_takesRoad_82 : decode cX6_takesRoad 82 = .ok (.ifCond .ne 5, 3) := by decide +kernel
theorem dX6_takesRoad_85 : decode cX6_takesRoad 85 = .ok (.iconst 0, 1) := by decide +kernel
theorem dX6_takesRoad_86 : decode cX6_takesRoad 86 = .ok (.ireturn, 1) := by decide +kernel
theorem dX6_takesRoad_87 : decode cX6_takesRoad 87 = .ok (.aload_n 0, 1) := by decide +kernel
theorem dX6_takesRoad_88 : decode cX6_takesRoad 88 = .ok (.invokevirtual 84, 3) := by decide +kernel
theorem dX6_takesRoad_91 : decode cX6_takesRoad 91 = .ok (.bipush 44, 2) := by decide +kernel
theorem dX6_takesRoad_93 : decode cX6_takesRoad 93 = .ok (.if_icmp .ne 34, 3) := by decide +kernel
theorem dX6_takesRoad_96 : decode cX6_takesRoad 96 = .ok (.aload_n 0, 1) := by decide +kernel
theorem dX6_takesRoad_97 : decode cX6_takesRoad 97 = .ok (.getfield 7, 3) := by decide +kernel
theorem dX6_takesRoad_100 : decode cX6_takesRoad 100 = .ok (.sipush 456, 3) := by decide +kernel
theorem dX6_takesRoad_103 : decode cX6_takesRoad 103 = .ok (.iaload, 1) := by decide +kernel
theorem dX6_takesRoad_104 : decode cX6_takesRoad 104 = .ok (.iconst 4, 1) := by decide +kernel
theorem dX6_takesRoad_105 : decode cX6_takesRoad 105 = .ok (.if_icmp .ge 22, 3) := by decide +kernel
theorem dX6_takesRoad_108 : decode cX6_takesRoad 108 = .ok (.aload_n 0, 1) := by decide +kernel
theorem dX6_takesRoad_109 : decode cX6_takesRoad 109 = .ok (.dup, 1) := by decide +kernel
theorem dX6_takesRoad_110 : decode cX6_takesRoad 110 = .ok (.getfield 74, 3) := by decide +kernel
theorem dX6_takesRoad_113 : decode cX6_takesRoad 113 = .ok (.iconst 1, 1) := by decide +kernel
theorem dX6_takesRoad_114 : decode cX6_takesRoad 114 = .ok (.iadd, 1) := by decide +kernel
theorem dX6_takesRoad_115 : decode cX6_takesRoad 115 = .ok (.putfield 74, 3) := by decide +kernel
theorem dX6_takesRoad_118 : decode cX6_takesRoad 118 = .ok (.aload_n 0, 1) := by decide +kernel
theorem dX6_takesRoad_119 : decode cX6_takesRoad 119 = .ok (.invokevirtual 112, 3) := by decide +kernel
theorem dX6_takesRoad_122 : decode cX6_takesRoad 122 = .ok (.ifCond .ne (-35), 3) := by decide +kernel
theorem dX6_takesRoad_125 : decode cX6_takesRoad 125 = .ok (.iconst 0, 1) := by decide +kernel
theorem dX6_takesRoad_126 : decode cX6_takesRoad 126 = .ok (.ireturn, 1) := by decide +kernel
theorem dX6_takesRoad_127 : decode cX6_takesRoad 127 = .ok (.aload_n 0, 1) := by decide +kernel
theorem dX6_takesRoad_128 : decode cX6_takesRoad 128 = .ok (.invokevirtual 84, 3) := by decide +kernel
theorem dX6_takesRoad_131 : decode cX6_takesRoad 131 = .ok (.ifCond .lt 14, 3) := by decide +kernel
theorem dX6_takesRoad_134 : decode cX6_takesRoad 134 = .ok (.aload_n 0, 1) := by decide +kernel
theorem dX6_takesRoad_135 : decode cX6_takesRoad 135 = .ok (.aload_n 0, 1) := by decide +kernel
theorem dX6_takesRoad_136 : decode cX6_takesRoad 136 = .ok (.getfield 74, 3) := by decide +kernel
theorem dX6_takesRoad_139 : decode cX6_takesRoad 139 = .ok (.invokevirtual 88, 3) := by decide +kernel
theorem dX6_takesRoad_142 : decode cX6_takesRoad 142 = .ok (.ifCond .eq 7, 3) := by decide +kernel
theorem dX6_takesRoad_145 : decode cX6_takesRoad 145 = .ok (.iconst 1, 1) := by decide +kernel
theorem dX6_takesRoad_146 : decode cX6_takesRoad 146 = .ok (.goto 4, 3) := by decide +kernel
theorem dX6_takesRoad_149 : decode cX6_takesRoad 149 = .ok (.iconst 0, 1) := by decide +kernel
theorem dX6_takesRoad_150 : decode cX6_takesRoad 150 = .ok (.ireturn, 1) := by decide +kernel
theorem dX6_road_0 : decode cX6_road 0 = .ok (.iconst 0, 1) := by decide +kernel
theorem dX6_road_1 : decode cX6_road 1 = .ok (.istore_n 1, 1) := by decide +kernel
theorem dX6_road_2 : decode cX6_road 2 = .ok (.iload_n 1, 1) := by decide +kernel
theorem dX6_road_3 : decode cX6_road 3 = .ok (.bipush 49, 2) := by decide +kernel
theorem dX6_road_5 : decode cX6_road 5 = .ok (.if_icmp .ge 20, 3) := by decide +kernel
theorem dX6_road_8 : decode cX6_road 8 = .ok (.aload_n 0, 1) := by decide +kernel
theorem dX6_road_9 : decode cX6_road 9 = .ok (.getfield 7, 3) := by decide +kernel
theorem dX6_road_12 : decode cX6_road 12 = .ok (.sipush 434, 3) := by decide +kernel
theorem dX6_road_15 : decode cX6_road 15 = .ok (.iload_n 1, 1) := by decide +kernel
theorem dX6_road_16 : decode cX6_road 16 = .ok (.iadd, 1) := by decide +kernel
theorem dX6_road_17 : decode cX6_road 17 = .ok (.iconst 0, 1) := by decide +kernel
theorem dX6_road_18 : decode cX6_road 18 = .ok (.iastore, 1) := by decide +kernel
theorem dX6_road_19 : decode cX6_road 19 = .ok (.iinc 1 1, 3) := by decide +kernel
theorem dX6_road_22 : decode cX6_road 22 = .ok (.goto (-20), 3) := by decide +kernel
theorem dX6_road_25 : decode cX6_road 25 = .ok (.aload_n 0, 1) := by decide +kernel
theorem dX6_road_26 : decode cX6_road 26 = .ok (.getfield 7, 3) := by decide +kernel
theorem dX6_road_29 : decode cX6_road 29 = .ok (.sipush 454, 3) := by decide +kernel
theorem dX6_road_32 : decode cX6_road 32 = .ok (.aload_n 0, 1) := by decide +kernel
theorem dX6_road_33 : decode cX6_road 33 = .ok (.getfield 7, 3) := by decide +kernel
theorem dX6_road_36 : decode cX6_road 36 = .ok (.bipush 20, 2) := by decide +kernel
theorem dX6_road_38 : decode cX6_road 38 = .ok (.iaload, 1) := by decide +kernel
theorem dX6_road_39 : decode cX6_road 39 = .ok (.iastore, 1) := by decide +kernel
theorem dX6_road_40 : decode cX6_road 40 = .ok (.aload_n 0, 1) := by decide +kernel
theorem dX6_road_41 : decode cX6_road 41 = .ok (.getfield 7, 3) := by decide +kernel
theorem dX6_road_44 : decode cX6_road 44 = .ok (.sipush 457, 3) := by decide +kernel
theorem dX6_road_47 : decode cX6_road 47 = .ok (.aload_n 0, 1) := by decide +kernel
theorem dX6_road_48 : decode cX6_road 48 = .ok (.getfield 7, 3) := by decide +kernel
theorem dX6_road_51 : decode cX6_road 51 = .ok (.bipush 23, 2) := by decide +kernel
theorem dX6_road_53 : decode cX6_road 53 = .ok (.iaload, 1) := by decide +kernel
theorem dX6_road_54 : decode cX6_road 54 = .ok (.iastore, 1) := by decide +kernel
theorem dX6_road_55 : decode cX6_road 55 = .ok (.aload_n 0, 1) := by decide +kernel
theorem dX6_road_56 : decode cX6_road 56 = .ok (.iconst 0, 1) := by decide +kernel
theorem dX6_road_57 : decode cX6_road 57 = .ok (.putfield 74, 3) := by decide +kernel
theorem dX6_road_60 : decode cX6_road 60 = .ok (.aload_n 0, 1) := by decide +kernel
theorem dX6_road_61 : decode cX6_road 61 = .ok (.invokevirtual 115, 3) := by decide +kernel
theorem dX6_road_64 : decode cX6_road 64 = .ok (.istore_n 1, 1) := by decide +kernel
theorem dX6_road_65 : decode cX6_road 65 = .ok (.aload_n 0, 1) := by decide +kernel
theorem dX6_road_66 : decode cX6_road 66 = .ok (.iconst 0, 1) := by decide +kernel
theorem dX6_road_67 : decode cX6_road 67 = .ok (.putfield 70, 3) := by decide +kernel
theorem dX6_road_70 : decode cX6_road 70 = .ok (.iload_n 1, 1) := by decide +kernel
theorem dX6_road_71 : decode cX6_road 71 = .ok (.ifCond .ne 11, 3) := by decide +kernel
theorem dX6_road_74 : decode cX6_road 74 = .ok (.bipush (-20), 2) := by decide +kernel
theorem dX6_road_76 : decode cX6_road 76 = .ok (.aload_n 0, 1) := by decide +kernel
theorem dX6_road_77 : decode cX6_road 77 = .ok (.getfield 81, 3) := by decide +kernel
theorem dX6_road_80 : decode cX6_road 80 = .ok (.isub, 1) := by decide +kernel
theorem dX6_road_81 : decode cX6_road 81 = .ok (.ireturn, 1) := by decide +kernel
theorem dX6_road_82 : decode cX6_road 82 = .ok (.aload_n 0, 1) := by decide +kernel
theorem dX6_road_83 : decode cX6_road 83 = .ok (.sipush 434, 3) := by decide +kernel
theorem dX6_road_86 : decode cX6_road 86 = .ok (.iconst 0, 1) := by decide +kernel
theorem dX6_road_87 : decode cX6_road 87 = .ok (.bipush 49, 2) := by decide +kernel
theorem dX6_road_89 : decode cX6_road 89 = .ok (.invokevirtual 118, 3) := by decide +kernel
theorem dX6_road_92 : decode cX6_road 92 = .ok (.aload_n 0, 1) := by decide +kernel
theorem dX6_road_93 : decode cX6_road 93 = .ok (.getfield 7, 3) := by decide +kernel
theorem dX6_road_96 : decode cX6_road 96 = .ok (.bipush 22, 2) := by decide +kernel
theorem dX6_road_98 : decode cX6_road 98 = .ok (.iaload, 1) := by decide +kernel
theorem dX6_road_99 : decode cX6_road 99 = .ok (.ireturn, 1) := by decide +kernel
theorem dX6_nextIn_0 : decode cX6_nextIn 0 = .ok (.bipush (-4), 2) := by decide +kernel
theorem dX6_nextIn_2 : decode cX6_nextIn 2 = .ok (.istore_n 2, 1) := by decide +kernel
theorem dX6_nextIn_3 : decode cX6_nextIn 3 = .ok (.iconst 0, 1) := by decide +kernel
theorem dX6_nextIn_4 : decode cX6_nextIn 4 = .ok (.istore_n 3, 1) := by decide +kernel
theorem dX6_nextIn_5 : decode cX6_nextIn 5 = .ok (.iload_n 3, 1) := by decide +kernel
theorem dX6_nextIn_6 : decode cX6_nextIn 6 = .ok (.aload_n 0, 1) := by decide +kernel
theorem dX6_nextIn_7 : decode cX6_nextIn 7 = .ok (.getfield 7, 3) := by decide +kernel
theorem dX6_nextIn_10 : decode cX6_nextIn 10 = .ok (.iload_n 1, 1) := by decide +kernel
theorem dX6_nextIn_11 : decode cX6_nextIn 11 = .ok (.bipush 22, 2) := by decide +kernel
theorem dX6_nextIn_13 : decode cX6_nextIn 13 = .ok (.iadd, 1) := by decide +kernel
theorem dX6_nextIn_14 : decode cX6_nextIn 14 = .ok (.iaload, 1) := by decide +kernel
theorem dX6_nextIn_15 : decode cX6_nextIn 15 = .ok (.if_icmp .ge 67, 3) := by decide +kernel
theorem dX6_nextIn_18 : decode cX6_nextIn 18 = .ok (.aload_n 0, 1) := by decide +kernel
theorem dX6_nextIn_19 : decode cX6_nextIn 19 = .ok (.iload_n 1, 1) := by decide +kernel
theorem dX6_nextIn_20 : decode cX6_nextIn 20 = .ok (.iload_n 3, 1) := by decide +kernel
theorem dX6_nextIn_21 : decode cX6_nextIn 21 = .ok (.invokevirtual 54, 3) := by decide +kernel
theorem dX6_nextIn_24 : decode cX6_nextIn 24 = .ok (.ifCond .ne 38, 3) := by decide +kernel
theorem dX6_nextIn_27 : decode cX6_nextIn 27 = .ok (.iload_n 2, 1) := by decide +kernel
theorem dX6_nextIn_28 : decode cX6_nextIn 28 = .ok (.bipush (-4), 2) := by decide +kernel
theorem dX6_nextIn_30 : decode cX6_nextIn 30 = .ok (.if_icmp .eq 28, 3) := by decide +kernel
theorem dX6_nextIn_33 : decode cX6_nextIn 33 = .ok (.aload_n 0, 1) := by decide +kernel
theorem dX6_nextIn_34 : decode cX6_nextIn 34 = .ok (.getfield 7, 3) := by decide +kernel
theorem dX6_nextIn_37 : decode cX6_nextIn 37 = .ok (.iload_n 1, 1) := by decide +kernel
theorem dX6_nextIn_38 : decode cX6_nextIn 38 = .ok (.bipush 12, 2) := by decide +kernel
theorem dX6_nextIn_40 : decode cX6_nextIn 40 = .ok (.iadd, 1) := by decide +kernel
theorem dX6_nextIn_41 : decode cX6_nextIn 41 = .ok (.iload_n 3, 1) := by decide +kernel
theorem dX6_nextIn_42 : decode cX6_nextIn 42 = .ok (.iadd, 1) := by decide +kernel
theorem dX6_nextIn_43 : decode cX6_nextIn 43 = .ok (.iaload, 1) := by decide +kernel
theorem dX6_nextIn_44 : decode cX6_nextIn 44 = .ok (.aload_n 0, 1) := by decide +kernel
theorem dX6_nextIn_45 : decode cX6_nextIn 45 = .ok (.getfield 7, 3) := by decide +kernel
theorem dX6_nextIn_48 : decode cX6_nextIn 48 = .ok (.iload_n 1, 1) := by decide +kernel
theorem dX6_nextIn_49 : decode cX6_nextIn 49 = .ok (.bipush 12, 2) := by decide +kernel
theorem dX6_nextIn_51 : decode cX6_nextIn 51 = .ok (.iadd, 1) := by decide +kernel
theorem dX6_nextIn_52 : decode cX6_nextIn 52 = .ok (.iload_n 2, 1) := by decide +kernel
theorem dX6_nextIn_53 : decode cX6_nextIn 53 = .ok (.iadd, 1) := by decide +kernel
theorem dX6_nextIn_54 : decode cX6_nextIn 54 = .ok (.iaload, 1) := by decide +kernel
theorem dX6_nextIn_55 : decode cX6_nextIn 55 = .ok (.if_icmp .ge 7, 3) := by decide +kernel
theorem dX6_nextIn_58 : decode cX6_nextIn 58 = .ok (.iconst 1, 1) := by decide +kernel
theorem dX6_nextIn_59 : decode cX6_nextIn 59 = .ok (.goto 4, 3) := by decide +kernel
theorem dX6_nextIn_62 : decode cX6_nextIn 62 = .ok (.iconst 0, 1) := by decide +kernel
theorem dX6_nextIn_63 : decode cX6_nextIn 63 = .ok (.istore 4, 2) := by decide +kernel
theorem dX6_nextIn_65 : decode cX6_nextIn 65 = .ok (.iload 4, 2) := by decide +kernel
theorem dX6_nextIn_67 : decode cX6_nextIn 67 = .ok (.ifCond .eq 7, 3) := by decide +kernel
theorem dX6_nextIn_70 : decode cX6_nextIn 70 = .ok (.iload_n 3, 1) := by decide +kernel
theorem dX6_nextIn_71 : decode cX6_nextIn 71 = .ok (.goto 4, 3) := by decide +kernel
theorem dX6_nextIn_74 : decode cX6_nextIn 74 = .ok (.iload_n 2, 1) := by decide +kernel
theorem dX6_nextIn_75 : decode cX6_nextIn 75 = .ok (.istore_n 2, 1) := by decide +kernel
theorem dX6_nextIn_76 : decode cX6_nextIn 76 = .ok (.iinc 3 1, 3) := by decide +kernel
theorem dX6_nextIn_79 : decode cX6_nextIn 79 = .ok (.goto (-74), 3) := by decide +kernel
theorem dX6_nextIn_82 : decode cX6_nextIn 82 = .ok (.iload_n 2, 1) := by decide +kernel
theorem dX6_nextIn_83 : decode cX6_nextIn 83 = .ok (.ireturn, 1) := by decide +kernel
theorem dX6_rides_0 : decode cX6_rides 0 = .ok (.aload_n 0, 1) := by decide +kernel
theorem dX6_rides_1 : decode cX6_rides 1 = .ok (.getfield 7, 3) := by decide +kernel
theorem dX6_rides_4 : decode cX6_rides 4 = .ok (.iload_n 1, 1) := by decide +kernel
theorem dX6_rides_5 : decode cX6_rides 5 = .ok (.bipush 8, 2) := by decide +kernel
theorem dX6_rides_7 : decode cX6_rides 7 = .ok (.iadd, 1) := by decide +kernel
theorem dX6_rides_8 : decode cX6_rides 8 = .ok (.iload_n 2, 1) := by decide +kernel
theorem dX6_rides_9 : decode cX6_rides 9 = .ok (.iadd, 1) := by decide +kernel
theorem dX6_rides_10 : decode cX6_rides 10 = .ok (.iaload, 1) := by decide +kernel
theorem dX6_rides_11 : decode cX6_rides 11 = .ok (.istore_n 3, 1) := by decide +kernel
theorem dX6_rides_12 : decode cX6_rides 12 = .ok (.aload_n 0, 1) := by decide +kernel
theorem dX6_rides_13 : decode cX6_rides 13 = .ok (.getfield 7, 3) := by decide +kernel
theorem dX6_rides_16 : decode cX6_rides 16 = .ok (.iload_n 1, 1) := by decide +kernel
theorem dX6_rides_17 : decode cX6_rides 17 = .ok (.bipush 44, 2) := by decide +kernel
theorem dX6_rides_19 : decode cX6_rides 19 = .ok (.iadd, 1) := by decide +kernel
theorem dX6_rides_20 : decode cX6_rides 20 = .ok (.iload_n 2, 1) := by decide +kernel
theorem dX6_rides_21 : decode cX6_rides 21 = .ok (.iadd, 1) := by decide +kernel
theorem dX6_rides_22 : decode cX6_rides 22 = .ok (.iaload, 1) := by decide +kernel
theorem dX6_rides_23 : decode cX6_rides 23 = .ok (.iload_n 3, 1) := by decide +kernel
theorem dX6_rides_24 : decode cX6_rides 24 = .ok (.invokestatic 122, 3) := by decide +kernel
theorem dX6_rides_27 : decode cX6_rides 27 = .ok (.ifCond .eq 43, 3) := by decide +kernel
theorem dX6_rides_30 : decode cX6_rides 30 = .ok (.aload_n 0, 1) := by decide +kernel
theorem dX6_rides_31 : decode cX6_rides 31 = .ok (.getfield 7, 3) := by decide +kernel
theorem dX6_rides_34 : decode cX6_rides 34 = .ok (.iload_n 1, 1) := by decide +kernel
theorem dX6_rides_35 : decode cX6_rides 35 = .ok (.iconst 0, 1) := by decide +kernel
theorem dX6_rides_36 : decode cX6_rides 36 = .ok (.iadd, 1) := by decide +kernel
theorem dX6_rides_37 : decode cX6_rides 37 = .ok (.iload_n 3, 1) := by decide +kernel
theorem dX6_rides_38 : decode cX6_rides 38 = .ok (.iadd, 1) := by decide +kernel
theorem dX6_rides_39 : decode cX6_rides 39 = .ok (.iaload, 1) := by decide +kernel
theorem dX6_rides_40 : decode cX6_rides 40 = .ok (.ifCond .le 30, 3) := by decide +kernel
theorem dX6_rides_43 : decode cX6_rides 43 = .ok (.aload_n 0, 1) := by decide +kernel
theorem dX6_rides_44 : decode cX6_rides 44 = .ok (.getfield 7, 3) := by decide +kernel
theorem dX6_rides_47 : decode cX6_rides 47 = .ok (.iload_n 1, 1) := by decide +kernel
theorem dX6_rides_48 : decode cX6_rides 48 = .ok (.bipush 16, 2) := by decide +kernel
theorem dX6_rides_50 : decode cX6_rides 50 = .ok (.iadd, 1) := by decide +kernel
theorem dX6_rides_51 : decode cX6_rides 51 = .ok (.iload_n 2, 1) := by decide +kernel
theorem dX6_rides_52 : decode cX6_rides 52 = .ok (.iadd, 1) := by decide +kernel
theorem dX6_rides_53 : decode cX6_rides 53 = .ok (.iaload, 1) := by decide +kernel
theorem dX6_rides_54 : decode cX6_rides 54 = .ok (.aload_n 0, 1) := by decide +kernel
theorem dX6_rides_55 : decode cX6_rides 55 = .ok (.getfield 7, 3) := by decide +kernel
theorem dX6_rides_58 : decode cX6_rides 58 = .ok (.iload_n 1, 1) := by decide +kernel
theorem dX6_rides_59 : decode cX6_rides 59 = .ok (.bipush 23, 2) := by decide +kernel
theorem dX6_rides_61 : decode cX6_rides 61 = .ok (.iadd, 1) := by decide +kernel
theorem dX6_rides_62 : decode cX6_rides 62 = .ok (.iaload, 1) := by decide +kernel
theorem dX6_rides_63 : decode cX6_rides 63 = .ok (.if_icmp .lt 7, 3) := by decide +kernel
theorem dX6_rides_66 : decode cX6_rides 66 = .ok (.iconst 1, 1) := by decide +kernel
theorem dX6_rides_67 : decode cX6_rides 67 = .ok (.goto 4, 3) := by decide +kernel
theorem dX6_rides_70 : decode cX6_rides 70 = .ok (.iconst 0, 1) := by decide +kernel
theorem dX6_rides_71 : decode cX6_rides 71 = .ok (.istore 4, 2) := by decide +kernel
theorem dX6_rides_73 : decode cX6_rides 73 = .ok (.aload_n 0, 1) := by decide +kernel
theorem dX6_rides_74 : decode cX6_rides 74 = .ok (.getfield 7, 3) := by decide +kernel
theorem dX6_rides_77 : decode cX6_rides 77 = .ok (.iload_n 1, 1) := by decide +kernel
theorem dX6_rides_78 : decode cX6_rides 78 = .ok (.bipush 16, 2) := by decide +kernel
theorem dX6_rides_80 : decode cX6_rides 80 = .ok (.iadd, 1) := by decide +kernel
theorem dX6_rides_81 : decode cX6_rides 81 = .ok (.iload_n 2, 1) := by decide +kernel
theorem dX6_rides_82 : decode cX6_rides 82 = .ok (.iadd, 1) := by decide +kernel
theorem dX6_rides_83 : decode cX6_rides 83 = .ok (.dup2, 1) := by decide +kernel
theorem dX6_rides_84 : decode cX6_rides 84 = .ok (.iaload, 1) := by decide +kernel
theorem dX6_rides_85 : decode cX6_rides 85 = .ok (.iload 4, 2) := by decide +kernel
theorem dX6_rides_87 : decode cX6_rides 87 = .ok (.ifCond .eq 15, 3) := by decide +kernel
theorem dX6_rides_90 : decode cX6_rides 90 = .ok (.aload_n 0, 1) := by decide +kernel
theorem dX6_rides_91 : decode cX6_rides 91 = .ok (.getfield 7, 3) := by decide +kernel
theorem dX6_rides_94 : decode cX6_rides 94 = .ok (.iload_n 1, 1) := by decide +kernel
theorem dX6_rides_95 : decode cX6_rides 95 = .ok (.bipush 23, 2) := by decide +kernel
theorem dX6_rides_97 : decode cX6_rides 97 = .ok (.iadd, 1) := by decide +kernel
theorem dX6_rides_98 : decode cX6_rides 98 = .ok (.iaload, 1) := by decide +kernel
theorem dX6_rides_99 : decode cX6_rides 99 = .ok (.goto 4, 3) := by decide +kernel
theorem dX6_rides_102 : decode cX6_rides 102 = .ok (.iconst 0, 1) := by decide +kernel
theorem dX6_rides_103 : decode cX6_rides 103 = .ok (.isub, 1) := by decide +kernel
theorem dX6_rides_104 : decode cX6_rides 104 = .ok (.iastore, 1) := by decide +kernel
theorem dX6_rides_105 : decode cX6_rides 105 = .ok (.aload_n 0, 1) := by decide +kernel
theorem dX6_rides_106 : decode cX6_rides 106 = .ok (.getfield 7, 3) := by decide +kernel
theorem dX6_rides_109 : decode cX6_rides 109 = .ok (.iload_n 1, 1) := by decide +kernel
theorem dX6_rides_110 : decode cX6_rides 110 = .ok (.iconst 0, 1) := by decide +kernel
theorem dX6_rides_111 : decode cX6_rides 111 = .ok (.iadd, 1) := by decide +kernel
theorem dX6_rides_112 : decode cX6_rides 112 = .ok (.iload_n 3, 1) := by decide +kernel
theorem dX6_rides_113 : decode cX6_rides 113 = .ok (.iadd, 1) := by decide +kernel
theorem dX6_rides_114 : decode cX6_rides 114 = .ok (.dup2, 1) := by decide +kernel
theorem dX6_rides_115 : decode cX6_rides 115 = .ok (.iaload, 1) := by decide +kernel
theorem dX6_rides_116 : decode cX6_rides 116 = .ok (.iload 4, 2) := by decide +kernel
theorem dX6_rides_118 : decode cX6_rides 118 = .ok (.ifCond .eq 7, 3) := by decide +kernel
theorem dX6_rides_121 : decode cX6_rides 121 = .ok (.iconst 1, 1) := by decide +kernel
theorem dX6_rides_122 : decode cX6_rides 122 = .ok (.goto 4, 3) := by decide +kernel
theorem dX6_rides_125 : decode cX6_rides 125 = .ok (.iconst 0, 1) := by decide +kernel
theorem dX6_rides_126 : decode cX6_rides 126 = .ok (.isub, 1) := by decide +kernel
theorem dX6_rides_127 : decode cX6_rides 127 = .ok (.iastore, 1) := by decide +kernel
theorem dX6_rides_128 : decode cX6_rides 128 = .ok (.aload_n 0, 1) := by decide +kernel
theorem dX6_rides_129 : decode cX6_rides 129 = .ok (.getfield 7, 3) := by decide +kernel
theorem dX6_rides_132 : decode cX6_rides 132 = .ok (.iload_n 1, 1) := by decide +kernel
theorem dX6_rides_133 : decode cX6_rides 133 = .ok (.bipush 16, 2) := by decide +kernel
theorem dX6_rides_135 : decode cX6_rides 135 = .ok (.iadd, 1) := by decide +kernel
theorem dX6_rides_136 : decode cX6_rides 136 = .ok (.iload_n 2, 1) := by decide +kernel
theorem dX6_rides_137 : decode cX6_rides 137 = .ok (.iadd, 1) := by decide +kernel
theorem dX6_rides_138 : decode cX6_rides 138 = .ok (.iaload, 1) := by decide +kernel
theorem dX6_rides_139 : decode cX6_rides 139 = .ok (.aload_n 0, 1) := by decide +kernel
theorem dX6_rides_140 : decode cX6_rides 140 = .ok (.getfield 7, 3) := by decide +kernel
theorem dX6_rides_143 : decode cX6_rides 143 = .ok (.iload_n 1, 1) := by decide +kernel
theorem dX6_rides_144 : decode cX6_rides 144 = .ok (.bipush 32, 2) := by decide +kernel
theorem dX6_rides_146 : decode cX6_rides 146 = .ok (.iadd, 1) := by decide +kernel
theorem dX6_rides_147 : decode cX6_rides 147 = .ok (.iload_n 3, 1) := by decide +kernel
theorem dX6_rides_148 : decode cX6_rides 148 = .ok (.iadd, 1) := by decide +kernel
theorem dX6_rides_149 : decode cX6_rides 149 = .ok (.iaload, 1) := by decide +kernel
theorem dX6_rides_150 : decode cX6_rides 150 = .ok (.if_icmp .lt 7, 3) := by decide +kernel
theorem dX6_rides_153 : decode cX6_rides 153 = .ok (.iconst 1, 1) := by decide +kernel
theorem dX6_rides_154 : decode cX6_rides 154 = .ok (.goto 4, 3) := by decide +kernel
theorem dX6_rides_157 : decode cX6_rides 157 = .ok (.iconst 0, 1) := by decide +kernel
theorem dX6_rides_158 : decode cX6_rides 158 = .ok (.istore 5, 2) := by decide +kernel
theorem dX6_rides_160 : decode cX6_rides 160 = .ok (.aload_n 0, 1) := by decide +kernel
theorem dX6_rides_161 : decode cX6_rides 161 = .ok (.getfield 7, 3) := by decide +kernel
theorem dX6_rides_164 : decode cX6_rides 164 = .ok (.iload_n 1, 1) := by decide +kernel
theorem dX6_rides_165 : decode cX6_rides 165 = .ok (.bipush 16, 2) := by decide +kernel
theorem dX6_rides_167 : decode cX6_rides 167 = .ok (.iadd, 1) := by decide +kernel
theorem dX6_rides_168 : decode cX6_rides 168 = .ok (.iload_n 2, 1) := by decide +kernel
theorem dX6_rides_169 : decode cX6_rides 169 = .ok (.iadd, 1) := by decide +kernel
theorem dX6_rides_170 : decode cX6_rides 170 = .ok (.dup2, 1) := by decide +kernel
theorem dX6_rides_171 : decode cX6_rides 171 = .ok (.iaload, 1) := by decide +kernel
theorem dX6_rides_172 : decode cX6_rides 172 = .ok (.iload 5, 2) := by decide +kernel
theorem dX6_rides_174 : decode cX6_rides 174 = .ok (.ifCond .eq 17, 3) := by decide +kernel
theorem dX6_rides_177 : decode cX6_rides 177 = .ok (.aload_n 0, 1) := by decide +kernel
theorem dX6_rides_178 : decode cX6_rides 178 = .ok (.getfield 7, 3) := by decide +kernel
theorem dX6_rides_181 : decode cX6_rides 181 = .ok (.iload_n 1, 1) := by decide +kernel
theorem dX6_rides_182 : decode cX6_rides 182 = .ok (.bipush 32, 2) := by decide +kernel
theorem dX6_rides_184 : decode cX6_rides 184 = .ok (.iadd, 1) := by decide +kernel
theorem dX6_rides_185 : decode cX6_rides 185 = .ok (.iload_n 3, 1) := by decide +kernel
theorem dX6_rides_186 : decode cX6_rides 186 = .ok (.iadd, 1) := by decide +kernel
theorem dX6_rides_187 : decode cX6_rides 187 = .ok (.iaload, 1) := by decide +kernel
theorem dX6_rides_188 : decode cX6_rides 188 = .ok (.goto 4, 3) := by decide +kernel
theorem dX6_rides_191 : decode cX6_rides 191 = .ok (.iconst 0, 1) := by decide +kernel
theorem dX6_rides_192 : decode cX6_rides 192 = .ok (.isub, 1) := by decide +kernel
theorem dX6_rides_193 : decode cX6_rides 193 = .ok (.iastore, 1) := by decide +kernel
theorem dX6_rides_194 : decode cX6_rides 194 = .ok (.aload_n 0, 1) := by decide +kernel
theorem dX6_rides_195 : decode cX6_rides 195 = .ok (.getfield 7, 3) := by decide +kernel
theorem dX6_rides_198 : decode cX6_rides 198 = .ok (.iload_n 1, 1) := by decide +kernel
theorem dX6_rides_199 : decode cX6_rides 199 = .ok (.bipush 12, 2) := by decide +kernel
theorem dX6_rides_201 : decode cX6_rides 201 = .ok (.iadd, 1) := by decide +kernel
theorem dX6_rides_202 : decode cX6_rides 202 = .ok (.iload_n 2, 1) := by decide +kernel
theorem dX6_rides_203 : decode cX6_rides 203 = .ok (.iadd, 1) := by decide +kernel
theorem dX6_rides_204 : decode cX6_rides 204 = .ok (.dup2, 1) := by decide +kernel
theorem dX6_rides_205 : decode cX6_rides 205 = .ok (.iaload, 1) := by decide +kernel
theorem dX6_rides_206 : decode cX6_rides 206 = .ok (.iload 5, 2) := by decide +kernel
theorem dX6_rides_208 : decode cX6_rides 208 = .ok (.ifCond .eq 7, 3) := by decide +kernel
theorem dX6_rides_211 : decode cX6_rides 211 = .ok (.iconst 0, 1) := by decide +kernel
theorem dX6_rides_212 : decode cX6_rides 212 = .ok (.goto 5, 3) := by decide +kernel
theorem dX6_rides_215 : decode cX6_rides 215 = .ok (.bipush 10, 2) := by decide +kernel
theorem dX6_rides_217 : decode cX6_rides 217 = .ok (.aload_n 0, 1) := by decide +kernel
theorem dX6_rides_218 : decode cX6_rides 218 = .ok (.getfield 7, 3) := by decide +kernel
theorem dX6_rides_221 : decode cX6_rides 221 = .ok (.iload_n 1, 1) := by decide +kernel
theorem dX6_rides_222 : decode cX6_rides 222 = .ok (.bipush 40, 2) := by decide +kernel
theorem dX6_rides_224 : decode cX6_rides 224 = .ok (.iadd, 1) := by decide +kernel
theorem dX6_rides_225 : decode cX6_rides 225 = .ok (.iload_n 2, 1) := by decide +kernel
theorem dX6_rides_226 : decode cX6_rides 226 = .ok (.iadd, 1) := by decide +kernel
theorem dX6_rides_227 : decode cX6_rides 227 = .ok (.iaload, 1) := by decide +kernel
theorem dX6_rides_228 : decode cX6_rides 228 = .ok (.aload_n 0, 1) := by decide +kernel
theorem dX6_rides_229 : decode cX6_rides 229 = .ok (.getfield 7, 3) := by decide +kernel
theorem dX6_rides_232 : decode cX6_rides 232 = .ok (.iload_n 1, 1) := by decide +kernel
theorem dX6_rides_233 : decode cX6_rides 233 = .ok (.bipush 24, 2) := by decide +kernel
theorem dX6_rides_235 : decode cX6_rides 235 = .ok (.iadd, 1) := by decide +kernel
theorem dX6_rides_236 : decode cX6_rides 236 = .ok (.iload_n 3, 1) := by decide +kernel
theorem dX6_rides_237 : decode cX6_rides 237 = .ok (.iadd, 1) := by decide +kernel
theorem dX6_rides_238 : decode cX6_rides 238 = .ok (.iaload, 1) := by decide +kernel
theorem dX6_rides_239 : decode cX6_rides 239 = .ok (.iload 4, 2) := by decide +kernel
theorem dX6_rides_241 : decode cX6_rides 241 = .ok (.invokestatic 58, 3) := by decide +kernel
theorem dX6_rides_244 : decode cX6_rides 244 = .ok (.iadd, 1) := by decide +kernel
theorem dX6_rides_245 : decode cX6_rides 245 = .ok (.iadd, 1) := by decide +kernel
theorem dX6_rides_246 : decode cX6_rides 246 = .ok (.iastore, 1) := by decide +kernel
theorem dX6_rides_247 : decode cX6_rides 247 = .ok (.aload_n 0, 1) := by decide +kernel
theorem dX6_rides_248 : decode cX6_rides 248 = .ok (.getfield 7, 3) := by decide +kernel
theorem dX6_rides_251 : decode cX6_rides 251 = .ok (.iload_n 1, 1) := by decide +kernel
theorem dX6_rides_252 : decode cX6_rides 252 = .ok (.bipush 8, 2) := by decide +kernel
theorem dX6_rides_254 : decode cX6_rides 254 = .ok (.iadd, 1) := by decide +kernel
theorem dX6_rides_255 : decode cX6_rides 255 = .ok (.iload_n 2, 1) := by decide +kernel
theorem dX6_rides_256 : decode cX6_rides 256 = .ok (.iadd, 1) := by decide +kernel
theorem dX6_rides_257 : decode cX6_rides 257 = .ok (.dup2, 1) := by decide +kernel
theorem dX6_rides_258 : decode cX6_rides 258 = .ok (.iaload, 1) := by decide +kernel
theorem dX6_rides_259 : decode cX6_rides 259 = .ok (.iconst 1, 1) := by decide +kernel
theorem dX6_rides_260 : decode cX6_rides 260 = .ok (.iadd, 1) := by decide +kernel
theorem dX6_rides_261 : decode cX6_rides 261 = .ok (.iastore, 1) := by decide +kernel
theorem dX6_rides_262 : decode cX6_rides 262 = .ok (.return_, 1) := by decide +kernel
theorem dX6_thereIn_0 : decode cX6_thereIn 0 = .ok (.iconst 0, 1) := by decide +kernel
theorem dX6_thereIn_1 : decode cX6_thereIn 1 = .ok (.istore_n 2, 1) := by decide +kernel
theorem dX6_thereIn_2 : decode cX6_thereIn 2 = .ok (.iconst 0, 1) := by decide +kernel
theorem dX6_thereIn_3 : decode cX6_thereIn 3 = .ok (.istore_n 3, 1) := by decide +kernel
theorem dX6_thereIn_4 : decode cX6_thereIn 4 = .ok (.iload_n 3, 1) := by decide +kernel
theorem dX6_thereIn_5 : decode cX6_thereIn 5 = .ok (.aload_n 0, 1) := by decide +kernel
theorem dX6_thereIn_6 : decode cX6_thereIn 6 = .ok (.getfield 7, 3) := by decide +kernel
theorem dX6_thereIn_9 : decode cX6_thereIn 9 = .ok (.iload_n 1, 1) := by decide +kernel
theorem dX6_thereIn_10 : decode cX6_thereIn 10 = .ok (.bipush 22, 2) := by decide +kernel
theorem dX6_thereIn_12 : decode cX6_thereIn 12 = .ok (.iadd, 1) := by decide +kernel
theorem dX6_thereIn_13 : decode cX6_thereIn 13 = .ok (.iaload, 1) := by decide +kernel
theorem dX6_thereIn_14 : decode cX6_thereIn 14 = .ok (.if_icmp .ge 28, 3) := by decide +kernel
theorem dX6_thereIn_17 : decode cX6_thereIn 17 = .ok (.iload_n 2, 1) := by decide +kernel
theorem dX6_thereIn_18 : decode cX6_thereIn 18 = .ok (.aload_n 0, 1) := by decide +kernel
theorem dX6_thereIn_19 : decode cX6_thereIn 19 = .ok (.iload_n 1, 1) := by decide +kernel
theorem dX6_thereIn_20 : decode cX6_thereIn 20 = .ok (.iload_n 3, 1) := by decide +kernel
theorem dX6_thereIn_21 : decode cX6_thereIn 21 = .ok (.invokevirtual 54, 3) := by decide +kernel
theorem dX6_thereIn_24 : decode cX6_thereIn 24 = .ok (.ifCond .eq 9, 3) := by decide +kernel
theorem dX6_thereIn_27 : decode cX6_thereIn 27 = .ok (.iconst 1, 1) := by decide +kernel
theorem dX6_thereIn_28 : decode cX6_thereIn 28 = .ok (.iload_n 3, 1) := by decide +kernel
theorem dX6_thereIn_29 : decode cX6_thereIn 29 = .ok (.ishl, 1) := by decide +kernel
theorem dX6_thereIn_30 : decode cX6_thereIn 30 = .ok (.goto 4, 3) := by decide +kernel
theorem dX6_thereIn_33 : decode cX6_thereIn 33 = .ok (.iconst 0, 1) := by decide +kernel
theorem dX6_thereIn_34 : decode cX6_thereIn 34 = .ok (.ior, 1) := by decide +kernel
theorem dX6_thereIn_35 : decode cX6_thereIn 35 = .ok (.istore_n 2, 1) := by decide +kernel
theorem dX6_thereIn_36 : decode cX6_thereIn 36 = .ok (.iinc 3 1, 3) := by decide +kernel
theorem dX6_thereIn_39 : decode cX6_thereIn 39 = .ok (.goto (-35), 3) := by decide +kernel
theorem dX6_thereIn_42 : decode cX6_thereIn 42 = .ok (.iload_n 2, 1) := by decide +kernel
theorem dX6_thereIn_43 : decode cX6_thereIn 43 = .ok (.ireturn, 1) := by decide +kernel
theorem dX6_coinsOfAll_0 : decode cX6_coinsOfAll 0 = .ok (.iconst 0, 1) := by decide +kernel
theorem dX6_coinsOfAll_1 : decode cX6_coinsOfAll 1 = .ok (.istore_n 1, 1) := by decide +kernel
theorem dX6_coinsOfAll_2 : decode cX6_coinsOfAll 2 = .ok (.iconst 0, 1) := by decide +kernel
theorem dX6_coinsOfAll_3 : decode cX6_coinsOfAll 3 = .ok (.istore_n 2, 1) := by decide +kernel
theorem dX6_coinsOfAll_4 : decode cX6_coinsOfAll 4 = .ok (.iload_n 2, 1) := by decide +kernel
theorem dX6_coinsOfAll_5 : decode cX6_coinsOfAll 5 = .ok (.aload_n 0, 1) := by decide +kernel
theorem dX6_coinsOfAll_6 : decode cX6_coinsOfAll 6 = .ok (.getfield 7, 3) := by decide +kernel
theorem dX6_coinsOfAll_9 : decode cX6_coinsOfAll 9 = .ok (.bipush 22, 2) := by decide +kernel
theorem dX6_coinsOfAll_11 : decode cX6_coinsOfAll 11 = .ok (.iaload, 1) := by decide +kernel
theorem dX6_coinsOfAll_12 : decode cX6_coinsOfAll 12 = .ok (.if_icmp .ge 21, 3) := by decide +kernel
theorem dX6_coinsOfAll_15 : decode cX6_coinsOfAll 15 = .ok (.iload_n 1, 1) := by decide +kernel
theorem dX6_coinsOfAll_16 : decode cX6_coinsOfAll 16 = .ok (.aload_n 0, 1) := by decide +kernel
theorem dX6_coinsOfAll_17 : decode cX6_coinsOfAll 17 = .ok (.getfield 7, 3) := by decide +kernel
theorem dX6_coinsOfAll_20 : decode cX6_coinsOfAll 20 = .ok (.bipush 16, 2) := by decide +kernel
theorem dX6_coinsOfAll_22 : decode cX6_coinsOfAll 22 = .ok (.iload_n 2, 1) := by decide +kernel
theorem dX6_coinsOfAll_23 : decode cX6_coinsOfAll 23 = .ok (.iadd, 1) := by decide +kernel
theorem dX6_coinsOfAll_24 : decode cX6_coinsOfAll 24 = .ok (.iaload, 1) := by decide +kernel
theorem dX6_coinsOfAll_25 : decode cX6_coinsOfAll 25 = .ok (.iadd, 1) := by decide +kernel
theorem dX6_coinsOfAll_26 : decode cX6_coinsOfAll 26 = .ok (.istore_n 1, 1) := by decide +kernel
theorem dX6_coinsOfAll_27 : decode cX6_coinsOfAll 27 = .ok (.iinc 2 1, 3) := by decide +kernel
theorem dX6_coinsOfAll_30 : decode cX6_coinsOfAll 30 = .ok (.goto (-26), 3) := by decide +kernel
theorem dX6_coinsOfAll_33 : decode cX6_coinsOfAll 33 = .ok (.iload_n 1, 1) := by decide +kernel
theorem dX6_coinsOfAll_34 : decode cX6_coinsOfAll 34 = .ok (.ireturn, 1) := by decide +kernel
theorem dX6_horsesOfAll_0 : decode cX6_horsesOfAll 0 = .ok (.iconst 0, 1) := by decide +kernel
theorem dX6_horsesOfAll_1 : decode cX6_horsesOfAll 1 = .ok (.istore_n 1, 1) := by decide +kernel
theorem dX6_horsesOfAll_2 : decode cX6_horsesOfAll 2 = .ok (.iconst 0, 1) := by decide +kernel
theorem dX6_horsesOfAll_3 : decode cX6_horsesOfAll 3 = .ok (.istore_n 2, 1) := by decide +kernel
theorem dX6_horsesOfAll_4 : decode cX6_horsesOfAll 4 = .ok (.iload_n 2, 1) := by decide +kernel
theorem dX6_horsesOfAll_5 : decode cX6_horsesOfAll 5 = .ok (.aload_n 0, 1) := by decide +kernel
theorem dX6_horsesOfAll_6 : decode cX6_horsesOfAll 6 = .ok (.getfield 7, 3) := by decide +kernel
theorem dX6_horsesOfAll_9 : decode cX6_horsesOfAll 9 = .ok (.bipush 21, 2) := by decide +kernel
theorem dX6_horsesOfAll_11 : decode cX6_horsesOfAll 11 = .ok (.iaload, 1) := by decide +kernel
theorem dX6_horsesOfAll_12 : decode cX6_horsesOfAll 12 = .ok (.if_icmp .ge 20, 3) := by decide +kernel
theorem dX6_horsesOfAll_15 : decode cX6_horsesOfAll 15 = .ok (.iload_n 1, 1) := by decide +kernel
theorem dX6_horsesOfAll_16 : decode cX6_horsesOfAll 16 = .ok (.aload_n 0, 1) := by decide +kernel
theorem dX6_horsesOfAll_17 : decode cX6_horsesOfAll 17 = .ok (.getfield 7, 3) := by decide +kernel
theorem dX6_horsesOfAll_20 : decode cX6_horsesOfAll 20 = .ok (.iconst 0, 1) := by decide +kernel
theorem dX6_horsesOfAll_21 : decode cX6_horsesOfAll 21 = .ok (.iload_n 2, 1) := by decide +kernel
theorem dX6_horsesOfAll_22 : decode cX6_horsesOfAll 22 = .ok (.iadd, 1) := by decide +kernel
theorem dX6_horsesOfAll_23 : decode cX6_horsesOfAll 23 = .ok (.iaload, 1) := by decide +kernel
theorem dX6_horsesOfAll_24 : decode cX6_horsesOfAll 24 = .ok (.iadd, 1) := by decide +kernel
theorem dX6_horsesOfAll_25 : decode cX6_horsesOfAll 25 = .ok (.istore_n 1, 1) := by decide +kernel
theorem dX6_horsesOfAll_26 : decode cX6_horsesOfAll 26 = .ok (.iinc 2 1, 3) := by decide +kernel
theorem dX6_horsesOfAll_29 : decode cX6_horsesOfAll 29 = .ok (.goto (-25), 3) := by decide +kernel
theorem dX6_horsesOfAll_32 : decode cX6_horsesOfAll 32 = .ok (.iload_n 1, 1) := by decide +kernel
theorem dX6_horsesOfAll_33 : decode cX6_horsesOfAll 33 = .ok (.ireturn, 1) := by decide +kernel
theorem dX6_count_0 : decode cX6_count 0 = .ok (.iload_n 1, 1) := by decide +kernel
theorem dX6_count_1 : decode cX6_count 1 = .ok (.tableswitch 101 0 7 #[47, 55, 63, 71, 77, 83, 88, 93], 47) := by decide +kernel
theorem dX6_count_48 : decode cX6_count 48 = .ok (.aload_n 0, 1) := by decide +kernel
theorem dX6_count_49 : decode cX6_count 49 = .ok (.getfield 7, 3) := by decide +kernel
theorem dX6_count_52 : decode cX6_count 52 = .ok (.bipush 21, 2) := by decide +kernel
theorem dX6_count_54 : decode cX6_count 54 = .ok (.iaload, 1) := by decide +kernel
theorem dX6_count_55 : decode cX6_count 55 = .ok (.ireturn, 1) := by decide +kernel
theorem dX6_count_56 : decode cX6_count 56 = .ok (.aload_n 0, 1) := by decide +kernel
theorem dX6_count_57 : decode cX6_count 57 = .ok (.getfield 7, 3) := by decide +kernel
theorem dX6_count_60 : decode cX6_count 60 = .ok (.bipush 22, 2) := by decide +kernel
theorem dX6_count_62 : decode cX6_count 62 = .ok (.iaload, 1) := by decide +kernel
theorem dX6_count_63 : decode cX6_count 63 = .ok (.ireturn, 1) := by decide +kernel
theorem dX6_count_64 : decode cX6_count 64 = .ok (.aload_n 0, 1) := by decide +kernel
theorem dX6_count_65 : decode cX6_count 65 = .ok (.getfield 7, 3) := by decide +kernel
theorem dX6_count_68 : decode cX6_count 68 = .ok (.bipush 23, 2) := by decide +kernel
theorem dX6_count_70 : decode cX6_count 70 = .ok (.iaload, 1) := by decide +kernel
theorem dX6_count_71 : decode cX6_count 71 = .ok (.ireturn, 1) := by decide +kernel
theorem dX6_count_72 : decode cX6_count 72 = .ok (.aload_n 0, 1) := by decide +kernel
theorem dX6_count_73 : decode cX6_count 73 = .ok (.iconst 0, 1) := by decide +kernel
theorem dX6_count_74 : decode cX6_count 74 = .ok (.invokevirtual 125, 3) := by decide +kernel
theorem dX6_count_77 : decode cX6_count 77 = .ok (.ireturn, 1) := by decide +kernel
theorem dX6_count_78 : decode cX6_count 78 = .ok (.aload_n 0, 1) := by decide +kernel
theorem dX6_count_79 : decode cX6_count 79 = .ok (.iconst 0, 1) := by decide +kernel
theorem dX6_count_80 : decode cX6_count 80 = .ok (.invokevirtual 128, 3) := by decide +kernel
theorem dX6_count_83 : decode cX6_count 83 = .ok (.ireturn, 1) := by decide +kernel
theorem dX6_count_84 : decode cX6_count 84 = .ok (.aload_n 0, 1) := by decide +kernel
theorem dX6_count_85 : decode cX6_count 85 = .ok (.invokevirtual 131, 3) := by decide +kernel
theorem dX6_count_88 : decode cX6_count 88 = .ok (.ireturn, 1) := by decide +kernel
theorem dX6_count_89 : decode cX6_count 89 = .ok (.aload_n 0, 1) := by decide +kernel
theorem dX6_count_90 : decode cX6_count 90 = .ok (.invokevirtual 134, 3) := by decide +kernel
theorem dX6_count_93 : decode cX6_count 93 = .ok (.ireturn, 1) := by decide +kernel
theorem dX6_count_94 : decode cX6_count 94 = .ok (.aload_n 0, 1) := by decide +kernel
theorem dX6_count_95 : decode cX6_count 95 = .ok (.getfield 7, 3) := by decide +kernel
theorem dX6_count_98 : decode cX6_count 98 = .ok (.bipush 48, 2) := by decide +kernel
theorem dX6_count_100 : decode cX6_count 100 = .ok (.iaload, 1) := by decide +kernel
theorem dX6_count_101 : decode cX6_count 101 = .ok (.ireturn, 1) := by decide +kernel
theorem dX6_count_102 : decode cX6_count 102 = .ok (.iconst (-1), 1) := by decide +kernel
theorem dX6_count_103 : decode cX6_count 103 = .ok (.ireturn, 1) := by decide +kernel
theorem dX6_minds_0 : decode cX6_minds 0 = .ok (.aload_n 0, 1) := by decide +kernel
theorem dX6_minds_1 : decode cX6_minds 1 = .ok (.getfield 7, 3) := by decide +kernel
theorem dX6_minds_4 : decode cX6_minds 4 = .ok (.bipush 48, 2) := by decide +kernel
theorem dX6_minds_6 : decode cX6_minds 6 = .ok (.iaload, 1) := by decide +kernel
theorem dX6_minds_7 : decode cX6_minds 7 = .ok (.bipush 8, 2) := by decide +kernel
theorem dX6_minds_9 : decode cX6_minds 9 = .ok (.if_icmp .ne 25, 3) := by decide +kernel
theorem dX6_minds_12 : decode cX6_minds 12 = .ok (.aload_n 0, 1) := by decide +kernel
theorem dX6_minds_13 : decode cX6_minds 13 = .ok (.bipush 70, 2) := by decide +kernel
theorem dX6_minds_15 : decode cX6_minds 15 = .ok (.bipush 49, 2) := by decide +kernel
theorem dX6_minds_17 : decode cX6_minds 17 = .ok (.sipush 147, 3) := by decide +kernel
theorem dX6_minds_20 : decode cX6_minds 20 = .ok (.invokevirtual 118, 3) := by decide +kernel
theorem dX6_minds_23 : decode cX6_minds 23 = .ok (.aload_n 0, 1) := by decide +kernel
theorem dX6_minds_24 : decode cX6_minds 24 = .ok (.getfield 7, 3) := by decide +kernel
theorem dX6_minds_27 : decode cX6_minds 27 = .ok (.bipush 48, 2) := by decide +kernel
theorem dX6_minds_29 : decode cX6_minds 29 = .ok (.dup2, 1) := by decide +kernel
theorem dX6_minds_30 : decode cX6_minds 30 = .ok (.iaload, 1) := by decide +kernel
theorem dX6_minds_31 : decode cX6_minds 31 = .ok (.iconst 1, 1) := by decide +kernel
theorem dX6_minds_32 : decode cX6_minds 32 = .ok (.isub, 1) := by decide +kernel
theorem dX6_minds_33 : decode cX6_minds 33 = .ok (.iastore, 1) := by decide +kernel
theorem dX6_minds_34 : decode cX6_minds 34 = .ok (.aload_n 0, 1) := by decide +kernel
theorem dX6_minds_35 : decode cX6_minds 35 = .ok (.iconst 0, 1) := by decide +kernel
theorem dX6_minds_36 : decode cX6_minds 36 = .ok (.bipush 49, 2) := by decide +kernel
theorem dX6_minds_38 : decode cX6_minds 38 = .ok (.bipush 21, 2) := by decide +kernel
theorem dX6_minds_40 : decode cX6_minds 40 = .ok (.aload_n 0, 1) := by decide +kernel
theorem dX6_minds_41 : decode cX6_minds 41 = .ok (.getfield 7, 3) := by decide +kernel
theorem dX6_minds_44 : decode cX6_minds 44 = .ok (.bipush 48, 2) := by decide +kernel
theorem dX6_minds_46 : decode cX6_minds 46 = .ok (.iaload, 1) := by decide +kernel
theorem dX6_minds_47 : decode cX6_minds 47 = .ok (.imul, 1) := by decide +kernel
theorem dX6_minds_48 : decode cX6_minds 48 = .ok (.iadd, 1) := by decide +kernel
theorem dX6_minds_49 : decode cX6_minds 49 = .ok (.bipush 21, 2) := by decide +kernel
theorem dX6_minds_51 : decode cX6_minds 51 = .ok (.invokevirtual 118, 3) := by decide +kernel
theorem dX6_minds_54 : decode cX6_minds 54 = .ok (.aload_n 0, 1) := by decide +kernel
theorem dX6_minds_55 : decode cX6_minds 55 = .ok (.getfield 7, 3) := by decide +kernel
theorem dX6_minds_58 : decode cX6_minds 58 = .ok (.bipush 48, 2) := by decide +kernel
theorem dX6_minds_60 : decode cX6_minds 60 = .ok (.dup2, 1) := by decide +kernel
theorem dX6_minds_61 : decode cX6_minds 61 = .ok (.iaload, 1) := by decide +kernel
theorem dX6_minds_62 : decode cX6_minds 62 = .ok (.iconst 1, 1) := by decide +kernel
theorem dX6_minds_63 : decode cX6_minds 63 = .ok (.iadd, 1) := by decide +kernel
theorem dX6_minds_64 : decode cX6_minds 64 = .ok (.iastore, 1) := by decide +kernel
theorem dX6_minds_65 : decode cX6_minds 65 = .ok (.return_, 1) := by decide +kernel
theorem dX6_ride_0 : decode cX6_ride 0 = .ok (.iload_n 1, 1) := by decide +kernel
theorem dX6_ride_1 : decode cX6_ride 1 = .ok (.i2l, 1) := by decide +kernel
theorem dX6_ride_2 : decode cX6_ride 2 = .ok (.lconst 1, 1) := by decide +kernel
theorem dX6_ride_3 : decode cX6_ride 3 = .ok (.ldc2_w 66, 3) := by decide +kernel
theorem dX6_ride_6 : decode cX6_ride 6 = .ok (.invokestatic 38, 3) := by decide +kernel
theorem dX6_ride_9 : decode cX6_ride 9 = .ok (.ifCond .ne 5, 3) := by decide +kernel
theorem dX6_ride_12 : decode cX6_ride 12 = .ok (.iconst (-1), 1) := by decide +kernel
theorem dX6_ride_13 : decode cX6_ride 13 = .ok (.ireturn, 1) := by decide +kernel
theorem dX6_ride_14 : decode cX6_ride 14 = .ok (.aload_n 0, 1) := by decide +kernel
theorem dX6_ride_15 : decode cX6_ride 15 = .ok (.iconst 0, 1) := by decide +kernel
theorem dX6_ride_16 : decode cX6_ride 16 = .ok (.invokevirtual 128, 3) := by decide +kernel
theorem dX6_ride_19 : decode cX6_ride 19 = .ok (.bipush (-4), 2) := by decide +kernel
theorem dX6_ride_21 : decode cX6_ride 21 = .ok (.if_icmp .ne 6, 3) := by decide +kernel
theorem dX6_ride_24 : decode cX6_ride 24 = .ok (.bipush (-2), 2) := by decide +kernel
theorem dX6_ride_26 : decode cX6_ride 26 = .ok (.ireturn, 1) := by decide +kernel
theorem dX6_ride_27 : decode cX6_ride 27 = .ok (.iconst 0, 1) := by decide +kernel
theorem dX6_ride_28 : decode cX6_ride 28 = .ok (.istore_n 2, 1) := by decide +kernel
theorem dX6_ride_29 : decode cX6_ride 29 = .ok (.iload_n 2, 1) := by decide +kernel
theorem dX6_ride_30 : decode cX6_ride 30 = .ok (.iload_n 1, 1) := by decide +kernel
theorem dX6_ride_31 : decode cX6_ride 31 = .ok (.if_icmp .ge 33, 3) := by decide +kernel
theorem dX6_ride_34 : decode cX6_ride 34 = .ok (.aload_n 0, 1) := by decide +kernel
theorem dX6_ride_35 : decode cX6_ride 35 = .ok (.iconst 0, 1) := by decide +kernel
theorem dX6_ride_36 : decode cX6_ride 36 = .ok (.invokevirtual 128, 3) := by decide +kernel
theorem dX6_ride_39 : decode cX6_ride 39 = .ok (.bipush (-4), 2) := by decide +kernel
theorem dX6_ride_41 : decode cX6_ride 41 = .ok (.if_icmp .eq 23, 3) := by decide +kernel
theorem dX6_ride_44 : decode cX6_ride 44 = .ok (.aload_n 0, 1) := by decide +kernel
theorem dX6_ride_45 : decode cX6_ride 45 = .ok (.invokevirtual 137, 3) := by decide +kernel
theorem dX6_ride_48 : decode cX6_ride 48 = .ok (.aload_n 0, 1) := by decide +kernel
theorem dX6_ride_49 : decode cX6_ride 49 = .ok (.iconst 0, 1) := by decide +kernel
theorem dX6_ride_50 : decode cX6_ride 50 = .ok (.aload_n 0, 1) := by decide +kernel
theorem dX6_ride_51 : decode cX6_ride 51 = .ok (.iconst 0, 1) := by decide +kernel
theorem dX6_ride_52 : decode cX6_ride 52 = .ok (.invokevirtual 128, 3) := by decide +kernel
theorem dX6_ride_55 : decode cX6_ride 55 = .ok (.invokevirtual 140, 3) := by decide +kernel
theorem dX6_ride_58 : decode cX6_ride 58 = .ok (.iinc 2 1, 3) := by decide +kernel
theorem dX6_ride_61 : decode cX6_ride 61 = .ok (.goto (-32), 3) := by decide +kernel
theorem dX6_ride_64 : decode cX6_ride 64 = .ok (.iload_n 2, 1) := by decide +kernel
theorem dX6_ride_65 : decode cX6_ride 65 = .ok (.ireturn, 1) := by decide +kernel
theorem dX6_wheel_0 : decode cX6_wheel 0 = .ok (.aload_n 0, 1) := by decide +kernel
theorem dX6_wheel_1 : decode cX6_wheel 1 = .ok (.iload_n 1, 1) := by decide +kernel
theorem dX6_wheel_2 : decode cX6_wheel 2 = .ok (.invokevirtual 42, 3) := by decide +kernel
theorem dX6_wheel_5 : decode cX6_wheel 5 = .ok (.ifCond .ne 5, 3) := by decide +kernel
theorem dX6_wheel_8 : decode cX6_wheel 8 = .ok (.iconst (-1), 1) := by decide +kernel
theorem dX6_wheel_9 : decode cX6_wheel 9 = .ok (.ireturn, 1) := by decide +kernel
theorem dX6_wheel_10 : decode cX6_wheel 10 = .ok (.aload_n 0, 1) := by decide +kernel
theorem dX6_wheel_11 : decode cX6_wheel 11 = .ok (.iconst 0, 1) := by decide +kernel
theorem dX6_wheel_12 : decode cX6_wheel 12 = .ok (.iload_n 1, 1) := by decide +kernel
theorem dX6_wheel_13 : decode cX6_wheel 13 = .ok (.invokevirtual 54, 3) := by decide +kernel
theorem dX6_wheel_16 : decode cX6_wheel 16 = .ok (.ifCond .eq 6, 3) := by decide +kernel
theorem dX6_wheel_19 : decode cX6_wheel 19 = .ok (.bipush (-2), 2) := by decide +kernel
theorem dX6_wheel_21 : decode cX6_wheel 21 = .ok (.ireturn, 1) := by decide +kernel
theorem dX6_wheel_22 : decode cX6_wheel 22 = .ok (.aload_n 0, 1) := by decide +kernel
theorem dX6_wheel_23 : decode cX6_wheel 23 = .ok (.invokevirtual 137, 3) := by decide +kernel
theorem dX6_wheel_26 : decode cX6_wheel 26 = .ok (.aload_n 0, 1) := by decide +kernel
theorem dX6_wheel_27 : decode cX6_wheel 27 = .ok (.getfield 7, 3) := by decide +kernel
theorem dX6_wheel_30 : decode cX6_wheel 30 = .ok (.bipush 12, 2) := by decide +kernel
theorem dX6_wheel_32 : decode cX6_wheel 32 = .ok (.iload_n 1, 1) := by decide +kernel
theorem dX6_wheel_33 : decode cX6_wheel 33 = .ok (.iadd, 1) := by decide +kernel
theorem dX6_wheel_34 : decode cX6_wheel 34 = .ok (.dup2, 1) := by decide +kernel
theorem dX6_wheel_35 : decode cX6_wheel 35 = .ok (.iaload, 1) := by decide +kernel
theorem dX6_wheel_36 : decode cX6_wheel 36 = .ok (.bipush 30, 2) := by decide +kernel
theorem dX6_wheel_38 : decode cX6_wheel 38 = .ok (.iadd, 1) := by decide +kernel
theorem dX6_wheel_39 : decode cX6_wheel 39 = .ok (.iastore, 1) := by decide +kernel
theorem dX6_wheel_40 : decode cX6_wheel 40 = .ok (.aload_n 0, 1) := by decide +kernel
theorem dX6_wheel_41 : decode cX6_wheel 41 = .ok (.getfield 7, 3) := by decide +kernel
theorem dX6_wheel_44 : decode cX6_wheel 44 = .ok (.bipush 12, 2) := by decide +kernel
theorem dX6_wheel_46 : decode cX6_wheel 46 = .ok (.iload_n 1, 1) := by decide +kernel
theorem dX6_wheel_47 : decode cX6_wheel 47 = .ok (.iadd, 1) := by decide +kernel
theorem dX6_wheel_48 : decode cX6_wheel 48 = .ok (.iaload, 1) := by decide +kernel
theorem dX6_wheel_49 : decode cX6_wheel 49 = .ok (.ireturn, 1) := by decide +kernel
theorem dX6_give_0 : decode cX6_give 0 = .ok (.aload_n 0, 1) := by decide +kernel
theorem dX6_give_1 : decode cX6_give 1 = .ok (.iload_n 1, 1) := by decide +kernel
theorem dX6_give_2 : decode cX6_give 2 = .ok (.iload_n 2, 1) := by decide +kernel
theorem dX6_give_3 : decode cX6_give 3 = .ok (.invokevirtual 144, 3) := by decide +kernel
theorem dX6_give_6 : decode cX6_give 6 = .ok (.ifCond .eq 15, 3) := by decide +kernel
theorem dX6_give_9 : decode cX6_give 9 = .ok (.iload_n 3, 1) := by decide +kernel
theorem dX6_give_10 : decode cX6_give 10 = .ok (.i2l, 1) := by decide +kernel
theorem dX6_give_11 : decode cX6_give 11 = .ok (.lconst 1, 1) := by decide +kernel
theorem dX6_give_12 : decode cX6_give 12 = .ok (.ldc2_w 52, 3) := by decide +kernel
theorem dX6_give_15 : decode cX6_give 15 = .ok (.invokestatic 38, 3) := by decide +kernel
theorem dX6_give_18 : decode cX6_give 18 = .ok (.ifCond .ne 5, 3) := by decide +kernel
theorem dX6_give_21 : decode cX6_give 21 = .ok (.iconst (-1), 1) := by decide +kernel
theorem dX6_give_22 : decode cX6_give 22 = .ok (.ireturn, 1) := by decide +kernel
theorem dX6_give_23 : decode cX6_give 23 = .ok (.aload_n 0, 1) := by decide +kernel
theorem dX6_give_24 : decode cX6_give 24 = .ok (.getfield 7, 3) := by decide +kernel
theorem dX6_give_27 : decode cX6_give 27 = .ok (.bipush 16, 2) := by decide +kernel
theorem dX6_give_29 : decode cX6_give 29 = .ok (.iload_n 1, 1) := by decide +kernel
theorem dX6_give_30 : decode cX6_give 30 = .ok (.iadd, 1) := by decide +kernel
theorem dX6_give_31 : decode cX6_give 31 = .ok (.iaload, 1) := by decide +kernel
theorem dX6_give_32 : decode cX6_give 32 = .ok (.iload_n 3, 1) := by decide +kernel
theorem dX6_give_33 : decode cX6_give 33 = .ok (.if_icmp .ge 6, 3) := by decide +kernel
theorem dX6_give_36 : decode cX6_give 36 = .ok (.bipush (-2), 2) := by decide +kernel
theorem dX6_give_38 : decode cX6_give 38 = .ok (.ireturn, 1) := by decide +kernel
theorem dX6_give_39 : decode cX6_give 39 = .ok (.aload_n 0, 1) := by decide +kernel
theorem dX6_give_40 : decode cX6_give 40 = .ok (.invokevirtual 137, 3) := by decide +kernel
theorem dX6_give_43 : decode cX6_give 43 = .ok (.aload_n 0, 1) := by decide +kernel
theorem dX6_give_44 : decode cX6_give 44 = .ok (.getfield 7, 3) := by decide +kernel
theorem dX6_give_47 : decode cX6_give 47 = .ok (.bipush 16, 2) := by decide +kernel
theorem dX6_give_49 : decode cX6_give 49 = .ok (.iload_n 1, 1) := by decide +kernel
theorem dX6_give_50 : decode cX6_give 50 = .ok (.iadd, 1) := by decide +kernel
theorem dX6_give_51 : decode cX6_give 51 = .ok (.dup2, 1) := by decide +kernel
theorem dX6_give_52 : decode cX6_give 52 = .ok (.iaload, 1) := by decide +kernel
theorem dX6_give_53 : decode cX6_give 53 = .ok (.iload_n 3, 1) := by decide +kernel
theorem dX6_give_54 : decode cX6_give 54 = .ok (.isub, 1) := by decide +kernel
theorem dX6_give_55 : decode cX6_give 55 = .ok (.iastore, 1) := by decide +kernel
theorem dX6_give_56 : decode cX6_give 56 = .ok (.aload_n 0, 1) := by decide +kernel
theorem dX6_give_57 : decode cX6_give 57 = .ok (.getfield 7, 3) := by decide +kernel
theorem dX6_give_60 : decode cX6_give 60 = .ok (.bipush 16, 2) := by decide +kernel
theorem dX6_give_62 : decode cX6_give 62 = .ok (.iload_n 2, 1) := by decide +kernel
theorem dX6_give_63 : decode cX6_give 63 = .ok (.iadd, 1) := by decide +kernel
theorem dX6_give_64 : decode cX6_give 64 = .ok (.aload_n 0, 1) := by decide +kernel
theorem dX6_give_65 : decode cX6_give 65 = .ok (.getfield 7, 3) := by decide +kernel
theorem dX6_give_68 : decode cX6_give 68 = .ok (.bipush 16, 2) := by decide +kernel
theorem dX6_give_70 : decode cX6_give 70 = .ok (.iload_n 2, 1) := by decide +kernel
theorem dX6_give_71 : decode cX6_give 71 = .ok (.iadd, 1) := by decide +kernel
theorem dX6_give_72 : decode cX6_give 72 = .ok (.iaload, 1) := by decide +kernel
theorem dX6_give_73 : decode cX6_give 73 = .ok (.iload_n 3, 1) := by decide +kernel
theorem dX6_give_74 : decode cX6_give 74 = .ok (.iadd, 1) := by decide +kernel
theorem dX6_give_75 : decode cX6_give 75 = .ok (.bipush 99, 2) := by decide +kernel
theorem dX6_give_77 : decode cX6_give 77 = .ok (.if_icmp .le 8, 3) := by decide +kernel
theorem dX6_give_80 : decode cX6_give 80 = .ok (.bipush 99, 2) := by decide +kernel
theorem dX6_give_82 : decode cX6_give 82 = .ok (.goto 14, 3) := by decide +kernel
theorem dX6_give_85 : decode cX6_give 85 = .ok (.aload_n 0, 1) := by decide +kernel
theorem dX6_give_86 : decode cX6_give 86 = .ok (.getfield 7, 3) := by decide +kernel
theorem dX6_give_89 : decode cX6_give 89 = .ok (.bipush 16, 2) := by decide +kernel
theorem dX6_give_91 : decode cX6_give 91 = .ok (.iload_n 2, 1) := by decide +kernel
theorem dX6_give_92 : decode cX6_give 92 = .ok (.iadd, 1) := by decide +kernel
theorem dX6_give_93 : decode cX6_give 93 = .ok (.iaload, 1) := by decide +kernel
theorem dX6_give_94 : decode cX6_give 94 = .ok (.iload_n 3, 1) := by decide +kernel
theorem dX6_give_95 : decode cX6_give 95 = .ok (.iadd, 1) := by decide +kernel
theorem dX6_give_96 : decode cX6_give 96 = .ok (.iastore, 1) := by decide +kernel
theorem dX6_give_97 : decode cX6_give 97 = .ok (.aload_n 0, 1) := by decide +kernel
theorem dX6_give_98 : decode cX6_give 98 = .ok (.getfield 7, 3) := by decide +kernel
theorem dX6_give_101 : decode cX6_give 101 = .ok (.bipush 16, 2) := by decide +kernel
theorem dX6_give_103 : decode cX6_give 103 = .ok (.iload_n 2, 1) := by decide +kernel
theorem dX6_give_104 : decode cX6_give 104 = .ok (.iadd, 1) := by decide +kernel
theorem dX6_give_105 : decode cX6_give 105 = .ok (.iaload, 1) := by decide +kernel
theorem dX6_give_106 : decode cX6_give 106 = .ok (.ireturn, 1) := by decide +kernel
theorem dX6_drift_0 : decode cX6_drift 0 = .ok (.iload_n 1, 1) := by decide +kernel
theorem dX6_drift_1 : decode cX6_drift 1 = .ok (.i2l, 1) := by decide +kernel
theorem dX6_drift_2 : decode cX6_drift 2 = .ok (.lconst 1, 1) := by decide +kernel
theorem dX6_drift_3 : decode cX6_drift 3 = .ok (.ldc2_w 66, 3) := by decide +kernel
theorem dX6_drift_6 : decode cX6_drift 6 = .ok (.invokestatic 38, 3) := by decide +kernel
theorem dX6_drift_9 : decode cX6_drift 9 = .ok (.ifCond .ne 5, 3) := by decide +kernel
theorem dX6_drift_12 : decode cX6_drift 12 = .ok (.iconst (-1), 1) := by decide +kernel
theorem dX6_drift_13 : decode cX6_drift 13 = .ok (.ireturn, 1) := by decide +kernel
theorem dX6_drift_14 : decode cX6_drift 14 = .ok (.aload_n 0, 1) := by decide +kernel
theorem dX6_drift_15 : decode cX6_drift 15 = .ok (.iconst 0, 1) := by decide +kernel
theorem dX6_drift_16 : decode cX6_drift 16 = .ok (.invokevirtual 128, 3) := by decide +kernel
theorem dX6_drift_19 : decode cX6_drift 19 = .ok (.bipush (-4), 2) := by decide +kernel
theorem dX6_drift_21 : decode cX6_drift 21 = .ok (.if_icmp .ne 6, 3) := by decide +kernel
theorem dX6_drift_24 : decode cX6_drift 24 = .ok (.bipush (-2), 2) := by decide +kernel
theorem dX6_drift_26 : decode cX6_drift 26 = .ok (.ireturn, 1) := by decide +kernel
theorem dX6_drift_27 : decode cX6_drift 27 = .ok (.iconst 0, 1) := by decide +kernel
theorem dX6_drift_28 : decode cX6_drift 28 = .ok (.istore_n 2, 1) := by decide +kernel
theorem dX6_drift_29 : decode cX6_drift 29 = .ok (.iconst 0, 1) := by decide +kernel
theorem dX6_drift_30 : decode cX6_drift 30 = .ok (.istore_n 3, 1) := by decide +kernel
theorem dX6_drift_31 : decode cX6_drift 31 = .ok (.iload_n 3, 1) := by decide +kernel
theorem dX6_drift_32 : decode cX6_drift 32 = .ok (.iload_n 1, 1) := by decide +kernel
theorem dX6_drift_33 : decode cX6_drift 33 = .ok (.if_icmp .ge 121, 3) := by decide +kernel
theorem dX6_drift_36 : decode cX6_drift 36 = .ok (.aload_n 0, 1) := by decide +kernel
theorem dX6_drift_37 : decode cX6_drift 37 = .ok (.iconst 0, 1) := by decide +kernel
theorem dX6_drift_38 : decode cX6_drift 38 = .ok (.invokevirtual 128, 3) := by decide +kernel
theorem dX6_drift_41 : decode cX6_drift 41 = .ok (.bipush (-4), 2) := by decide +kernel
theorem dX6_drift_43 : decode cX6_drift 43 = .ok (.if_icmp .eq 111, 3) := by decide +kernel
theorem dX6_drift_46 : decode cX6_drift 46 = .ok (.aload_n 0, 1) := by decide +kernel
theorem dX6_drift_47 : decode cX6_drift 47 = .ok (.invokevirtual 137, 3) := by decide +kernel
theorem dX6_drift_50 : decode cX6_drift 50 = .ok (.aload_n 0, 1) := by decide +kernel
theorem dX6_drift_51 : decode cX6_drift 51 = .ok (.getfield 7, 3) := by decide +kernel
theorem dX6_drift_54 : decode cX6_drift 54 = .ok (.bipush 20, 2) := by decide +kernel
theorem dX6_drift_56 : decode cX6_drift 56 = .ok (.aload_n 0, 1) := by decide +kernel
theorem dX6_drift_57 : decode cX6_drift 57 = .ok (.getfield 7, 3) := by decide +kernel
theorem dX6_drift_60 : decode cX6_drift 60 = .ok (.bipush 20, 2) := by decide +kernel
theorem dX6_drift_62 : decode cX6_drift 62 = .ok (.iaload, 1) := by decide +kernel
theorem dX6_drift_63 : decode cX6_drift 63 = .ok (.ldc 147, 2) := by decide +kernel
theorem dX6_drift_65 : decode cX6_drift 65 = .ok (.imul, 1) := by decide +kernel
theorem dX6_drift_66 : decode cX6_drift 66 = .ok (.sipush 12345, 3) := by decide +kernel
theorem dX6_drift_69 : decode cX6_drift 69 = .ok (.iadd, 1) := by decide +kernel
theorem dX6_drift_70 : decode cX6_drift 70 = .ok (.ldc 148, 2) := by decide +kernel
theorem dX6_drift_72 : decode cX6_drift 72 = .ok (.iand, 1) := by decide +kernel
theorem dX6_drift_73 : decode cX6_drift 73 = .ok (.iastore, 1) := by decide +kernel
theorem dX6_drift_74 : decode cX6_drift 74 = .ok (.aload_n 0, 1) := by decide +kernel
theorem dX6_drift_75 : decode cX6_drift 75 = .ok (.iconst 0, 1) := by decide +kernel
theorem dX6_drift_76 : decode cX6_drift 76 = .ok (.invokevirtual 128, 3) := by decide +kernel
theorem dX6_drift_79 : decode cX6_drift 79 = .ok (.istore 4, 2) := by decide +kernel
theorem dX6_drift_81 : decode cX6_drift 81 = .ok (.aload_n 0, 1) := by decide +kernel
theorem dX6_drift_82 : decode cX6_drift 82 = .ok (.getfield 7, 3) := by decide +kernel
theorem dX6_drift_85 : decode cX6_drift 85 = .ok (.bipush 20, 2) := by decide +kernel
theorem dX6_drift_87 : decode cX6_drift 87 = .ok (.iaload, 1) := by decide +kernel
theorem dX6_drift_88 : decode cX6_drift 88 = .ok (.ldc 149, 2) := by decide +kernel
theorem dX6_drift_90 : decode cX6_drift 90 = .ok (.idiv, 1) := by decide +kernel
theorem dX6_drift_91 : decode cX6_drift 91 = .ok (.bipush 6, 2) := by decide +kernel
theorem dX6_drift_93 : decode cX6_drift 93 = .ok (.irem, 1) := by decide +kernel
theorem dX6_drift_94 : decode cX6_drift 94 = .ok (.ifCond .ne 7, 3) := by decide +kernel
theorem dX6_drift_97 : decode cX6_drift 97 = .ok (.iconst 1, 1) := by decide +kernel
theorem dX6_drift_98 : decode cX6_drift 98 = .ok (.goto 4, 3) := by decide +kernel
theorem dX6_drift_101 : decode cX6_drift 101 = .ok (.iconst 0, 1) := by decide +kernel
theorem dX6_drift_102 : decode cX6_drift 102 = .ok (.istore 5, 2) := by decide +kernel
theorem dX6_drift_104 : decode cX6_drift 104 = .ok (.aload_n 0, 1) := by decide +kernel
theorem dX6_drift_105 : decode cX6_drift 105 = .ok (.iconst 0, 1) := by decide +kernel
theorem dX6_drift_106 : decode cX6_drift 106 = .ok (.iload 4, 2) := by decide +kernel
theorem dX6_drift_108 : decode cX6_drift 108 = .ok (.invokevirtual 140, 3) := by decide +kernel
theorem dX6_drift_111 : decode cX6_drift 111 = .ok (.aload_n 0, 1) := by decide +kernel
theorem dX6_drift_112 : decode cX6_drift 112 = .ok (.getfield 7, 3) := by decide +kernel
theorem dX6_drift_115 : decode cX6_drift 115 = .ok (.bipush 12, 2) := by decide +kernel
theorem dX6_drift_117 : decode cX6_drift 117 = .ok (.iload 4, 2) := by decide +kernel
theorem dX6_drift_119 : decode cX6_drift 119 = .ok (.iadd, 1) := by decide +kernel
theorem dX6_drift_120 : decode cX6_drift 120 = .ok (.dup2, 1) := by decide +kernel
theorem dX6_drift_121 : decode cX6_drift 121 = .ok (.iaload, 1) := by decide +kernel
theorem dX6_drift_122 : decode cX6_drift 122 = .ok (.iload 5, 2) := by decide +kernel
theorem dX6_drift_124 : decode cX6_drift 124 = .ok (.ifCond .eq 8, 3) := by decide +kernel
theorem dX6_drift_127 : decode cX6_drift 127 = .ok (.bipush 30, 2) := by decide +kernel
theorem dX6_drift_129 : decode cX6_drift 129 = .ok (.goto 4, 3) := by decide +kernel
theorem dX6_drift_132 : decode cX6_drift 132 = .ok (.iconst 0, 1) := by decide +kernel
theorem dX6_drift_133 : decode cX6_drift 133 = .ok (.iadd, 1) := by decide +kernel
theorem dX6_drift_134 : decode cX6_drift 134 = .ok (.iastore, 1) := by decide +kernel
theorem dX6_drift_135 : decode cX6_drift 135 = .ok (.iload_n 2, 1) := by decide +kernel
theorem dX6_drift_136 : decode cX6_drift 136 = .ok (.iload 5, 2) := by decide +kernel
theorem dX6_drift_138 : decode cX6_drift 138 = .ok (.ifCond .eq 7, 3) := by decide +kernel
theorem dX6_drift_141 : decode cX6_drift 141 = .ok (.iconst 1, 1) := by decide +kernel
theorem dX6_drift_142 : decode cX6_drift 142 = .ok (.goto 4, 3) := by decide +kernel
theorem dX6_drift_145 : decode cX6_drift 145 = .ok (.iconst 0, 1) := by decide +kernel
theorem dX6_drift_146 : decode cX6_drift 146 = .ok (.iadd, 1) := by decide +kernel
theorem dX6_drift_147 : decode cX6_drift 147 = .ok (.istore_n 2, 1) := by decide +kernel
theorem dX6_drift_148 : decode cX6_drift 148 = .ok (.iinc 3 1, 3) := by decide +kernel
theorem dX6_drift_151 : decode cX6_drift 151 = .ok (.goto (-120), 3) := by decide +kernel
theorem dX6_drift_154 : decode cX6_drift 154 = .ok (.iload_n 2, 1) := by decide +kernel
theorem dX6_drift_155 : decode cX6_drift 155 = .ok (.ireturn, 1) := by decide +kernel
theorem dX6_undo_0 : decode cX6_undo 0 = .ok (.aload_n 0, 1) := by decide +kernel
theorem dX6_undo_1 : decode cX6_undo 1 = .ok (.getfield 7, 3) := by decide +kernel
theorem dX6_undo_4 : decode cX6_undo 4 = .ok (.bipush 48, 2) := by decide +kernel
theorem dX6_undo_6 : decode cX6_undo 6 = .ok (.iaload, 1) := by decide +kernel
theorem dX6_undo_7 : decode cX6_undo 7 = .ok (.ifCond .ne 6, 3) := by decide +kernel
theorem dX6_undo_10 : decode cX6_undo 10 = .ok (.bipush (-4), 2) := by decide +kernel
theorem dX6_undo_12 : decode cX6_undo 12 = .ok (.ireturn, 1) := by decide +kernel
theorem dX6_undo_13 : decode cX6_undo 13 = .ok (.aload_n 0, 1) := by decide +kernel
theorem dX6_undo_14 : decode cX6_undo 14 = .ok (.getfield 7, 3) := by decide +kernel
theorem dX6_undo_17 : decode cX6_undo 17 = .ok (.bipush 48, 2) := by decide +kernel
theorem dX6_undo_19 : decode cX6_undo 19 = .ok (.dup2, 1) := by decide +kernel
theorem dX6_undo_20 : decode cX6_undo 20 = .ok (.iaload, 1) := by decide +kernel
theorem dX6_undo_21 : decode cX6_undo 21 = .ok (.iconst 1, 1) := by decide +kernel
theorem dX6_undo_22 : decode cX6_undo 22 = .ok (.isub, 1) := by decide +kernel
theorem dX6_undo_23 : decode cX6_undo 23 = .ok (.iastore, 1) := by decide +kernel
theorem dX6_undo_24 : decode cX6_undo 24 = .ok (.aload_n 0, 1) := by decide +kernel
theorem dX6_undo_25 : decode cX6_undo 25 = .ok (.bipush 49, 2) := by decide +kernel
theorem dX6_undo_27 : decode cX6_undo 27 = .ok (.bipush 21, 2) := by decide +kernel
theorem dX6_undo_29 : decode cX6_undo 29 = .ok (.aload_n 0, 1) := by decide +kernel
theorem dX6_undo_30 : decode cX6_undo 30 = .ok (.getfield 7, 3) := by decide +kernel
theorem dX6_undo_33 : decode cX6_undo 33 = .ok (.bipush 48, 2) := by decide +kernel
theorem dX6_undo_35 : decode cX6_undo 35 = .ok (.iaload, 1) := by decide +kernel
theorem dX6_undo_36 : decode cX6_undo 36 = .ok (.imul, 1) := by decide +kernel
theorem dX6_undo_37 : decode cX6_undo 37 = .ok (.iadd, 1) := by decide +kernel
theorem dX6_undo_38 : decode cX6_undo 38 = .ok (.iconst 0, 1) := by decide +kernel
theorem dX6_undo_39 : decode cX6_undo 39 = .ok (.bipush 21, 2) := by decide +kernel
theorem dX6_undo_41 : decode cX6_undo 41 = .ok (.invokevirtual 118, 3) := by decide +kernel
theorem dX6_undo_44 : decode cX6_undo 44 = .ok (.aload_n 0, 1) := by decide +kernel
theorem dX6_undo_45 : decode cX6_undo 45 = .ok (.getfield 7, 3) := by decide +kernel
theorem dX6_undo_48 : decode cX6_undo 48 = .ok (.bipush 48, 2) := by decide +kernel
theorem dX6_undo_50 : decode cX6_undo 50 = .ok (.iaload, 1) := by decide +kernel
theorem dX6_undo_51 : decode cX6_undo 51 = .ok (.ireturn, 1) := by decide +kernel
theorem dX6_seed_0 : decode cX6_seed 0 = .ok (.iload_n 1, 1) := by decide +kernel
theorem dX6_seed_1 : decode cX6_seed 1 = .ok (.ifCond .ge 5, 3) := by decide +kernel
theorem dX6_seed_4 : decode cX6_seed 4 = .ok (.iconst (-1), 1) := by decide +kernel
theorem dX6_seed_5 : decode cX6_seed 5 = .ok (.ireturn, 1) := by decide +kernel
theorem dX6_seed_6 : decode cX6_seed 6 = .ok (.aload_n 0, 1) := by decide +kernel
theorem dX6_seed_7 : decode cX6_seed 7 = .ok (.getfield 7, 3) := by decide +kernel
theorem dX6_seed_10 : decode cX6_seed 10 = .ok (.bipush 20, 2) := by decide +kernel
theorem dX6_seed_12 : decode cX6_seed 12 = .ok (.iaload, 1) := by decide +kernel
theorem dX6_seed_13 : decode cX6_seed 13 = .ok (.istore_n 2, 1) := by decide +kernel
theorem dX6_seed_14 : decode cX6_seed 14 = .ok (.aload_n 0, 1) := by decide +kernel
theorem dX6_seed_15 : decode cX6_seed 15 = .ok (.getfield 7, 3) := by decide +kernel
theorem dX6_seed_18 : decode cX6_seed 18 = .ok (.bipush 20, 2) := by decide +kernel
theorem dX6_seed_20 : decode cX6_seed 20 = .ok (.iload_n 1, 1) := by decide +kernel
theorem dX6_seed_21 : decode cX6_seed 21 = .ok (.iastore, 1) := by decide +kernel
theorem dX6_seed_22 : decode cX6_seed 22 = .ok (.iload_n 2, 1) := by decide +kernel
theorem dX6_seed_23 : decode cX6_seed 23 = .ok (.ireturn, 1) := by decide +kernel
theorem dX6_tries_0 : decode cX6_tries 0 = .ok (.aload_n 0, 1) := by decide +kernel
theorem dX6_tries_1 : decode cX6_tries 1 = .ok (.iconst 0, 1) := by decide +kernel
theorem dX6_tries_2 : decode cX6_tries 2 = .ok (.sipush 434, 3) := by decide +kernel
theorem dX6_tries_5 : decode cX6_tries 5 = .ok (.bipush 49, 2) := by decide +kernel
theorem dX6_tries_7 : decode cX6_tries 7 = .ok (.invokevirtual 118, 3) := by decide +kernel
theorem dX6_tries_10 : decode cX6_tries 10 = .ok (.return_, 1) := by decide +kernel
theorem dX6_ridesOn_0 : decode cX6_ridesOn 0 = .ok (.iconst 0, 1) := by decide +kernel
theorem dX6_ridesOn_1 : decode cX6_ridesOn 1 = .ok (.istore_n 3, 1) := by decide +kernel
theorem dX6_ridesOn_2 : decode cX6_ridesOn 2 = .ok (.iload_n 3, 1) := by decide +kernel
theorem dX6_ridesOn_3 : decode cX6_ridesOn 3 = .ok (.bipush 36, 2) := by decide +kernel
theorem dX6_ridesOn_5 : decode cX6_ridesOn 5 = .ok (.if_icmp .ge 17, 3) := by decide +kernel
theorem dX6_ridesOn_8 : decode cX6_ridesOn 8 = .ok (.aload_n 0, 1) := by decide +kernel
theorem dX6_ridesOn_9 : decode cX6_ridesOn 9 = .ok (.getfield 26, 3) := by decide +kernel
theorem dX6_ridesOn_12 : decode cX6_ridesOn 12 = .ok (.iload_n 3, 1) := by decide +kernel
theorem dX6_ridesOn_13 : decode cX6_ridesOn 13 = .ok (.bipush (-4), 2) := by decide +kernel
theorem dX6_ridesOn_15 : decode cX6_ridesOn 15 = .ok (.iastore, 1) := by decide +kernel
theorem dX6_ridesOn_16 : decode cX6_ridesOn 16 = .ok (.iinc 3 1, 3) := by decide +kernel
theorem dX6_ridesOn_19 : decode cX6_ridesOn 19 = .ok (.goto (-17), 3) := by decide +kernel
theorem dX6_ridesOn_22 : decode cX6_ridesOn 22 = .ok (.iconst 0, 1) := by decide +kernel
theorem dX6_ridesOn_23 : decode cX6_ridesOn 23 = .ok (.istore_n 3, 1) := by decide +kernel
theorem dX6_ridesOn_24 : decode cX6_ridesOn 24 = .ok (.iload_n 3, 1) := by decide +kernel
theorem dX6_ridesOn_25 : decode cX6_ridesOn 25 = .ok (.aload_n 0, 1) := by decide +kernel
theorem dX6_ridesOn_26 : decode cX6_ridesOn 26 = .ok (.getfield 7, 3) := by decide +kernel
theorem dX6_ridesOn_29 : decode cX6_ridesOn 29 = .ok (.sipush 456, 3) := by decide +kernel
theorem dX6_ridesOn_32 : decode cX6_ridesOn 32 = .ok (.iaload, 1) := by decide +kernel
theorem dX6_ridesOn_33 : decode cX6_ridesOn 33 = .ok (.if_icmp .ge 39, 3) := by decide +kernel
theorem dX6_ridesOn_36 : decode cX6_ridesOn 36 = .ok (.aload_n 0, 1) := by decide +kernel
theorem dX6_ridesOn_37 : decode cX6_ridesOn 37 = .ok (.getfield 26, 3) := by decide +kernel
theorem dX6_ridesOn_40 : decode cX6_ridesOn 40 = .ok (.bipush 9, 2) := by decide +kernel
theorem dX6_ridesOn_42 : decode cX6_ridesOn 42 = .ok (.iload_n 3, 1) := by decide +kernel
theorem dX6_ridesOn_43 : decode cX6_ridesOn 43 = .ok (.imul, 1) := by decide +kernel
theorem dX6_ridesOn_44 : decode cX6_ridesOn 44 = .ok (.aload_n 0, 1) := by decide +kernel
theorem dX6_ridesOn_45 : decode cX6_ridesOn 45 = .ok (.getfield 7, 3) := by decide +kernel
theorem dX6_ridesOn_48 : decode cX6_ridesOn 48 = .ok (.sipush 442, 3) := by decide +kernel
theorem dX6_ridesOn_51 : decode cX6_ridesOn 51 = .ok (.iload_n 3, 1) := by decide +kernel
theorem dX6_ridesOn_52 : decode cX6_ridesOn 52 = .ok (.iadd, 1) := by decide +kernel
theorem dX6_ridesOn_53 : decode cX6_ridesOn 53 = .ok (.iaload, 1) := by decide +kernel
theorem dX6_ridesOn_54 : decode cX6_ridesOn 54 = .ok (.iadd, 1) := by decide +kernel
theorem dX6_ridesOn_55 : decode cX6_ridesOn 55 = .ok (.aload_n 0, 1) := by decide +kernel
theorem dX6_ridesOn_56 : decode cX6_ridesOn 56 = .ok (.getfield 7, 3) := by decide +kernel
theorem dX6_ridesOn_59 : decode cX6_ridesOn 59 = .ok (.sipush 446, 3) := by decide +kernel
theorem dX6_ridesOn_62 : decode cX6_ridesOn 62 = .ok (.iload_n 3, 1) := by decide +kernel
theorem dX6_ridesOn_63 : decode cX6_ridesOn 63 = .ok (.iadd, 1) := by decide +kernel
theorem dX6_ridesOn_64 : decode cX6_ridesOn 64 = .ok (.iaload, 1) := by decide +kernel
theorem dX6_ridesOn_65 : decode cX6_ridesOn 65 = .ok (.iastore, 1) := by decide +kernel
theorem dX6_ridesOn_66 : decode cX6_ridesOn 66 = .ok (.iinc 3 1, 3) := by decide +kernel
theorem dX6_ridesOn_69 : decode cX6_ridesOn 69 = .ok (.goto (-45), 3) := by decide +kernel
theorem dX6_ridesOn_72 : decode cX6_ridesOn 72 = .ok (.aload_n 0, 1) := by decide +kernel
theorem dX6_ridesOn_73 : decode cX6_ridesOn 73 = .ok (.sipush 434, 3) := by decide +kernel
theorem dX6_ridesOn_76 : decode cX6_ridesOn 76 = .ok (.invokevirtual 128, 3) := by decide +kernel
theorem dX6_ridesOn_79 : decode cX6_ridesOn 79 = .ok (.istore_n 3, 1) := by decide +kernel
theorem dX6_ridesOn_80 : decode cX6_ridesOn 80 = .ok (.iload_n 3, 1) := by decide +kernel
theorem dX6_ridesOn_81 : decode cX6_ridesOn 81 = .ok (.bipush (-4), 2) := by decide +kernel
theorem dX6_ridesOn_83 : decode cX6_ridesOn 83 = .ok (.if_icmp .eq 105, 3) := by decide +kernel
theorem dX6_ridesOn_86 : decode cX6_ridesOn 86 = .ok (.iload_n 3, 1) := by decide +kernel
theorem dX6_ridesOn_87 : decode cX6_ridesOn 87 = .ok (.iload_n 1, 1) := by decide +kernel
theorem dX6_ridesOn_88 : decode cX6_ridesOn 88 = .ok (.if_icmp .ne 24, 3) := by decide +kernel
theorem dX6_ridesOn_91 : decode cX6_ridesOn 91 = .ok (.iload_n 2, 1) := by decide +kernel
theorem dX6_ridesOn_92 : decode cX6_ridesOn 92 = .ok (.aload_n 0, 1) := by decide +kernel
theorem dX6_ridesOn_93 : decode cX6_ridesOn 93 = .ok (.getfield 7, 3) := by decide +kernel
theorem dX6_ridesOn_96 : decode cX6_ridesOn 96 = .ok (.sipush 442, 3) := by decide +kernel
theorem dX6_ridesOn_99 : decode cX6_ridesOn 99 = .ok (.iload_n 3, 1) := by decide +kernel
theorem dX6_ridesOn_100 : decode cX6_ridesOn 100 = .ok (.iadd, 1) := by decide +kernel
theorem dX6_ridesOn_101 : decode cX6_ridesOn 101 = .ok (.iaload, 1) := by decide +kernel
theorem dX6_ridesOn_102 : decode cX6_ridesOn 102 = .ok (.invokestatic 122, 3) := by decide +kernel
theorem dX6_ridesOn_105 : decode cX6_ridesOn 105 = .ok (.ifCond .eq 7, 3) := by decide +kernel
theorem dX6_ridesOn_108 : decode cX6_ridesOn 108 = .ok (.iconst 1, 1) := by decide +kernel
theorem dX6_ridesOn_109 : decode cX6_ridesOn 109 = .ok (.goto 4, 3) := by decide +kernel
theorem dX6_ridesOn_112 : decode cX6_ridesOn 112 = .ok (.iconst 0, 1) := by decide +kernel
theorem dX6_ridesOn_113 : decode cX6_ridesOn 113 = .ok (.istore 4, 2) := by decide +kernel
theorem dX6_ridesOn_115 : decode cX6_ridesOn 115 = .ok (.aload_n 0, 1) := by decide +kernel
theorem dX6_ridesOn_116 : decode cX6_ridesOn 116 = .ok (.sipush 434, 3) := by decide +kernel
theorem dX6_ridesOn_119 : decode cX6_ridesOn 119 = .ok (.iload_n 3, 1) := by decide +kernel
theorem dX6_ridesOn_120 : decode cX6_ridesOn 120 = .ok (.invokevirtual 140, 3) := by decide +kernel
theorem dX6_ridesOn_123 : decode cX6_ridesOn 123 = .ok (.aload_n 0, 1) := by decide +kernel
theorem dX6_ridesOn_124 : decode cX6_ridesOn 124 = .ok (.getfield 7, 3) := by decide +kernel
theorem dX6_ridesOn_127 : decode cX6_ridesOn 127 = .ok (.sipush 446, 3) := by decide +kernel
theorem dX6_ridesOn_130 : decode cX6_ridesOn 130 = .ok (.iload_n 3, 1) := by decide +kernel
theorem dX6_ridesOn_131 : decode cX6_ridesOn 131 = .ok (.iadd, 1) := by decide +kernel
theorem dX6_ridesOn_132 : decode cX6_ridesOn 132 = .ok (.dup2, 1) := by decide +kernel
theorem dX6_ridesOn_133 : decode cX6_ridesOn 133 = .ok (.iaload, 1) := by decide +kernel
theorem dX6_ridesOn_134 : decode cX6_ridesOn 134 = .ok (.iload 4, 2) := by decide +kernel
theorem dX6_ridesOn_136 : decode cX6_ridesOn 136 = .ok (.ifCond .eq 8, 3) := by decide +kernel
theorem dX6_ridesOn_139 : decode cX6_ridesOn 139 = .ok (.bipush 30, 2) := by decide +kernel
theorem dX6_ridesOn_141 : decode cX6_ridesOn 141 = .ok (.goto 4, 3) := by decide +kernel
theorem dX6_ridesOn_144 : decode cX6_ridesOn 144 = .ok (.iconst 0, 1) := by decide +kernel
theorem dX6_ridesOn_145 : decode cX6_ridesOn 145 = .ok (.iadd, 1) := by decide +kernel
theorem dX6_ridesOn_146 : decode cX6_ridesOn 146 = .ok (.iastore, 1) := by decide +kernel
theorem dX6_ridesOn_147 : decode cX6_ridesOn 147 = .ok (.aload_n 0, 1) := by decide +kernel
theorem dX6_ridesOn_148 : decode cX6_ridesOn 148 = .ok (.getfield 26, 3) := by decide +kernel
theorem dX6_ridesOn_151 : decode cX6_ridesOn 151 = .ok (.bipush 9, 2) := by decide +kernel
theorem dX6_ridesOn_153 : decode cX6_ridesOn 153 = .ok (.iload_n 3, 1) := by decide +kernel
theorem dX6_ridesOn_154 : decode cX6_ridesOn 154 = .ok (.imul, 1) := by decide +kernel
theorem dX6_ridesOn_155 : decode cX6_ridesOn 155 = .ok (.aload_n 0, 1) := by decide +kernel
theorem dX6_ridesOn_156 : decode cX6_ridesOn 156 = .ok (.getfield 7, 3) := by decide +kernel
theorem dX6_ridesOn_159 : decode cX6_ridesOn 159 = .ok (.sipush 442, 3) := by decide +kernel
theorem dX6_ridesOn_162 : decode cX6_ridesOn 162 = .ok (.iload_n 3, 1) := by decide +kernel
theorem dX6_ridesOn_163 : decode cX6_ridesOn 163 = .ok (.iadd, 1) := by decide +kernel
theorem dX6_ridesOn_164 : decode cX6_ridesOn 164 = .ok (.iaload, 1) := by decide +kernel
theorem dX6_ridesOn_165 : decode cX6_ridesOn 165 = .ok (.iadd, 1) := by decide +kernel
theorem dX6_ridesOn_166 : decode cX6_ridesOn 166 = .ok (.aload_n 0, 1) := by decide +kernel
theorem dX6_ridesOn_167 : decode cX6_ridesOn 167 = .ok (.getfield 7, 3) := by decide +kernel
theorem dX6_ridesOn_170 : decode cX6_ridesOn 170 = .ok (.sipush 446, 3) := by decide +kernel
theorem dX6_ridesOn_173 : decode cX6_ridesOn 173 = .ok (.iload_n 3, 1) := by decide +kernel
theorem dX6_ridesOn_174 : decode cX6_ridesOn 174 = .ok (.iadd, 1) := by decide +kernel
theorem dX6_ridesOn_175 : decode cX6_ridesOn 175 = .ok (.iaload, 1) := by decide +kernel
theorem dX6_ridesOn_176 : decode cX6_ridesOn 176 = .ok (.iastore, 1) := by decide +kernel
theorem dX6_ridesOn_177 : decode cX6_ridesOn 177 = .ok (.aload_n 0, 1) := by decide +kernel
theorem dX6_ridesOn_178 : decode cX6_ridesOn 178 = .ok (.sipush 434, 3) := by decide +kernel
theorem dX6_ridesOn_181 : decode cX6_ridesOn 181 = .ok (.invokevirtual 128, 3) := by decide +kernel
theorem dX6_ridesOn_184 : decode cX6_ridesOn 184 = .ok (.istore_n 3, 1) := by decide +kernel
theorem dX6_ridesOn_185 : decode cX6_ridesOn 185 = .ok (.goto (-105), 3) := by decide +kernel
theorem dX6_ridesOn_188 : decode cX6_ridesOn 188 = .ok (.return_, 1) := by decide +kernel
theorem dX6_foretells_0 : decode cX6_foretells 0 = .ok (.aload_n 0, 1) := by decide +kernel
theorem dX6_foretells_1 : decode cX6_foretells 1 = .ok (.invokevirtual 150, 3) := by decide +kernel
theorem dX6_foretells_4 : decode cX6_foretells 4 = .ok (.aload_n 0, 1) := by decide +kernel
theorem dX6_foretells_5 : decode cX6_foretells 5 = .ok (.bipush (-4), 2) := by decide +kernel
theorem dX6_foretells_7 : decode cX6_foretells 7 = .ok (.iconst 0, 1) := by decide +kernel
theorem dX6_foretells_8 : decode cX6_foretells 8 = .ok (.invokevirtual 153, 3) := by decide +kernel
theorem dX6_foretells_11 : decode cX6_foretells 11 = .ok (.return_, 1) := by decide +kernel
theorem dX6_ahead_0 : decode cX6_ahead 0 = .ok (.aload_n 0, 1) := by decide +kernel
theorem dX6_ahead_1 : decode cX6_ahead 1 = .ok (.iload_n 1, 1) := by decide +kernel
theorem dX6_ahead_2 : decode cX6_ahead 2 = .ok (.invokevirtual 42, 3) := by decide +kernel
theorem dX6_ahead_5 : decode cX6_ahead 5 = .ok (.ifCond .eq 13, 3) := by decide +kernel
theorem dX6_ahead_8 : decode cX6_ahead 8 = .ok (.iload_n 2, 1) := by decide +kernel
theorem dX6_ahead_9 : decode cX6_ahead 9 = .ok (.i2l, 1) := by decide +kernel
theorem dX6_ahead_10 : decode cX6_ahead 10 = .ok (.lconst 0, 1) := by decide +kernel
theorem dX6_ahead_11 : decode cX6_ahead 11 = .ok (.lconst 1, 1) := by decide +kernel
theorem dX6_ahead_12 : decode cX6_ahead 12 = .ok (.invokestatic 38, 3) := by decide +kernel
theorem dX6_ahead_15 : decode cX6_ahead 15 = .ok (.ifCond .ne 5, 3) := by decide +kernel
theorem dX6_ahead_18 : decode cX6_ahead 18 = .ok (.iconst (-1), 1) := by decide +kernel
theorem dX6_ahead_19 : decode cX6_ahead 19 = .ok (.ireturn, 1) := by decide +kernel
theorem dX6_ahead_20 : decode cX6_ahead 20 = .ok (.aload_n 0, 1) := by decide +kernel
theorem dX6_ahead_21 : decode cX6_ahead 21 = .ok (.invokevirtual 156, 3) := by decide +kernel
theorem dX6_ahead_24 : decode cX6_ahead 24 = .ok (.aload_n 0, 1) := by decide +kernel
theorem dX6_ahead_25 : decode cX6_ahead 25 = .ok (.getfield 7, 3) := by decide +kernel
theorem dX6_ahead_28 : decode cX6_ahead 28 = .ok (.sipush 434, 3) := by decide +kernel
theorem dX6_ahead_31 : decode cX6_ahead 31 = .ok (.iload_n 2, 1) := by decide +kernel
theorem dX6_ahead_32 : decode cX6_ahead 32 = .ok (.ifCond .ne 8, 3) := by decide +kernel
theorem dX6_ahead_35 : decode cX6_ahead 35 = .ok (.bipush 12, 2) := by decide +kernel
theorem dX6_ahead_37 : decode cX6_ahead 37 = .ok (.goto 5, 3) := by decide +kernel
theorem dX6_ahead_40 : decode cX6_ahead 40 = .ok (.bipush 16, 2) := by decide +kernel
theorem dX6_ahead_42 : decode cX6_ahead 42 = .ok (.iadd, 1) := by decide +kernel
theorem dX6_ahead_43 : decode cX6_ahead 43 = .ok (.iload_n 1, 1) := by decide +kernel
theorem dX6_ahead_44 : decode cX6_ahead 44 = .ok (.iadd, 1) := by decide +kernel
theorem dX6_ahead_45 : decode cX6_ahead 45 = .ok (.iaload, 1) := by decide +kernel
theorem dX6_ahead_46 : decode cX6_ahead 46 = .ok (.ireturn, 1) := by decide +kernel
theorem dX6_comes_0 : decode cX6_comes 0 = .ok (.aload_n 0, 1) := by decide +kernel
theorem dX6_comes_1 : decode cX6_comes 1 = .ok (.iload_n 1, 1) := by decide +kernel
theorem dX6_comes_2 : decode cX6_comes 2 = .ok (.invokevirtual 42, 3) := by decide +kernel
theorem dX6_comes_5 : decode cX6_comes 5 = .ok (.ifCond .eq 20, 3) := by decide +kernel
theorem dX6_comes_8 : decode cX6_comes 8 = .ok (.iload_n 2, 1) := by decide +kernel
theorem dX6_comes_9 : decode cX6_comes 9 = .ok (.i2l, 1) := by decide +kernel
theorem dX6_comes_10 : decode cX6_comes 10 = .ok (.lconst 0, 1) := by decide +kernel
theorem dX6_comes_11 : decode cX6_comes 11 = .ok (.aload_n 0, 1) := by decide +kernel
theorem dX6_comes_12 : decode cX6_comes 12 = .ok (.getfield 7, 3) := by decide +kernel
theorem dX6_comes_15 : decode cX6_comes 15 = .ok (.bipush 21, 2) := by decide +kernel
theorem dX6_comes_17 : decode cX6_comes 17 = .ok (.iaload, 1) := by decide +kernel
theorem dX6_comes_18 : decode cX6_comes 18 = .ok (.i2l, 1) := by decide +kernel
theorem dX6_comes_19 : decode cX6_comes 19 = .ok (.invokestatic 38, 3) := by decide +kernel
theorem dX6_comes_22 : decode cX6_comes 22 = .ok (.ifCond .ne 5, 3) := by decide +kernel
theorem dX6_comes_25 : decode cX6_comes 25 = .ok (.iconst (-1), 1) := by decide +kernel
theorem dX6_comes_26 : decode cX6_comes 26 = .ok (.ireturn, 1) := by decide +kernel
theorem dX6_comes_27 : decode cX6_comes 27 = .ok (.aload_n 0, 1) := by decide +kernel
theorem dX6_comes_28 : decode cX6_comes 28 = .ok (.invokevirtual 156, 3) := by decide +kernel
theorem dX6_comes_31 : decode cX6_comes 31 = .ok (.aload_n 0, 1) := by decide +kernel
theorem dX6_comes_32 : decode cX6_comes 32 = .ok (.getfield 26, 3) := by decide +kernel
theorem dX6_comes_35 : decode cX6_comes 35 = .ok (.bipush 9, 2) := by decide +kernel
theorem dX6_comes_37 : decode cX6_comes 37 = .ok (.iload_n 1, 1) := by decide +kernel
theorem dX6_comes_38 : decode cX6_comes 38 = .ok (.imul, 1) := by decide +kernel
theorem dX6_comes_39 : decode cX6_comes 39 = .ok (.iload_n 2, 1) := by decide +kernel
theorem dX6_comes_40 : decode cX6_comes 40 = .ok (.iadd, 1) := by decide +kernel
theorem dX6_comes_41 : decode cX6_comes 41 = .ok (.iaload, 1) := by decide +kernel
theorem dX6_comes_42 : decode cX6_comes 42 = .ok (.ireturn, 1) := by decide +kernel
theorem dX6_firstTried_0 : decode cX6_firstTried 0 = .ok (.bipush (-4), 2) := by decide +kernel
theorem dX6_firstTried_2 : decode cX6_firstTried 2 = .ok (.istore_n 1, 1) := by decide +kernel
theorem dX6_firstTried_3 : decode cX6_firstTried 3 = .ok (.iconst 0, 1) := by decide +kernel
theorem dX6_firstTried_4 : decode cX6_firstTried 4 = .ok (.istore_n 2, 1) := by decide +kernel
theorem dX6_firstTried_5 : decode cX6_firstTried 5 = .ok (.iload_n 2, 1) := by decide +kernel
theorem dX6_firstTried_6 : decode cX6_firstTried 6 = .ok (.aload_n 0, 1) := by decide +kernel
theorem dX6_firstTried_7 : decode cX6_firstTried 7 = .ok (.getfield 7, 3) := by decide +kernel
theorem dX6_firstTried_10 : decode cX6_firstTried 10 = .ok (.bipush 22, 2) := by decide +kernel
theorem dX6_firstTried_12 : decode cX6_firstTried 12 = .ok (.iaload, 1) := by decide +kernel
theorem dX6_firstTried_13 : decode cX6_firstTried 13 = .ok (.if_icmp .ge 44, 3) := by decide +kernel
theorem dX6_firstTried_16 : decode cX6_firstTried 16 = .ok (.iload_n 1, 1) := by decide +kernel
theorem dX6_firstTried_17 : decode cX6_firstTried 17 = .ok (.bipush (-4), 2) := by decide +kernel
theorem dX6_firstTried_19 : decode cX6_firstTried 19 = .ok (.if_icmp .eq 26, 3) := by decide +kernel
theorem dX6_firstTried_22 : decode cX6_firstTried 22 = .ok (.aload_n 0, 1) := by decide +kernel
theorem dX6_firstTried_23 : decode cX6_firstTried 23 = .ok (.getfield 7, 3) := by decide +kernel
theorem dX6_firstTried_26 : decode cX6_firstTried 26 = .ok (.sipush 446, 3) := by decide +kernel
theorem dX6_firstTried_29 : decode cX6_firstTried 29 = .ok (.iload_n 2, 1) := by decide +kernel
theorem dX6_firstTried_30 : decode cX6_firstTried 30 = .ok (.iadd, 1) := by decide +kernel
theorem dX6_firstTried_31 : decode cX6_firstTried 31 = .ok (.iaload, 1) := by decide +kernel
theorem dX6_firstTried_32 : decode cX6_firstTried 32 = .ok (.aload_n 0, 1) := by decide +kernel
theorem dX6_firstTried_33 : decode cX6_firstTried 33 = .ok (.getfield 7, 3) := by decide +kernel
theorem dX6_firstTried_36 : decode cX6_firstTried 36 = .ok (.sipush 446, 3) := by decide +kernel
theorem dX6_firstTried_39 : decode cX6_firstTried 39 = .ok (.iload_n 1, 1) := by decide +kernel
theorem dX6_firstTried_40 : decode cX6_firstTried 40 = .ok (.iadd, 1) := by decide +kernel
theorem dX6_firstTried_41 : decode cX6_firstTried 41 = .ok (.iaload, 1) := by decide +kernel
theorem dX6_firstTried_42 : decode cX6_firstTried 42 = .ok (.if_icmp .ge 7, 3) := by decide +kernel
theorem dX6_firstTried_45 : decode cX6_firstTried 45 = .ok (.iload_n 2, 1) := by decide +kernel
theorem dX6_firstTried_46 : decode cX6_firstTried 46 = .ok (.goto 4, 3) := by decide +kernel
theorem dX6_firstTried_49 : decode cX6_firstTried 49 = .ok (.iload_n 1, 1) := by decide +kernel
theorem dX6_firstTried_50 : decode cX6_firstTried 50 = .ok (.istore_n 1, 1) := by decide +kernel
theorem dX6_firstTried_51 : decode cX6_firstTried 51 = .ok (.iinc 2 1, 3) := by decide +kernel
theorem dX6_firstTried_54 : decode cX6_firstTried 54 = .ok (.goto (-49), 3) := by decide +kernel
theorem dX6_firstTried_57 : decode cX6_firstTried 57 = .ok (.iload_n 1, 1) := by decide +kernel
theorem dX6_firstTried_58 : decode cX6_firstTried 58 = .ok (.ireturn, 1) := by decide +kernel
theorem dX6_first_0 : decode cX6_first 0 = .ok (.aload_n 0, 1) := by decide +kernel
theorem dX6_first_1 : decode cX6_first 1 = .ok (.invokevirtual 156, 3) := by decide +kernel
theorem dX6_first_4 : decode cX6_first 4 = .ok (.aload_n 0, 1) := by decide +kernel
theorem dX6_first_5 : decode cX6_first 5 = .ok (.invokevirtual 159, 3) := by decide +kernel
theorem dX6_first_8 : decode cX6_first 8 = .ok (.ireturn, 1) := by decide +kernel
theorem dX6_caught_0 : decode cX6_caught 0 = .ok (.aload_n 0, 1) := by decide +kernel
theorem dX6_caught_1 : decode cX6_caught 1 = .ok (.iload_n 1, 1) := by decide +kernel
theorem dX6_caught_2 : decode cX6_caught 2 = .ok (.iload_n 2, 1) := by decide +kernel
theorem dX6_caught_3 : decode cX6_caught 3 = .ok (.invokevirtual 144, 3) := by decide +kernel
theorem dX6_caught_6 : decode cX6_caught 6 = .ok (.ifCond .ne 5, 3) := by decide +kernel
theorem dX6_caught_9 : decode cX6_caught 9 = .ok (.iconst (-1), 1) := by decide +kernel
theorem dX6_caught_10 : decode cX6_caught 10 = .ok (.ireturn, 1) := by decide +kernel
theorem dX6_caught_11 : decode cX6_caught 11 = .ok (.aload_n 0, 1) := by decide +kernel
theorem dX6_caught_12 : decode cX6_caught 12 = .ok (.invokevirtual 156, 3) := by decide +kernel
theorem dX6_caught_15 : decode cX6_caught 15 = .ok (.aload_n 0, 1) := by decide +kernel
theorem dX6_caught_16 : decode cX6_caught 16 = .ok (.getfield 7, 3) := by decide +kernel
theorem dX6_caught_19 : decode cX6_caught 19 = .ok (.bipush 8, 2) := by decide +kernel
theorem dX6_caught_21 : decode cX6_caught 21 = .ok (.iload_n 1, 1) := by decide +kernel
theorem dX6_caught_22 : decode cX6_caught 22 = .ok (.iadd, 1) := by decide +kernel
theorem dX6_caught_23 : decode cX6_caught 23 = .ok (.iaload, 1) := by decide +kernel
theorem dX6_caught_24 : decode cX6_caught 24 = .ok (.aload_n 0, 1) := by decide +kernel
theorem dX6_caught_25 : decode cX6_caught 25 = .ok (.getfield 7, 3) := by decide +kernel
theorem dX6_caught_28 : decode cX6_caught 28 = .ok (.bipush 8, 2) := by decide +kernel
theorem dX6_caught_30 : decode cX6_caught 30 = .ok (.iload_n 2, 1) := by decide +kernel
theorem dX6_caught_31 : decode cX6_caught 31 = .ok (.iadd, 1) := by decide +kernel
theorem dX6_caught_32 : decode cX6_caught 32 = .ok (.iaload, 1) := by decide +kernel
theorem dX6_caught_33 : decode cX6_caught 33 = .ok (.if_icmp .le 15, 3) := by decide +kernel
theorem dX6_caught_36 : decode cX6_caught 36 = .ok (.aload_n 0, 1) := by decide +kernel
theorem dX6_caught_37 : decode cX6_caught 37 = .ok (.getfield 7, 3) := by decide +kernel
theorem dX6_caught_40 : decode cX6_caught 40 = .ok (.bipush 8, 2) := by decide +kernel
theorem dX6_caught_42 : decode cX6_caught 42 = .ok (.iload_n 1, 1) := by decide +kernel
theorem dX6_caught_43 : decode cX6_caught 43 = .ok (.iadd, 1) := by decide +kernel
theorem dX6_caught_44 : decode cX6_caught 44 = .ok (.iaload, 1) := by decide +kernel
theorem dX6_caught_45 : decode cX6_caught 45 = .ok (.goto 12, 3) := by decide +kernel
theorem dX6_caught_48 : decode cX6_caught 48 = .ok (.aload_n 0, 1) := by decide +kernel
theorem dX6_caught_49 : decode cX6_caught 49 = .ok (.getfield 7, 3) := by decide +kernel
theorem dX6_caught_52 : decode cX6_caught 52 = .ok (.bipush 8, 2) := by decide +kernel
theorem dX6_caught_54 : decode cX6_caught 54 = .ok (.iload_n 2, 1) := by decide +kernel
theorem dX6_caught_55 : decode cX6_caught 55 = .ok (.iadd, 1) := by decide +kernel
theorem dX6_caught_56 : decode cX6_caught 56 = .ok (.iaload, 1) := by decide +kernel
theorem dX6_caught_57 : decode cX6_caught 57 = .ok (.istore_n 3, 1) := by decide +kernel
theorem dX6_caught_58 : decode cX6_caught 58 = .ok (.iload_n 3, 1) := by decide +kernel
theorem dX6_caught_59 : decode cX6_caught 59 = .ok (.iconst 1, 1) := by decide +kernel
theorem dX6_caught_60 : decode cX6_caught 60 = .ok (.if_icmp .ge 7, 3) := by decide +kernel
theorem dX6_caught_63 : decode cX6_caught 63 = .ok (.iconst 1, 1) := by decide +kernel
theorem dX6_caught_64 : decode cX6_caught 64 = .ok (.goto 4, 3) := by decide +kernel
theorem dX6_caught_67 : decode cX6_caught 67 = .ok (.iload_n 3, 1) := by decide +kernel
theorem dX6_caught_68 : decode cX6_caught 68 = .ok (.istore 4, 2) := by decide +kernel
theorem dX6_caught_70 : decode cX6_caught 70 = .ok (.iload 4, 2) := by decide +kernel
theorem dX6_caught_72 : decode cX6_caught 72 = .ok (.aload_n 0, 1) := by decide +kernel
theorem dX6_caught_73 : decode cX6_caught 73 = .ok (.getfield 7, 3) := by decide +kernel
theorem dX6_caught_76 : decode cX6_caught 76 = .ok (.bipush 21, 2) := by decide +kernel
theorem dX6_caught_78 : decode cX6_caught 78 = .ok (.iaload, 1) := by decide +kernel
theorem dX6_caught_79 : decode cX6_caught 79 = .ok (.if_icmp .gt 39, 3) := by decide +kernel
theorem dX6_caught_82 : decode cX6_caught 82 = .ok (.aload_n 0, 1) := by decide +kernel
theorem dX6_caught_83 : decode cX6_caught 83 = .ok (.getfield 26, 3) := by decide +kernel
theorem dX6_caught_86 : decode cX6_caught 86 = .ok (.bipush 9, 2) := by decide +kernel
theorem dX6_caught_88 : decode cX6_caught 88 = .ok (.iload_n 2, 1) := by decide +kernel
theorem dX6_caught_89 : decode cX6_caught 89 = .ok (.imul, 1) := by decide +kernel
theorem dX6_caught_90 : decode cX6_caught 90 = .ok (.iload 4, 2) := by decide +kernel
theorem dX6_caught_92 : decode cX6_caught 92 = .ok (.iadd, 1) := by decide +kernel
theorem dX6_caught_93 : decode cX6_caught 93 = .ok (.iaload, 1) := by decide +kernel
theorem dX6_caught_94 : decode cX6_caught 94 = .ok (.aload_n 0, 1) := by decide +kernel
theorem dX6_caught_95 : decode cX6_caught 95 = .ok (.getfield 26, 3) := by decide +kernel
theorem dX6_caught_98 : decode cX6_caught 98 = .ok (.bipush 9, 2) := by decide +kernel
theorem dX6_caught_100 : decode cX6_caught 100 = .ok (.iload_n 1, 1) := by decide +kernel
theorem dX6_caught_101 : decode cX6_caught 101 = .ok (.imul, 1) := by decide +kernel
theorem dX6_caught_102 : decode cX6_caught 102 = .ok (.iload 4, 2) := by decide +kernel
theorem dX6_caught_104 : decode cX6_caught 104 = .ok (.iadd, 1) := by decide +kernel
theorem dX6_caught_105 : decode cX6_caught 105 = .ok (.iaload, 1) := by decide +kernel
theorem dX6_caught_106 : decode cX6_caught 106 = .ok (.if_icmp .gt 6, 3) := by decide +kernel
theorem dX6_caught_109 : decode cX6_caught 109 = .ok (.iload 4, 2) := by decide +kernel
theorem dX6_caught_111 : decode cX6_caught 111 = .ok (.ireturn, 1) := by decide +kernel
theorem dX6_caught_112 : decode cX6_caught 112 = .ok (.iinc 4 1, 3) := by decide +kernel
theorem dX6_caught_115 : decode cX6_caught 115 = .ok (.goto (-45), 3) := by decide +kernel
theorem dX6_caught_118 : decode cX6_caught 118 = .ok (.bipush (-4), 2) := by decide +kernel
theorem dX6_caught_120 : decode cX6_caught 120 = .ok (.ireturn, 1) := by decide +kernel
theorem dX6_best_0 : decode cX6_best 0 = .ok (.aload_n 0, 1) := by decide +kernel
theorem dX6_best_1 : decode cX6_best 1 = .ok (.iload_n 1, 1) := by decide +kernel
theorem dX6_best_2 : decode cX6_best 2 = .ok (.invokevirtual 42, 3) := by decide +kernel
theorem dX6_best_5 : decode cX6_best 5 = .ok (.ifCond .eq 13, 3) := by decide +kernel
theorem dX6_best_8 : decode cX6_best 8 = .ok (.iload_n 2, 1) := by decide +kernel
theorem dX6_best_9 : decode cX6_best 9 = .ok (.i2l, 1) := by decide +kernel
theorem dX6_best_10 : decode cX6_best 10 = .ok (.lconst 0, 1) := by decide +kernel
theorem dX6_best_11 : decode cX6_best 11 = .ok (.lconst 1, 1) := by decide +kernel
theorem dX6_best_12 : decode cX6_best 12 = .ok (.invokestatic 38, 3) := by decide +kernel
theorem dX6_best_15 : decode cX6_best 15 = .ok (.ifCond .ne 5, 3) := by decide +kernel
theorem dX6_best_18 : decode cX6_best 18 = .ok (.iconst (-1), 1) := by decide +kernel
theorem dX6_best_19 : decode cX6_best 19 = .ok (.ireturn, 1) := by decide +kernel
theorem dX6_best_20 : decode cX6_best 20 = .ok (.iconst 0, 1) := by decide +kernel
theorem dX6_best_21 : decode cX6_best 21 = .ok (.istore_n 3, 1) := by decide +kernel
theorem dX6_best_22 : decode cX6_best 22 = .ok (.ldc 162, 2) := by decide +kernel
theorem dX6_best_24 : decode cX6_best 24 = .ok (.istore 4, 2) := by decide +kernel
theorem dX6_best_26 : decode cX6_best 26 = .ok (.iconst 0, 1) := by decide +kernel
theorem dX6_best_27 : decode cX6_best 27 = .ok (.istore 5, 2) := by decide +kernel
theorem dX6_best_29 : decode cX6_best 29 = .ok (.iload 5, 2) := by decide +kernel
theorem dX6_best_31 : decode cX6_best 31 = .ok (.iconst 1, 1) := by decide +kernel
theorem dX6_best_32 : decode cX6_best 32 = .ok (.aload_n 0, 1) := by decide +kernel
theorem dX6_best_33 : decode cX6_best 33 = .ok (.getfield 7, 3) := by decide +kernel
theorem dX6_best_36 : decode cX6_best 36 = .ok (.bipush 21, 2) := by decide +kernel
theorem dX6_best_38 : decode cX6_best 38 = .ok (.iaload, 1) := by decide +kernel
theorem dX6_best_39 : decode cX6_best 39 = .ok (.ishl, 1) := by decide +kernel
theorem dX6_best_40 : decode cX6_best 40 = .ok (.if_icmp .ge 103, 3) := by decide +kernel
theorem dX6_best_43 : decode cX6_best 43 = .ok (.aload_n 0, 1) := by decide +kernel
theorem dX6_best_44 : decode cX6_best 44 = .ok (.invokevirtual 150, 3) := by decide +kernel
theorem dX6_best_47 : decode cX6_best 47 = .ok (.aload_n 0, 1) := by decide +kernel
theorem dX6_best_48 : decode cX6_best 48 = .ok (.getfield 7, 3) := by decide +kernel
theorem dX6_best_51 : decode cX6_best 51 = .ok (.sipush 478, 3) := by decide +kernel
theorem dX6_best_54 : decode cX6_best 54 = .ok (.iload_n 1, 1) := by decide +kernel
theorem dX6_best_55 : decode cX6_best 55 = .ok (.iadd, 1) := by decide +kernel
theorem dX6_best_56 : decode cX6_best 56 = .ok (.iload 5, 2) := by decide +kernel
theorem dX6_best_58 : decode cX6_best 58 = .ok (.iastore, 1) := by decide +kernel
theorem dX6_best_59 : decode cX6_best 59 = .ok (.aload_n 0, 1) := by decide +kernel
theorem dX6_best_60 : decode cX6_best 60 = .ok (.bipush (-4), 2) := by decide +kernel
theorem dX6_best_62 : decode cX6_best 62 = .ok (.iconst 0, 1) := by decide +kernel
theorem dX6_best_63 : decode cX6_best 63 = .ok (.invokevirtual 153, 3) := by decide +kernel
theorem dX6_best_66 : decode cX6_best 66 = .ok (.aload_n 0, 1) := by decide +kernel
theorem dX6_best_67 : decode cX6_best 67 = .ok (.getfield 7, 3) := by decide +kernel
theorem dX6_best_70 : decode cX6_best 70 = .ok (.sipush 446, 3) := by decide +kernel
theorem dX6_best_73 : decode cX6_best 73 = .ok (.iload_n 1, 1) := by decide +kernel
theorem dX6_best_74 : decode cX6_best 74 = .ok (.iadd, 1) := by decide +kernel
theorem dX6_best_75 : decode cX6_best 75 = .ok (.iaload, 1) := by decide +kernel
theorem dX6_best_76 : decode cX6_best 76 = .ok (.istore 6, 2) := by decide +kernel
theorem dX6_best_78 : decode cX6_best 78 = .ok (.iload 6, 2) := by decide +kernel
theorem dX6_best_80 : decode cX6_best 80 = .ok (.iload 4, 2) := by decide +kernel
theorem dX6_best_82 : decode cX6_best 82 = .ok (.if_icmp .lt 22, 3) := by decide +kernel
theorem dX6_best_85 : decode cX6_best 85 = .ok (.iload 6, 2) := by decide +kernel
theorem dX6_best_87 : decode cX6_best 87 = .ok (.iload 4, 2) := by decide +kernel
theorem dX6_best_89 : decode cX6_best 89 = .ok (.if_icmp .ne 19, 3) := by decide +kernel
theorem dX6_best_92 : decode cX6_best 92 = .ok (.iload 5, 2) := by decide +kernel
theorem dX6_best_94 : decode cX6_best 94 = .ok (.invokestatic 163, 3) := by decide +kernel
theorem dX6_best_97 : decode cX6_best 97 = .ok (.iload_n 3, 1) := by decide +kernel
theorem dX6_best_98 : decode cX6_best 98 = .ok (.invokestatic 163, 3) := by decide +kernel
theorem dX6_best_101 : decode cX6_best 101 = .ok (.if_icmp .ge 7, 3) := by decide +kernel
theorem dX6_best_104 : decode cX6_best 104 = .ok (.iconst 1, 1) := by decide +kernel
theorem dX6_best_105 : decode cX6_best 105 = .ok (.goto 4, 3) := by decide +kernel
theorem dX6_best_108 : decode cX6_best 108 = .ok (.iconst 0, 1) := by decide +kernel
theorem dX6_best_109 : decode cX6_best 109 = .ok (.istore 7, 2) := by decide +kernel
theorem dX6_best_111 : decode cX6_best 111 = .ok (.iload 7, 2) := by decide +kernel
theorem dX6_best_113 : decode cX6_best 113 = .ok (.ifCond .eq 8, 3) := by decide +kernel
theorem dX6_best_116 : decode cX6_best 116 = .ok (.iload 5, 2) := by decide +kernel
theorem dX6_best_118 : decode cX6_best 118 = .ok (.goto 4, 3) := by decide +kernel
theorem dX6_best_121 : decode cX6_best 121 = .ok (.iload_n 3, 1) := by decide +kernel
theorem dX6_best_122 : decode cX6_best 122 = .ok (.istore_n 3, 1) := by decide +kernel
theorem dX6_best_123 : decode cX6_best 123 = .ok (.iload 7, 2) := by decide +kernel
theorem dX6_best_125 : decode cX6_best 125 = .ok (.ifCond .eq 8, 3) := by decide +kernel
theorem dX6_best_128 : decode cX6_best 128 = .ok (.iload 6, 2) := by decide +kernel
theorem dX6_best_130 : decode cX6_best 130 = .ok (.goto 5, 3) := by decide +kernel
theorem dX6_best_133 : decode cX6_best 133 = .ok (.iload 4, 2) := by decide +kernel
theorem dX6_best_135 : decode cX6_best 135 = .ok (.istore 4, 2) := by decide +kernel
theorem dX6_best_137 : decode cX6_best 137 = .ok (.iinc 5 1, 3) := by decide +kernel
theorem dX6_best_140 : decode cX6_best 140 = .ok (.goto (-111), 3) := by decide +kernel
theorem dX6_best_143 : decode cX6_best 143 = .ok (.iload_n 2, 1) := by decide +kernel
theorem dX6_best_144 : decode cX6_best 144 = .ok (.ifCond .ne 7, 3) := by decide +kernel
theorem dX6_best_147 : decode cX6_best 147 = .ok (.iload_n 3, 1) := by decide +kernel
theorem dX6_best_148 : decode cX6_best 148 = .ok (.goto 5, 3) := by decide +kernel
theorem dX6_best_151 : decode cX6_best 151 = .ok (.iload 4, 2) := by decide +kernel
theorem dX6_best_153 : decode cX6_best 153 = .ok (.ireturn, 1) := by decide +kernel
theorem dX6_earlier_0 : decode cX6_earlier 0 = .ok (.aload_n 0, 1) := by decide +kernel
theorem dX6_earlier_1 : decode cX6_earlier 1 = .ok (.iload_n 1, 1) := by decide +kernel
theorem dX6_earlier_2 : decode cX6_earlier 2 = .ok (.iload_n 2, 1) := by decide +kernel
theorem dX6_earlier_3 : decode cX6_earlier 3 = .ok (.invokevirtual 144, 3) := by decide +kernel
theorem dX6_earlier_6 : decode cX6_earlier 6 = .ok (.ifCond .ne 5, 3) := by decide +kernel
theorem dX6_earlier_9 : decode cX6_earlier 9 = .ok (.iconst (-1), 1) := by decide +kernel
theorem dX6_earlier_10 : decode cX6_earlier 10 = .ok (.ireturn, 1) := by decide +kernel
theorem dX6_earlier_11 : decode cX6_earlier 11 = .ok (.iconst 0, 1) := by decide +kernel
theorem dX6_earlier_12 : decode cX6_earlier 12 = .ok (.istore_n 3, 1) := by decide +kernel
theorem dX6_earlier_13 : decode cX6_earlier 13 = .ok (.iload_n 3, 1) := by decide +kernel
theorem dX6_earlier_14 : decode cX6_earlier 14 = .ok (.sipush 300, 3) := by decide +kernel
theorem dX6_earlier_17 : decode cX6_earlier 17 = .ok (.if_icmp .gt 72, 3) := by decide +kernel
theorem dX6_earlier_20 : decode cX6_earlier 20 = .ok (.iload_n 3, 1) := by decide +kernel
theorem dX6_earlier_21 : decode cX6_earlier 21 = .ok (.aload_n 0, 1) := by decide +kernel
theorem dX6_earlier_22 : decode cX6_earlier 22 = .ok (.getfield 7, 3) := by decide +kernel
theorem dX6_earlier_25 : decode cX6_earlier 25 = .ok (.bipush 12, 2) := by decide +kernel
theorem dX6_earlier_27 : decode cX6_earlier 27 = .ok (.iload_n 1, 1) := by decide +kernel
theorem dX6_earlier_28 : decode cX6_earlier 28 = .ok (.iadd, 1) := by decide +kernel
theorem dX6_earlier_29 : decode cX6_earlier 29 = .ok (.iaload, 1) := by decide +kernel
theorem dX6_earlier_30 : decode cX6_earlier 30 = .ok (.if_icmp .gt 59, 3) := by decide +kernel
theorem dX6_earlier_33 : decode cX6_earlier 33 = .ok (.aload_n 0, 1) := by decide +kernel
theorem dX6_earlier_34 : decode cX6_earlier 34 = .ok (.invokevirtual 150, 3) := by decide +kernel
theorem dX6_earlier_37 : decode cX6_earlier 37 = .ok (.aload_n 0, 1) := by decide +kernel
theorem dX6_earlier_38 : decode cX6_earlier 38 = .ok (.getfield 7, 3) := by decide +kernel
theorem dX6_earlier_41 : decode cX6_earlier 41 = .ok (.sipush 446, 3) := by decide +kernel
theorem dX6_earlier_44 : decode cX6_earlier 44 = .ok (.iload_n 1, 1) := by decide +kernel
theorem dX6_earlier_45 : decode cX6_earlier 45 = .ok (.iadd, 1) := by decide +kernel
theorem dX6_earlier_46 : decode cX6_earlier 46 = .ok (.dup2, 1) := by decide +kernel
theorem dX6_earlier_47 : decode cX6_earlier 47 = .ok (.iaload, 1) := by decide +kernel
theorem dX6_earlier_48 : decode cX6_earlier 48 = .ok (.iload_n 3, 1) := by decide +kernel
theorem dX6_earlier_49 : decode cX6_earlier 49 = .ok (.isub, 1) := by decide +kernel
theorem dX6_earlier_50 : decode cX6_earlier 50 = .ok (.iastore, 1) := by decide +kernel
theorem dX6_earlier_51 : decode cX6_earlier 51 = .ok (.aload_n 0, 1) := by decide +kernel
theorem dX6_earlier_52 : decode cX6_earlier 52 = .ok (.bipush (-4), 2) := by decide +kernel
theorem dX6_earlier_54 : decode cX6_earlier 54 = .ok (.iconst 0, 1) := by decide +kernel
theorem dX6_earlier_55 : decode cX6_earlier 55 = .ok (.invokevirtual 153, 3) := by decide +kernel
theorem dX6_earlier_58 : decode cX6_earlier 58 = .ok (.aload_n 0, 1) := by decide +kernel
theorem dX6_earlier_59 : decode cX6_earlier 59 = .ok (.getfield 7, 3) := by decide +kernel
theorem dX6_earlier_62 : decode cX6_earlier 62 = .ok (.sipush 446, 3) := by decide +kernel
theorem dX6_earlier_65 : decode cX6_earlier 65 = .ok (.iload_n 1, 1) := by decide +kernel
theorem dX6_earlier_66 : decode cX6_earlier 66 = .ok (.iadd, 1) := by decide +kernel
theorem dX6_earlier_67 : decode cX6_earlier 67 = .ok (.iaload, 1) := by decide +kernel
theorem dX6_earlier_68 : decode cX6_earlier 68 = .ok (.aload_n 0, 1) := by decide +kernel
theorem dX6_earlier_69 : decode cX6_earlier 69 = .ok (.getfield 7, 3) := by decide +kernel
theorem dX6_earlier_72 : decode cX6_earlier 72 = .ok (.sipush 446, 3) := by decide +kernel
theorem dX6_earlier_75 : decode cX6_earlier 75 = .ok (.iload_n 2, 1) := by decide +kernel
theorem dX6_earlier_76 : decode cX6_earlier 76 = .ok (.iadd, 1) := by decide +kernel
theorem dX6_earlier_77 : decode cX6_earlier 77 = .ok (.iaload, 1) := by decide +kernel
theorem dX6_earlier_78 : decode cX6_earlier 78 = .ok (.if_icmp .ge 5, 3) := by decide +kernel
theorem dX6_earlier_81 : decode cX6_earlier 81 = .ok (.iload_n 3, 1) := by decide +kernel
theorem dX6_earlier_82 : decode cX6_earlier 82 = .ok (.ireturn, 1) := by decide +kernel
theorem dX6_earlier_83 : decode cX6_earlier 83 = .ok (.iinc 3 1, 3) := by decide +kernel
theorem dX6_earlier_86 : decode cX6_earlier 86 = .ok (.goto (-73), 3) := by decide +kernel
theorem dX6_earlier_89 : decode cX6_earlier 89 = .ok (.bipush (-4), 2) := by decide +kernel
theorem dX6_earlier_91 : decode cX6_earlier 91 = .ok (.ireturn, 1) := by decide +kernel
theorem dX6_purse_0 : decode cX6_purse 0 = .ok (.aload_n 0, 1) := by decide +kernel
theorem dX6_purse_1 : decode cX6_purse 1 = .ok (.iload_n 1, 1) := by decide +kernel
theorem dX6_purse_2 : decode cX6_purse 2 = .ok (.invokevirtual 42, 3) := by decide +kernel
theorem dX6_purse_5 : decode cX6_purse 5 = .ok (.ifCond .eq 15, 3) := by decide +kernel
theorem dX6_purse_8 : decode cX6_purse 8 = .ok (.iload_n 2, 1) := by decide +kernel
theorem dX6_purse_9 : decode cX6_purse 9 = .ok (.i2l, 1) := by decide +kernel
theorem dX6_purse_10 : decode cX6_purse 10 = .ok (.lconst 0, 1) := by decide +kernel
theorem dX6_purse_11 : decode cX6_purse 11 = .ok (.ldc2_w 166, 3) := by decide +kernel
theorem dX6_purse_14 : decode cX6_purse 14 = .ok (.invokestatic 38, 3) := by decide +kernel
theorem dX6_purse_17 : decode cX6_purse 17 = .ok (.ifCond .ne 5, 3) := by decide +kernel
theorem dX6_purse_20 : decode cX6_purse 20 = .ok (.iconst (-1), 1) := by decide +kernel
theorem dX6_purse_21 : decode cX6_purse 21 = .ok (.ireturn, 1) := by decide +kernel
theorem dX6_purse_22 : decode cX6_purse 22 = .ok (.iconst 0, 1) := by decide +kernel
theorem dX6_purse_23 : decode cX6_purse 23 = .ok (.istore_n 3, 1) := by decide +kernel
theorem dX6_purse_24 : decode cX6_purse 24 = .ok (.iload_n 3, 1) := by decide +kernel
theorem dX6_purse_25 : decode cX6_purse 25 = .ok (.bipush 100, 2) := by decide +kernel
theorem dX6_purse_27 : decode cX6_purse 27 = .ok (.if_icmp .ge 47, 3) := by decide +kernel
theorem dX6_purse_30 : decode cX6_purse 30 = .ok (.aload_n 0, 1) := by decide +kernel
theorem dX6_purse_31 : decode cX6_purse 31 = .ok (.invokevirtual 150, 3) := by decide +kernel
theorem dX6_purse_34 : decode cX6_purse 34 = .ok (.aload_n 0, 1) := by decide +kernel
theorem dX6_purse_35 : decode cX6_purse 35 = .ok (.getfield 7, 3) := by decide +kernel
theorem dX6_purse_38 : decode cX6_purse 38 = .ok (.sipush 450, 3) := by decide +kernel
theorem dX6_purse_41 : decode cX6_purse 41 = .ok (.iload_n 1, 1) := by decide +kernel
theorem dX6_purse_42 : decode cX6_purse 42 = .ok (.iadd, 1) := by decide +kernel
theorem dX6_purse_43 : decode cX6_purse 43 = .ok (.iload_n 3, 1) := by decide +kernel
theorem dX6_purse_44 : decode cX6_purse 44 = .ok (.iastore, 1) := by decide +kernel
theorem dX6_purse_45 : decode cX6_purse 45 = .ok (.aload_n 0, 1) := by decide +kernel
theorem dX6_purse_46 : decode cX6_purse 46 = .ok (.bipush (-4), 2) := by decide +kernel
theorem dX6_purse_48 : decode cX6_purse 48 = .ok (.iconst 0, 1) := by decide +kernel
theorem dX6_purse_49 : decode cX6_purse 49 = .ok (.invokevirtual 153, 3) := by decide +kernel
theorem dX6_purse_52 : decode cX6_purse 52 = .ok (.aload_n 0, 1) := by decide +kernel
theorem dX6_purse_53 : decode cX6_purse 53 = .ok (.getfield 7, 3) := by decide +kernel
theorem dX6_purse_56 : decode cX6_purse 56 = .ok (.sipush 446, 3) := by decide +kernel
theorem dX6_purse_59 : decode cX6_purse 59 = .ok (.iload_n 1, 1) := by decide +kernel
theorem dX6_purse_60 : decode cX6_purse 60 = .ok (.iadd, 1) := by decide +kernel
theorem dX6_purse_61 : decode cX6_purse 61 = .ok (.iaload, 1) := by decide +kernel
theorem dX6_purse_62 : decode cX6_purse 62 = .ok (.iload_n 2, 1) := by decide +kernel
theorem dX6_purse_63 : decode cX6_purse 63 = .ok (.if_icmp .gt 5, 3) := by decide +kernel
theorem dX6_purse_66 : decode cX6_purse 66 = .ok (.iload_n 3, 1) := by decide +kernel
theorem dX6_purse_67 : decode cX6_purse 67 = .ok (.ireturn, 1) := by decide +kernel
theorem dX6_purse_68 : decode cX6_purse 68 = .ok (.iinc 3 1, 3) := by decide +kernel
theorem dX6_purse_71 : decode cX6_purse 71 = .ok (.goto (-47), 3) := by decide +kernel
theorem dX6_purse_74 : decode cX6_purse 74 = .ok (.bipush (-4), 2) := by decide +kernel
theorem dX6_purse_76 : decode cX6_purse 76 = .ok (.ireturn, 1) := by decide +kernel
theorem dX6_loosened_0 : decode cX6_loosened 0 = .ok (.aload_n 0, 1) := by decide +kernel
theorem dX6_loosened_1 : decode cX6_loosened 1 = .ok (.iload_n 1, 1) := by decide +kernel
theorem dX6_loosened_2 : decode cX6_loosened 2 = .ok (.invokevirtual 42, 3) := by decide +kernel
theorem dX6_loosened_5 : decode cX6_loosened 5 = .ok (.ifCond .eq 13, 3) := by decide +kernel
theorem dX6_loosened_8 : decode cX6_loosened 8 = .ok (.iload_n 2, 1) := by decide +kernel
theorem dX6_loosened_9 : decode cX6_loosened 9 = .ok (.i2l, 1) := by decide +kernel
theorem dX6_loosened_10 : decode cX6_loosened 10 = .ok (.lconst 0, 1) := by decide +kernel
theorem dX6_loosened_11 : decode cX6_loosened 11 = .ok (.lconst 1, 1) := by decide +kernel
theorem dX6_loosened_12 : decode cX6_loosened 12 = .ok (.invokestatic 38, 3) := by decide +kernel
theorem dX6_loosened_15 : decode cX6_loosened 15 = .ok (.ifCond .ne 5, 3) := by decide +kernel
theorem dX6_loosened_18 : decode cX6_loosened 18 = .ok (.iconst (-1), 1) := by decide +kernel
theorem dX6_loosened_19 : decode cX6_loosened 19 = .ok (.ireturn, 1) := by decide +kernel
theorem dX6_loosened_20 : decode cX6_loosened 20 = .ok (.bipush (-4), 2) := by decide +kernel
theorem dX6_loosened_22 : decode cX6_loosened 22 = .ok (.istore_n 3, 1) := by decide +kernel
theorem dX6_loosened_23 : decode cX6_loosened 23 = .ok (.bipush (-4), 2) := by decide +kernel
theorem dX6_loosened_25 : decode cX6_loosened 25 = .ok (.istore 4, 2) := by decide +kernel
theorem dX6_loosened_27 : decode cX6_loosened 27 = .ok (.aload_n 0, 1) := by decide +kernel
theorem dX6_loosened_28 : decode cX6_loosened 28 = .ok (.getfield 7, 3) := by decide +kernel
theorem dX6_loosened_31 : decode cX6_loosened 31 = .ok (.bipush 8, 2) := by decide +kernel
theorem dX6_loosened_33 : decode cX6_loosened 33 = .ok (.iload_n 1, 1) := by decide +kernel
theorem dX6_loosened_34 : decode cX6_loosened 34 = .ok (.iadd, 1) := by decide +kernel
theorem dX6_loosened_35 : decode cX6_loosened 35 = .ok (.iaload, 1) := by decide +kernel
theorem dX6_loosened_36 : decode cX6_loosened 36 = .ok (.istore 5, 2) := by decide +kernel
theorem dX6_loosened_38 : decode cX6_loosened 38 = .ok (.iload 5, 2) := by decide +kernel
theorem dX6_loosened_40 : decode cX6_loosened 40 = .ok (.aload_n 0, 1) := by decide +kernel
theorem dX6_loosened_41 : decode cX6_loosened 41 = .ok (.getfield 7, 3) := by decide +kernel
theorem dX6_loosened_44 : decode cX6_loosened 44 = .ok (.bipush 21, 2) := by decide +kernel
theorem dX6_loosened_46 : decode cX6_loosened 46 = .ok (.iaload, 1) := by decide +kernel
theorem dX6_loosened_47 : decode cX6_loosened 47 = .ok (.if_icmp .ge 70, 3) := by decide +kernel
theorem dX6_loosened_50 : decode cX6_loosened 50 = .ok (.aload_n 0, 1) := by decide +kernel
theorem dX6_loosened_51 : decode cX6_loosened 51 = .ok (.invokevirtual 150, 3) := by decide +kernel
theorem dX6_loosened_54 : decode cX6_loosened 54 = .ok (.aload_n 0, 1) := by decide +kernel
theorem dX6_loosened_55 : decode cX6_loosened 55 = .ok (.iload_n 1, 1) := by decide +kernel
theorem dX6_loosened_56 : decode cX6_loosened 56 = .ok (.iconst 1, 1) := by decide +kernel
theorem dX6_loosened_57 : decode cX6_loosened 57 = .ok (.iload 5, 2) := by decide +kernel
theorem dX6_loosened_59 : decode cX6_loosened 59 = .ok (.ishl, 1) := by decide +kernel
theorem dX6_loosened_60 : decode cX6_loosened 60 = .ok (.invokevirtual 153, 3) := by decide +kernel
theorem dX6_loosened_63 : decode cX6_loosened 63 = .ok (.aload_n 0, 1) := by decide +kernel
theorem dX6_loosened_64 : decode cX6_loosened 64 = .ok (.getfield 7, 3) := by decide +kernel
theorem dX6_loosened_67 : decode cX6_loosened 67 = .ok (.sipush 446, 3) := by decide +kernel
theorem dX6_loosened_70 : decode cX6_loosened 70 = .ok (.iload_n 1, 1) := by decide +kernel
theorem dX6_loosened_71 : decode cX6_loosened 71 = .ok (.iadd, 1) := by decide +kernel
theorem dX6_loosened_72 : decode cX6_loosened 72 = .ok (.iaload, 1) := by decide +kernel
theorem dX6_loosened_73 : decode cX6_loosened 73 = .ok (.istore 6, 2) := by decide +kernel
theorem dX6_loosened_75 : decode cX6_loosened 75 = .ok (.iload_n 3, 1) := by decide +kernel
theorem dX6_loosened_76 : decode cX6_loosened 76 = .ok (.bipush (-4), 2) := by decide +kernel
theorem dX6_loosened_78 : decode cX6_loosened 78 = .ok (.if_icmp .eq 10, 3) := by decide +kernel
theorem dX6_loosened_81 : decode cX6_loosened 81 = .ok (.iload 6, 2) := by decide +kernel
theorem dX6_loosened_83 : decode cX6_loosened 83 = .ok (.iload 4, 2) := by decide +kernel
theorem dX6_loosened_85 : decode cX6_loosened 85 = .ok (.if_icmp .le 8, 3) := by decide +kernel
theorem dX6_loosened_88 : decode cX6_loosened 88 = .ok (.iload 5, 2) := by decide +kernel
theorem dX6_loosened_90 : decode cX6_loosened 90 = .ok (.goto 4, 3) := by decide +kernel
theorem dX6_loosened_93 : decode cX6_loosened 93 = .ok (.iload_n 3, 1) := by decide +kernel
theorem dX6_loosened_94 : decode cX6_loosened 94 = .ok (.istore_n 3, 1) := by decide +kernel
theorem dX6_loosened_95 : decode cX6_loosened 95 = .ok (.iload 6, 2) := by decide +kernel
theorem dX6_loosened_97 : decode cX6_loosened 97 = .ok (.iload 4, 2) := by decide +kernel
theorem dX6_loosened_99 : decode cX6_loosened 99 = .ok (.if_icmp .le 8, 3) := by decide +kernel
theorem dX6_loosened_102 : decode cX6_loosened 102 = .ok (.iload 6, 2) := by decide +kernel
theorem dX6_loosened_104 : decode cX6_loosened 104 = .ok (.goto 5, 3) := by decide +kernel
theorem dX6_loosened_107 : decode cX6_loosened 107 = .ok (.iload 4, 2) := by decide +kernel
theorem dX6_loosened_109 : decode cX6_loosened 109 = .ok (.istore 4, 2) := by decide +kernel
theorem dX6_loosened_111 : decode cX6_loosened 111 = .ok (.iinc 5 1, 3) := by decide +kernel
theorem dX6_loosened_114 : decode cX6_loosened 114 = .ok (.goto (-76), 3) := by decide +kernel
theorem dX6_loosened_117 : decode cX6_loosened 117 = .ok (.iload_n 2, 1) := by decide +kernel
theorem dX6_loosened_118 : decode cX6_loosened 118 = .ok (.ifCond .ne 7, 3) := by decide +kernel
theorem dX6_loosened_121 : decode cX6_loosened 121 = .ok (.iload_n 3, 1) := by decide +kernel
theorem dX6_loosened_122 : decode cX6_loosened 122 = .ok (.goto 5, 3) := by decide +kernel
theorem dX6_loosened_125 : decode cX6_loosened 125 = .ok (.iload 4, 2) := by decide +kernel
theorem dX6_loosened_127 : decode cX6_loosened 127 = .ok (.ireturn, 1) := by decide +kernel
theorem dX6_layDuel_0 : decode cX6_layDuel 0 = .ok (.iconst 0, 1) := by decide +kernel
theorem dX6_layDuel_1 : decode cX6_layDuel 1 = .ok (.istore_n 3, 1) := by decide +kernel
theorem dX6_layDuel_2 : decode cX6_layDuel 2 = .ok (.iload_n 3, 1) := by decide +kernel
theorem dX6_layDuel_3 : decode cX6_layDuel 3 = .ok (.aload_n 0, 1) := by decide +kernel
theorem dX6_layDuel_4 : decode cX6_layDuel 4 = .ok (.getfield 7, 3) := by decide +kernel
theorem dX6_layDuel_7 : decode cX6_layDuel 7 = .ok (.bipush 21, 2) := by decide +kernel
theorem dX6_layDuel_9 : decode cX6_layDuel 9 = .ok (.iaload, 1) := by decide +kernel
theorem dX6_layDuel_10 : decode cX6_layDuel 10 = .ok (.if_icmp .gt 133, 3) := by decide +kernel
theorem dX6_layDuel_13 : decode cX6_layDuel 13 = .ok (.iconst 0, 1) := by decide +kernel
theorem dX6_layDuel_14 : decode cX6_layDuel 14 = .ok (.istore 4, 2) := by decide +kernel
theorem dX6_layDuel_16 : decode cX6_layDuel 16 = .ok (.iload 4, 2) := by decide +kernel
theorem dX6_layDuel_18 : decode cX6_layDuel 18 = .ok (.aload_n 0, 1) := by decide +kernel
theorem dX6_layDuel_19 : decode cX6_layDuel 19 = .ok (.getfield 7, 3) := by decide +kernel
theorem dX6_layDuel_22 : decode cX6_layDuel 22 = .ok (.bipush 21, 2) := by decide +kernel
theorem dX6_layDuel_24 : decode cX6_layDuel 24 = .ok (.iaload, 1) := by decide +kernel
theorem dX6_layDuel_25 : decode cX6_layDuel 25 = .ok (.if_icmp .gt 112, 3) := by decide +kernel
theorem dX6_layDuel_28 : decode cX6_layDuel 28 = .ok (.aload_n 0, 1) := by decide +kernel
theorem dX6_layDuel_29 : decode cX6_layDuel 29 = .ok (.invokevirtual 150, 3) := by decide +kernel
theorem dX6_layDuel_32 : decode cX6_layDuel 32 = .ok (.aload_n 0, 1) := by decide +kernel
theorem dX6_layDuel_33 : decode cX6_layDuel 33 = .ok (.getfield 7, 3) := by decide +kernel
theorem dX6_layDuel_36 : decode cX6_layDuel 36 = .ok (.sipush 478, 3) := by decide +kernel
theorem dX6_layDuel_39 : decode cX6_layDuel 39 = .ok (.iload_n 1, 1) := by decide +kernel
theorem dX6_layDuel_40 : decode cX6_layDuel 40 = .ok (.iadd, 1) := by decide +kernel
theorem dX6_layDuel_41 : decode cX6_layDuel 41 = .ok (.iload_n 3, 1) := by decide +kernel
theorem dX6_layDuel_42 : decode cX6_layDuel 42 = .ok (.ifCond .ne 7, 3) := by decide +kernel
theorem dX6_layDuel_45 : decode cX6_layDuel 45 = .ok (.iconst 0, 1) := by decide +kernel
theorem dX6_layDuel_46 : decode cX6_layDuel 46 = .ok (.goto 8, 3) := by decide +kernel
theorem dX6_layDuel_49 : decode cX6_layDuel 49 = .ok (.iconst 1, 1) := by decide +kernel
theorem dX6_layDuel_50 : decode cX6_layDuel 50 = .ok (.iload_n 3, 1) := by decide +kernel
theorem dX6_layDuel_51 : decode cX6_layDuel 51 = .ok (.iconst 1, 1) := by decide +kernel
theorem dX6_layDuel_52 : decode cX6_layDuel 52 = .ok (.isub, 1) := by decide +kernel
theorem dX6_layDuel_53 : decode cX6_layDuel 53 = .ok (.ishl, 1) := by decide +kernel
theorem dX6_layDuel_54 : decode cX6_layDuel 54 = .ok (.iastore, 1) := by decide +kernel
theorem dX6_layDuel_55 : decode cX6_layDuel 55 = .ok (.aload_n 0, 1) := by decide +kernel
theorem dX6_layDuel_56 : decode cX6_layDuel 56 = .ok (.getfield 7, 3) := by decide +kernel
theorem dX6_layDuel_59 : decode cX6_layDuel 59 = .ok (.sipush 478, 3) := by decide +kernel
theorem dX6_layDuel_62 : decode cX6_layDuel 62 = .ok (.iload_n 2, 1) := by decide +kernel
theorem dX6_layDuel_63 : decode cX6_layDuel 63 = .ok (.iadd, 1) := by decide +kernel
theorem dX6_layDuel_64 : decode cX6_layDuel 64 = .ok (.iload 4, 2) := by decide +kernel
theorem dX6_layDuel_66 : decode cX6_layDuel 66 = .ok (.ifCond .ne 7, 3) := by decide +kernel
theorem dX6_layDuel_69 : decode cX6_layDuel 69 = .ok (.iconst 0, 1) := by decide +kernel
theorem dX6_layDuel_70 : decode cX6_layDuel 70 = .ok (.goto 9, 3) := by decide +kernel
theorem dX6_layDuel_73 : decode cX6_layDuel 73 = .ok (.iconst 1, 1) := by decide +kernel
theorem dX6_layDuel_74 : decode cX6_layDuel 74 = .ok (.iload 4, 2) := by decide +kernel
theorem dX6_layDuel_76 : decode cX6_layDuel 76 = .ok (.iconst 1, 1) := by decide +kernel
theorem dX6_layDuel_77 : decode cX6_layDuel 77 = .ok (.isub, 1) := by decide +kernel
theorem dX6_layDuel_78 : decode cX6_layDuel 78 = .ok (.ishl, 1) := by decide +kernel
theorem dX6_layDuel_79 : decode cX6_layDuel 79 = .ok (.iastore, 1) := by decide +kernel
theorem dX6_layDuel_80 : decode cX6_layDuel 80 = .ok (.aload_n 0, 1) := by decide +kernel
theorem dX6_layDuel_81 : decode cX6_layDuel 81 = .ok (.bipush (-4), 2) := by decide +kernel
theorem dX6_layDuel_83 : decode cX6_layDuel 83 = .ok (.iconst 0, 1) := by decide +kernel
theorem dX6_layDuel_84 : decode cX6_layDuel 84 = .ok (.invokevirtual 153, 3) := by decide +kernel
theorem dX6_layDuel_87 : decode cX6_layDuel 87 = .ok (.aload_n 0, 1) := by decide +kernel
theorem dX6_layDuel_88 : decode cX6_layDuel 88 = .ok (.getfield 29, 3) := by decide +kernel
theorem dX6_layDuel_91 : decode cX6_layDuel 91 = .ok (.bipush 9, 2) := by decide +kernel
theorem dX6_layDuel_93 : decode cX6_layDuel 93 = .ok (.iload_n 3, 1) := by decide +kernel
theorem dX6_layDuel_94 : decode cX6_layDuel 94 = .ok (.imul, 1) := by decide +kernel
theorem dX6_layDuel_95 : decode cX6_layDuel 95 = .ok (.iload 4, 2) := by decide +kernel
theorem dX6_layDuel_97 : decode cX6_layDuel 97 = .ok (.iadd, 1) := by decide +kernel
theorem dX6_layDuel_98 : decode cX6_layDuel 98 = .ok (.aload_n 0, 1) := by decide +kernel
theorem dX6_layDuel_99 : decode cX6_layDuel 99 = .ok (.getfield 7, 3) := by decide +kernel
theorem dX6_layDuel_102 : decode cX6_layDuel 102 = .ok (.sipush 446, 3) := by decide +kernel
theorem dX6_layDuel_105 : decode cX6_layDuel 105 = .ok (.iload_n 1, 1) := by decide +kernel
theorem dX6_layDuel_106 : decode cX6_layDuel 106 = .ok (.iadd, 1) := by decide +kernel
theorem dX6_layDuel_107 : decode cX6_layDuel 107 = .ok (.iaload, 1) := by decide +kernel
theorem dX6_layDuel_108 : decode cX6_layDuel 108 = .ok (.iastore, 1) := by decide +kernel
theorem dX6_layDuel_109 : decode cX6_layDuel 109 = .ok (.aload_n 0, 1) := by decide +kernel
theorem dX6_layDuel_110 : decode cX6_layDuel 110 = .ok (.getfield 32, 3) := by decide +kernel
theorem dX6_layDuel_113 : decode cX6_layDuel 113 = .ok (.bipush 9, 2) := by decide +kernel
theorem dX6_layDuel_115 : decode cX6_layDuel 115 = .ok (.iload_n 3, 1) := by decide +kernel
theorem dX6_layDuel_116 : decode cX6_layDuel 116 = .ok (.imul, 1) := by decide +kernel
theorem dX6_layDuel_117 : decode cX6_layDuel 117 = .ok (.iload 4, 2) := by decide +kernel
theorem dX6_layDuel_119 : decode cX6_layDuel 119 = .ok (.iadd, 1) := by decide +kernel
theorem dX6_layDuel_120 : decode cX6_layDuel 120 = .ok (.aload_n 0, 1) := by decide +kernel
theorem dX6_layDuel_121 : decode cX6_layDuel 121 = .ok (.getfield 7, 3) := by decide +kernel
theorem dX6_layDuel_124 : decode cX6_layDuel 124 = .ok (.sipush 446, 3) := by decide +kernel
theorem dX6_layDuel_127 : decode cX6_layDuel 127 = .ok (.iload_n 2, 1) := by decide +kernel
theorem dX6_layDuel_128 : decode cX6_layDuel 128 = .ok (.iadd, 1) := by decide +kernel
theorem dX6_layDuel_129 : decode cX6_layDuel 129 = .ok (.iaload, 1) := by decide +kernel
theorem dX6_layDuel_130 : decode cX6_layDuel 130 = .ok (.iastore, 1) := by decide +kernel
theorem dX6_layDuel_131 : decode cX6_layDuel 131 = .ok (.iinc 4 1, 3) := by decide +kernel
theorem dX6_layDuel_134 : decode cX6_layDuel 134 = .ok (.goto (-118), 3) := by decide +kernel
theorem dX6_layDuel_137 : decode cX6_layDuel 137 = .ok (.iinc 3 1, 3) := by decide +kernel
theorem dX6_layDuel_140 : decode cX6_layDuel 140 = .ok (.goto (-138), 3) := by decide +kernel
theorem dX6_layDuel_143 : decode cX6_layDuel 143 = .ok (.return_, 1) := by decide +kernel
theorem dX6_rests_0 : decode cX6_rests 0 = .ok (.iconst 1, 1) := by decide +kernel
theorem dX6_rests_1 : decode cX6_rests 1 = .ok (.istore_n 3, 1) := by decide +kernel
theorem dX6_rests_2 : decode cX6_rests 2 = .ok (.iconst 0, 1) := by decide +kernel
theorem dX6_rests_3 : decode cX6_rests 3 = .ok (.istore 4, 2) := by decide +kernel
theorem dX6_rests_5 : decode cX6_rests 5 = .ok (.iload 4, 2) := by decide +kernel
theorem dX6_rests_7 : decode cX6_rests 7 = .ok (.aload_n 0, 1) := by decide +kernel
theorem dX6_rests_8 : decode cX6_rests 8 = .ok (.getfield 7, 3) := by decide +kernel
theorem dX6_rests_11 : decode cX6_rests 11 = .ok (.bipush 21, 2) := by decide +kernel
theorem dX6_rests_13 : decode cX6_rests 13 = .ok (.iaload, 1) := by decide +kernel
theorem dX6_rests_14 : decode cX6_rests 14 = .ok (.if_icmp .gt 71, 3) := by decide +kernel
theorem dX6_rests_17 : decode cX6_rests 17 = .ok (.iload_n 3, 1) := by decide +kernel
theorem dX6_rests_18 : decode cX6_rests 18 = .ok (.ifCond .eq 59, 3) := by decide +kernel
theorem dX6_rests_21 : decode cX6_rests 21 = .ok (.aload_n 0, 1) := by decide +kernel
theorem dX6_rests_22 : decode cX6_rests 22 = .ok (.getfield 29, 3) := by decide +kernel
theorem dX6_rests_25 : decode cX6_rests 25 = .ok (.bipush 9, 2) := by decide +kernel
theorem dX6_rests_27 : decode cX6_rests 27 = .ok (.iload 4, 2) := by decide +kernel
theorem dX6_rests_29 : decode cX6_rests 29 = .ok (.imul, 1) := by decide +kernel
theorem dX6_rests_30 : decode cX6_rests 30 = .ok (.iload_n 2, 1) := by decide +kernel
theorem dX6_rests_31 : decode cX6_rests 31 = .ok (.iadd, 1) := by decide +kernel
theorem dX6_rests_32 : decode cX6_rests 32 = .ok (.iaload, 1) := by decide +kernel
theorem dX6_rests_33 : decode cX6_rests 33 = .ok (.aload_n 0, 1) := by decide +kernel
theorem dX6_rests_34 : decode cX6_rests 34 = .ok (.getfield 29, 3) := by decide +kernel
theorem dX6_rests_37 : decode cX6_rests 37 = .ok (.bipush 9, 2) := by decide +kernel
theorem dX6_rests_39 : decode cX6_rests 39 = .ok (.iload_n 1, 1) := by decide +kernel
theorem dX6_rests_40 : decode cX6_rests 40 = .ok (.imul, 1) := by decide +kernel
theorem dX6_rests_41 : decode cX6_rests 41 = .ok (.iload_n 2, 1) := by decide +kernel
theorem dX6_rests_42 : decode cX6_rests 42 = .ok (.iadd, 1) := by decide +kernel
theorem dX6_rests_43 : decode cX6_rests 43 = .ok (.iaload, 1) := by decide +kernel
theorem dX6_rests_44 : decode cX6_rests 44 = .ok (.if_icmp .lt 33, 3) := by decide +kernel
theorem dX6_rests_47 : decode cX6_rests 47 = .ok (.aload_n 0, 1) := by decide +kernel
theorem dX6_rests_48 : decode cX6_rests 48 = .ok (.getfield 32, 3) := by decide +kernel
theorem dX6_rests_51 : decode cX6_rests 51 = .ok (.bipush 9, 2) := by decide +kernel
theorem dX6_rests_53 : decode cX6_rests 53 = .ok (.iload_n 1, 1) := by decide +kernel
theorem dX6_rests_54 : decode cX6_rests 54 = .ok (.imul, 1) := by decide +kernel
theorem dX6_rests_55 : decode cX6_rests 55 = .ok (.iload 4, 2) := by decide +kernel
theorem dX6_rests_57 : decode cX6_rests 57 = .ok (.iadd, 1) := by decide +kernel
theorem dX6_rests_58 : decode cX6_rests 58 = .ok (.iaload, 1) := by decide +kernel
theorem dX6_rests_59 : decode cX6_rests 59 = .ok (.aload_n 0, 1) := by decide +kernel
theorem dX6_rests_60 : decode cX6_rests 60 = .ok (.getfield 32, 3) := by decide +kernel
theorem dX6_rests_63 : decode cX6_rests 63 = .ok (.bipush 9, 2) := by decide +kernel
theorem dX6_rests_65 : decode cX6_rests 65 = .ok (.iload_n 1, 1) := by decide +kernel
theorem dX6_rests_66 : decode cX6_rests 66 = .ok (.imul, 1) := by decide +kernel
theorem dX6_rests_67 : decode cX6_rests 67 = .ok (.iload_n 2, 1) := by decide +kernel
theorem dX6_rests_68 : decode cX6_rests 68 = .ok (.iadd, 1) := by decide +kernel
theorem dX6_rests_69 : decode cX6_rests 69 = .ok (.iaload, 1) := by decide +kernel
theorem dX6_rests_70 : decode cX6_rests 70 = .ok (.if_icmp .lt 7, 3) := by decide +kernel
theorem dX6_rests_73 : decode cX6_rests 73 = .ok (.iconst 1, 1) := by decide +kernel
theorem dX6_rests_74 : decode cX6_rests 74 = .ok (.goto 4, 3) := by decide +kernel
theorem dX6_rests_77 : decode cX6_rests 77 = .ok (.iconst 0, 1) := by decide +kernel
theorem dX6_rests_78 : decode cX6_rests 78 = .ok (.istore_n 3, 1) := by decide +kernel
theorem dX6_rests_79 : decode cX6_rests 79 = .ok (.iinc 4 1, 3) := by decide +kernel
theorem dX6_rests_82 : decode cX6_rests 82 = .ok (.goto (-77), 3) := by decide +kernel
theorem dX6_rests_85 : decode cX6_rests 85 = .ok (.iload_n 3, 1) := by decide +kernel
theorem dX6_rests_86 : decode cX6_rests 86 = .ok (.ireturn, 1) := by decide +kernel
theorem dX6_duel_0 : decode cX6_duel 0 = .ok (.aload_n 0, 1) := by decide +kernel
theorem dX6_duel_1 : decode cX6_duel 1 = .ok (.iload_n 1, 1) := by decide +kernel
theorem dX6_duel_2 : decode cX6_duel 2 = .ok (.iload_n 2, 1) := by decide +kernel
theorem dX6_duel_3 : decode cX6_duel 3 = .ok (.invokevirtual 144, 3) := by decide +kernel
theorem dX6_duel_6 : decode cX6_duel 6 = .ok (.ifCond .eq 13, 3) := by decide +kernel
theorem dX6_duel_9 : decode cX6_duel 9 = .ok (.iload_n 3, 1) := by decide +kernel
theorem dX6_duel_10 : decode cX6_duel 10 = .ok (.i2l, 1) := by decide +kernel
theorem dX6_duel_11 : decode cX6_duel 11 = .ok (.lconst 0, 1) := by decide +kernel
theorem dX6_duel_12 : decode cX6_duel 12 = .ok (.lconst 1, 1) := by decide +kernel
theorem dX6_duel_13 : decode cX6_duel 13 = .ok (.invokestatic 38, 3) := by decide +kernel
theorem dX6_duel_16 : decode cX6_duel 16 = .ok (.ifCond .ne 5, 3) := by decide +kernel
theorem dX6_duel_19 : decode cX6_duel 19 = .ok (.iconst (-1), 1) := by decide +kernel
theorem dX6_duel_20 : decode cX6_duel 20 = .ok (.ireturn, 1) := by decide +kernel
theorem dX6_duel_21 : decode cX6_duel 21 = .ok (.aload_n 0, 1) := by decide +kernel
theorem dX6_duel_22 : decode cX6_duel 22 = .ok (.iload_n 1, 1) := by decide +kernel
theorem dX6_duel_23 : decode cX6_duel 23 = .ok (.iload_n 2, 1) := by decide +kernel
theorem dX6_duel_24 : decode cX6_duel 24 = .ok (.invokevirtual 168, 3) := by decide +kernel
theorem dX6_duel_27 : decode cX6_duel 27 = .ok (.iconst 0, 1) := by decide +kernel
theorem dX6_duel_28 : decode cX6_duel 28 = .ok (.istore 4, 2) := by decide +kernel
theorem dX6_duel_30 : decode cX6_duel 30 = .ok (.bipush (-4), 2) := by decide +kernel
theorem dX6_duel_32 : decode cX6_duel 32 = .ok (.istore 5, 2) := by decide +kernel
theorem dX6_duel_34 : decode cX6_duel 34 = .ok (.iconst 0, 1) := by decide +kernel
theorem dX6_duel_35 : decode cX6_duel 35 = .ok (.istore 6, 2) := by decide +kernel
theorem dX6_duel_37 : decode cX6_duel 37 = .ok (.iload 6, 2) := by decide +kernel
theorem dX6_duel_39 : decode cX6_duel 39 = .ok (.aload_n 0, 1) := by decide +kernel
theorem dX6_duel_40 : decode cX6_duel 40 = .ok (.getfield 7, 3) := by decide +kernel
theorem dX6_duel_43 : decode cX6_duel 43 = .ok (.bipush 21, 2) := by decide +kernel
theorem dX6_duel_45 : decode cX6_duel 45 = .ok (.iaload, 1) := by decide +kernel
theorem dX6_duel_46 : decode cX6_duel 46 = .ok (.if_icmp .gt 82, 3) := by decide +kernel
theorem dX6_duel_49 : decode cX6_duel 49 = .ok (.iconst 0, 1) := by decide +kernel
theorem dX6_duel_50 : decode cX6_duel 50 = .ok (.istore 7, 2) := by decide +kernel
theorem dX6_duel_52 : decode cX6_duel 52 = .ok (.iload 7, 2) := by decide +kernel
theorem dX6_duel_54 : decode cX6_duel 54 = .ok (.aload_n 0, 1) := by decide +kernel
theorem dX6_duel_55 : decode cX6_duel 55 = .ok (.getfield 7, 3) := by decide +kernel
theorem dX6_duel_58 : decode cX6_duel 58 = .ok (.bipush 21, 2) := by decide +kernel
theorem dX6_duel_60 : decode cX6_duel 60 = .ok (.iaload, 1) := by decide +kernel
theorem dX6_duel_61 : decode cX6_duel 61 = .ok (.if_icmp .gt 61, 3) := by decide +kernel
theorem dX6_duel_64 : decode cX6_duel 64 = .ok (.aload_n 0, 1) := by decide +kernel
theorem dX6_duel_65 : decode cX6_duel 65 = .ok (.iload 6, 2) := by decide +kernel
theorem dX6_duel_67 : decode cX6_duel 67 = .ok (.iload 7, 2) := by decide +kernel
theorem dX6_duel_69 : decode cX6_duel 69 = .ok (.invokevirtual 171, 3) := by decide +kernel
theorem dX6_duel_72 : decode cX6_duel 72 = .ok (.istore 8, 2) := by decide +kernel
theorem dX6_duel_74 : decode cX6_duel 74 = .ok (.iload 8, 2) := by decide +kernel
theorem dX6_duel_76 : decode cX6_duel 76 = .ok (.ifCond .eq 21, 3) := by decide +kernel
theorem dX6_duel_79 : decode cX6_duel 79 = .ok (.iload 5, 2) := by decide +kernel
theorem dX6_duel_81 : decode cX6_duel 81 = .ok (.bipush (-4), 2) := by decide +kernel
theorem dX6_duel_83 : decode cX6_duel 83 = .ok (.if_icmp .ne 14, 3) := by decide +kernel
theorem dX6_duel_86 : decode cX6_duel 86 = .ok (.bipush 100, 2) := by decide +kernel
theorem dX6_duel_88 : decode cX6_duel 88 = .ok (.iload 6, 2) := by decide +kernel
theorem dX6_duel_90 : decode cX6_duel 90 = .ok (.imul, 1) := by decide +kernel
theorem dX6_duel_91 : decode cX6_duel 91 = .ok (.iload 7, 2) := by decide +kernel
theorem dX6_duel_93 : decode cX6_duel 93 = .ok (.iadd, 1) := by decide +kernel
theorem dX6_duel_94 : decode cX6_duel 94 = .ok (.goto 5, 3) := by decide +kernel
theorem dX6_duel_97 : decode cX6_duel 97 = .ok (.iload 5, 2) := by decide +kernel
theorem dX6_duel_99 : decode cX6_duel 99 = .ok (.istore 5, 2) := by decide +kernel
theorem dX6_duel_101 : decode cX6_duel 101 = .ok (.iload 4, 2) := by decide +kernel
theorem dX6_duel_103 : decode cX6_duel 103 = .ok (.iload 8, 2) := by decide +kernel
theorem dX6_duel_105 : decode cX6_duel 105 = .ok (.ifCond .eq 7, 3) := by decide +kernel
theorem dX6_duel_108 : decode cX6_duel 108 = .ok (.iconst 1, 1) := by decide +kernel
theorem dX6_duel_109 : decode cX6_duel 109 = .ok (.goto 4, 3) := by decide +kernel
theorem dX6_duel_112 : decode cX6_duel 112 = .ok (.iconst 0, 1) := by decide +kernel
theorem dX6_duel_113 : decode cX6_duel 113 = .ok (.iadd, 1) := by decide +kernel
theorem dX6_duel_114 : decode cX6_duel 114 = .ok (.istore 4, 2) := by decide +kernel
theorem dX6_duel_116 : decode cX6_duel 116 = .ok (.iinc 7 1, 3) := by decide +kernel
theorem dX6_duel_119 : decode cX6_duel 119 = .ok (.goto (-67), 3) := by decide +kernel
theorem dX6_duel_122 : decode cX6_duel 122 = .ok (.iinc 6 1, 3) := by decide +kernel
theorem dX6_duel_125 : decode cX6_duel 125 = .ok (.goto (-88), 3) := by decide +kernel
theorem dX6_duel_128 : decode cX6_duel 128 = .ok (.iload_n 3, 1) := by decide +kernel
theorem dX6_duel_129 : decode cX6_duel 129 = .ok (.ifCond .ne 8, 3) := by decide +kernel
theorem dX6_duel_132 : decode cX6_duel 132 = .ok (.iload 4, 2) := by decide +kernel
theorem dX6_duel_134 : decode cX6_duel 134 = .ok (.goto 5, 3) := by decide +kernel
theorem dX6_duel_137 : decode cX6_duel 137 = .ok (.iload 5, 2) := by decide +kernel
theorem dX6_duel_139 : decode cX6_duel 139 = .ok (.ireturn, 1) := by decide +kernel
theorem dX6_luck_0 : decode cX6_luck 0 = .ok (.aload_n 0, 1) := by decide +kernel
theorem dX6_luck_1 : decode cX6_luck 1 = .ok (.iload_n 1, 1) := by decide +kernel
theorem dX6_luck_2 : decode cX6_luck 2 = .ok (.invokevirtual 42, 3) := by decide +kernel
theorem dX6_luck_5 : decode cX6_luck 5 = .ok (.ifCond .eq 25, 3) := by decide +kernel
theorem dX6_luck_8 : decode cX6_luck 8 = .ok (.iload_n 2, 1) := by decide +kernel
theorem dX6_luck_9 : decode cX6_luck 9 = .ok (.i2l, 1) := by decide +kernel
theorem dX6_luck_10 : decode cX6_luck 10 = .ok (.lconst 0, 1) := by decide +kernel
theorem dX6_luck_11 : decode cX6_luck 11 = .ok (.ldc2_w 174, 3) := by decide +kernel
theorem dX6_luck_14 : decode cX6_luck 14 = .ok (.invokestatic 38, 3) := by decide +kernel
theorem dX6_luck_17 : decode cX6_luck 17 = .ok (.ifCond .eq 13, 3) := by decide +kernel
theorem dX6_luck_20 : decode cX6_luck 20 = .ok (.iload_n 3, 1) := by decide +kernel
theorem dX6_luck_21 : decode cX6_luck 21 = .ok (.i2l, 1) := by decide +kernel
theorem dX6_luck_22 : decode cX6_luck 22 = .ok (.lconst 0, 1) := by decide +kernel
theorem dX6_luck_23 : decode cX6_luck 23 = .ok (.lconst 1, 1) := by decide +kernel
theorem dX6_luck_24 : decode cX6_luck 24 = .ok (.invokestatic 38, 3) := by decide +kernel
theorem dX6_luck_27 : decode cX6_luck 27 = .ok (.ifCond .ne 5, 3) := by decide +kernel
theorem dX6_luck_30 : decode cX6_luck 30 = .ok (.iconst (-1), 1) := by decide +kernel
theorem dX6_luck_31 : decode cX6_luck 31 = .ok (.ireturn, 1) := by decide +kernel
theorem dX6_luck_32 : decode cX6_luck 32 = .ok (.aload_n 0, 1) := by decide +kernel
theorem dX6_luck_33 : decode cX6_luck 33 = .ok (.getfield 7, 3) := by decide +kernel
theorem dX6_luck_36 : decode cX6_luck 36 = .ok (.bipush 8, 2) := by decide +kernel
theorem dX6_luck_38 : decode cX6_luck 38 = .ok (.iload_n 1, 1) := by decide +kernel
theorem dX6_luck_39 : decode cX6_luck 39 = .ok (.iadd, 1) := by decide +kernel
theorem dX6_luck_40 : decode cX6_luck 40 = .ok (.iaload, 1) := by decide +kernel
theorem dX6_luck_41 : decode cX6_luck 41 = .ok (.istore 4, 2) := by decide +kernel
theorem dX6_luck_43 : decode cX6_luck 43 = .ok (.aload_n 0, 1) := by decide +kernel
theorem dX6_luck_44 : decode cX6_luck 44 = .ok (.getfield 7, 3) := by decide +kernel
theorem dX6_luck_47 : decode cX6_luck 47 = .ok (.bipush 21, 2) := by decide +kernel
theorem dX6_luck_49 : decode cX6_luck 49 = .ok (.iaload, 1) := by decide +kernel
theorem dX6_luck_50 : decode cX6_luck 50 = .ok (.iload 4, 2) := by decide +kernel
theorem dX6_luck_52 : decode cX6_luck 52 = .ok (.isub, 1) := by decide +kernel
theorem dX6_luck_53 : decode cX6_luck 53 = .ok (.istore 5, 2) := by decide +kernel
theorem dX6_luck_55 : decode cX6_luck 55 = .ok (.iconst 0, 1) := by decide +kernel
theorem dX6_luck_56 : decode cX6_luck 56 = .ok (.istore 6, 2) := by decide +kernel
theorem dX6_luck_58 : decode cX6_luck 58 = .ok (.iconst 1, 1) := by decide +kernel
theorem dX6_luck_59 : decode cX6_luck 59 = .ok (.istore 7, 2) := by decide +kernel
theorem dX6_luck_61 : decode cX6_luck 61 = .ok (.iconst 0, 1) := by decide +kernel
theorem dX6_luck_62 : decode cX6_luck 62 = .ok (.istore 8, 2) := by decide +kernel
theorem dX6_luck_64 : decode cX6_luck 64 = .ok (.iload 8, 2) := by decide +kernel
theorem dX6_luck_66 : decode cX6_luck 66 = .ok (.iload 5, 2) := by decide +kernel
theorem dX6_luck_68 : decode cX6_luck 68 = .ok (.if_icmp .ge 16, 3) := by decide +kernel
theorem dX6_luck_71 : decode cX6_luck 71 = .ok (.iload 7, 2) := by decide +kernel
theorem dX6_luck_73 : decode cX6_luck 73 = .ok (.bipush 10, 2) := by decide +kernel
theorem dX6_luck_75 : decode cX6_luck 75 = .ok (.imul, 1) := by decide +kernel
theorem dX6_luck_76 : decode cX6_luck 76 = .ok (.istore 7, 2) := by decide +kernel
theorem dX6_luck_78 : decode cX6_luck 78 = .ok (.iinc 8 1, 3) := by decide +kernel
theorem dX6_luck_81 : decode cX6_luck 81 = .ok (.goto (-17), 3) := by decide +kernel
theorem dX6_luck_84 : decode cX6_luck 84 = .ok (.iconst 0, 1) := by decide +kernel
theorem dX6_luck_85 : decode cX6_luck 85 = .ok (.istore 8, 2) := by decide +kernel
theorem dX6_luck_87 : decode cX6_luck 87 = .ok (.iload 8, 2) := by decide +kernel
theorem dX6_luck_89 : decode cX6_luck 89 = .ok (.iconst 1, 1) := by decide +kernel
theorem dX6_luck_90 : decode cX6_luck 90 = .ok (.iload 5, 2) := by decide +kernel
theorem dX6_luck_92 : decode cX6_luck 92 = .ok (.ishl, 1) := by decide +kernel
theorem dX6_luck_93 : decode cX6_luck 93 = .ok (.if_icmp .ge 84, 3) := by decide +kernel
theorem dX6_luck_96 : decode cX6_luck 96 = .ok (.iconst 1, 1) := by decide +kernel
theorem dX6_luck_97 : decode cX6_luck 97 = .ok (.istore 9, 2) := by decide +kernel
theorem dX6_luck_99 : decode cX6_luck 99 = .ok (.iconst 0, 1) := by decide +kernel
theorem dX6_luck_100 : decode cX6_luck 100 = .ok (.istore 10, 2) := by decide +kernel
theorem dX6_luck_102 : decode cX6_luck 102 = .ok (.iload 10, 2) := by decide +kernel
theorem dX6_luck_104 : decode cX6_luck 104 = .ok (.iload 5, 2) := by decide +kernel
theorem dX6_luck_106 : decode cX6_luck 106 = .ok (.if_icmp .ge 32, 3) := by decide +kernel
theorem dX6_luck_109 : decode cX6_luck 109 = .ok (.iload 9, 2) := by decide +kernel
theorem dX6_luck_111 : decode cX6_luck 111 = .ok (.iload 8, 2) := by decide +kernel
theorem dX6_luck_113 : decode cX6_luck 113 = .ok (.iload 10, 2) := by decide +kernel
theorem dX6_luck_115 : decode cX6_luck 115 = .ok (.invokestatic 122, 3) := by decide +kernel
theorem dX6_luck_118 : decode cX6_luck 118 = .ok (.ifCond .eq 7, 3) := by decide +kernel
theorem dX6_luck_121 : decode cX6_luck 121 = .ok (.iload_n 2, 1) := by decide +kernel
theorem dX6_luck_122 : decode cX6_luck 122 = .ok (.goto 7, 3) := by decide +kernel
theorem dX6_luck_125 : decode cX6_luck 125 = .ok (.bipush 10, 2) := by decide +kernel
theorem dX6_luck_127 : decode cX6_luck 127 = .ok (.iload_n 2, 1) := by decide +kernel
theorem dX6_luck_128 : decode cX6_luck 128 = .ok (.isub, 1) := by decide +kernel
theorem dX6_luck_129 : decode cX6_luck 129 = .ok (.imul, 1) := by decide +kernel
theorem dX6_luck_130 : decode cX6_luck 130 = .ok (.istore 9, 2) := by decide +kernel
theorem dX6_luck_132 : decode cX6_luck 132 = .ok (.iinc 10 1, 3) := by decide +kernel
theorem dX6_luck_135 : decode cX6_luck 135 = .ok (.goto (-33), 3) := by decide +kernel
theorem dX6_luck_138 : decode cX6_luck 138 = .ok (.aload_n 0, 1) := by decide +kernel
theorem dX6_luck_139 : decode cX6_luck 139 = .ok (.invokevirtual 150, 3) := by decide +kernel
theorem dX6_luck_142 : decode cX6_luck 142 = .ok (.aload_n 0, 1) := by decide +kernel
theorem dX6_luck_143 : decode cX6_luck 143 = .ok (.iload_n 1, 1) := by decide +kernel
theorem dX6_luck_144 : decode cX6_luck 144 = .ok (.iload 8, 2) := by decide +kernel
theorem dX6_luck_146 : decode cX6_luck 146 = .ok (.iload 4, 2) := by decide +kernel
theorem dX6_luck_148 : decode cX6_luck 148 = .ok (.ishl, 1) := by decide +kernel
theorem dX6_luck_149 : decode cX6_luck 149 = .ok (.invokevirtual 153, 3) := by decide +kernel
theorem dX6_luck_152 : decode cX6_luck 152 = .ok (.iload 6, 2) := by decide +kernel
theorem dX6_luck_154 : decode cX6_luck 154 = .ok (.aload_n 0, 1) := by decide +kernel
theorem dX6_luck_155 : decode cX6_luck 155 = .ok (.invokevirtual 159, 3) := by decide +kernel
theorem dX6_luck_158 : decode cX6_luck 158 = .ok (.iload_n 1, 1) := by decide +kernel
theorem dX6_luck_159 : decode cX6_luck 159 = .ok (.if_icmp .ne 8, 3) := by decide +kernel
theorem dX6_luck_162 : decode cX6_luck 162 = .ok (.iload 9, 2) := by decide +kernel
theorem dX6_luck_164 : decode cX6_luck 164 = .ok (.goto 4, 3) := by decide +kernel
theorem dX6_luck_167 : decode cX6_luck 167 = .ok (.iconst 0, 1) := by decide +kernel
theorem dX6_luck_168 : decode cX6_luck 168 = .ok (.iadd, 1) := by decide +kernel
theorem dX6_luck_169 : decode cX6_luck 169 = .ok (.istore 6, 2) := by decide +kernel
theorem dX6_luck_171 : decode cX6_luck 171 = .ok (.iinc 8 1, 3) := by decide +kernel
theorem dX6_luck_174 : decode cX6_luck 174 = .ok (.goto (-87), 3) := by decide +kernel
theorem dX6_luck_177 : decode cX6_luck 177 = .ok (.iload 6, 2) := by decide +kernel
theorem dX6_luck_179 : decode cX6_luck 179 = .ok (.istore 8, 2) := by decide +kernel
theorem dX6_luck_181 : decode cX6_luck 181 = .ok (.iload 7, 2) := by decide +kernel
theorem dX6_luck_183 : decode cX6_luck 183 = .ok (.istore 9, 2) := by decide +kernel
theorem dX6_luck_185 : decode cX6_luck 185 = .ok (.iload 9, 2) := by decide +kernel
theorem dX6_luck_187 : decode cX6_luck 187 = .ok (.ifCond .eq 21, 3) := by decide +kernel
theorem dX6_luck_190 : decode cX6_luck 190 = .ok (.iload 8, 2) := by decide +kernel
theorem dX6_luck_192 : decode cX6_luck 192 = .ok (.iload 9, 2) := by decide +kernel
theorem dX6_luck_194 : decode cX6_luck 194 = .ok (.irem, 1) := by decide +kernel
theorem dX6_luck_195 : decode cX6_luck 195 = .ok (.istore 10, 2) := by decide +kernel
theorem dX6_luck_197 : decode cX6_luck 197 = .ok (.iload 9, 2) := by decide +kernel
theorem dX6_luck_199 : decode cX6_luck 199 = .ok (.istore 8, 2) := by decide +kernel
theorem dX6_luck_201 : decode cX6_luck 201 = .ok (.iload 10, 2) := by decide +kernel
theorem dX6_luck_203 : decode cX6_luck 203 = .ok (.istore 9, 2) := by decide +kernel
theorem dX6_luck_205 : decode cX6_luck 205 = .ok (.goto (-20), 3) := by decide +kernel
theorem dX6_luck_208 : decode cX6_luck 208 = .ok (.iload_n 3, 1) := by decide +kernel
theorem dX6_luck_209 : decode cX6_luck 209 = .ok (.ifCond .ne 11, 3) := by decide +kernel
theorem dX6_luck_212 : decode cX6_luck 212 = .ok (.iload 6, 2) := by decide +kernel
theorem dX6_luck_214 : decode cX6_luck 214 = .ok (.iload 8, 2) := by decide +kernel
theorem dX6_luck_216 : decode cX6_luck 216 = .ok (.idiv, 1) := by decide +kernel
theorem dX6_luck_217 : decode cX6_luck 217 = .ok (.goto 8, 3) := by decide +kernel
theorem dX6_luck_220 : decode cX6_luck 220 = .ok (.iload 7, 2) := by decide +kernel
theorem dX6_luck_222 : decode cX6_luck 222 = .ok (.iload 8, 2) := by decide +kernel
theorem dX6_luck_224 : decode cX6_luck 224 = .ok (.idiv, 1) := by decide +kernel
theorem dX6_luck_225 : decode cX6_luck 225 = .ok (.ireturn, 1) := by decide +kernel
theorem dX6_image_0 : decode cX6_image 0 = .ok (.aload_n 0, 1) := by decide +kernel
theorem dX6_image_1 : decode cX6_image 1 = .ok (.iconst 0, 1) := by decide +kernel
theorem dX6_image_2 : decode cX6_image 2 = .ok (.sipush 217, 3) := by decide +kernel
theorem dX6_image_5 : decode cX6_image 5 = .ok (.sipush 217, 3) := by decide +kernel
theorem dX6_image_8 : decode cX6_image 8 = .ok (.invokevirtual 118, 3) := by decide +kernel
theorem dX6_image_11 : decode cX6_image 11 = .ok (.aload_n 0, 1) := by decide +kernel
theorem dX6_image_12 : decode cX6_image 12 = .ok (.iconst 1, 1) := by decide +kernel
theorem dX6_image_13 : decode cX6_image 13 = .ok (.putfield 176, 3) := by decide +kernel
theorem dX6_image_16 : decode cX6_image 16 = .ok (.iconst 1, 1) := by decide +kernel
theorem dX6_image_17 : decode cX6_image 17 = .ok (.ireturn, 1) := by decide +kernel
theorem dX6_restore_0 : decode cX6_restore 0 = .ok (.aload_n 0, 1) := by decide +kernel
theorem dX6_restore_1 : decode cX6_restore 1 = .ok (.getfield 176, 3) := by decide +kernel
theorem dX6_restore_4 : decode cX6_restore 4 = .ok (.ifCond .ne 6, 3) := by decide +kernel
theorem dX6_restore_7 : decode cX6_restore 7 = .ok (.bipush (-4), 2) := by decide +kernel
theorem dX6_restore_9 : decode cX6_restore 9 = .ok (.ireturn, 1) := by decide +kernel
theorem dX6_restore_10 : decode cX6_restore 10 = .ok (.aload_n 0, 1) := by decide +kernel
theorem dX6_restore_11 : decode cX6_restore 11 = .ok (.sipush 217, 3) := by decide +kernel
theorem dX6_restore_14 : decode cX6_restore 14 = .ok (.iconst 0, 1) := by decide +kernel
theorem dX6_restore_15 : decode cX6_restore 15 = .ok (.sipush 217, 3) := by decide +kernel
theorem dX6_restore_18 : decode cX6_restore 18 = .ok (.invokevirtual 118, 3) := by decide +kernel
theorem dX6_restore_21 : decode cX6_restore 21 = .ok (.iconst 1, 1) := by decide +kernel
theorem dX6_restore_22 : decode cX6_restore 22 = .ok (.ireturn, 1) := by decide +kernel
theorem dX6_isSheet_0 : decode cX6_isSheet 0 = .ok (.iload_n 0, 1) := by decide +kernel
theorem dX6_isSheet_1 : decode cX6_isSheet 1 = .ok (.i2l, 1) := by decide +kernel
theorem dX6_isSheet_2 : decode cX6_isSheet 2 = .ok (.lconst 0, 1) := by decide +kernel
theorem dX6_isSheet_3 : decode cX6_isSheet 3 = .ok (.ldc2_w 180, 3) := by decide +kernel
theorem dX6_isSheet_6 : decode cX6_isSheet 6 = .ok (.invokestatic 38, 3) := by decide +kernel
theorem dX6_isSheet_9 : decode cX6_isSheet 9 = .ok (.ireturn, 1) := by decide +kernel
theorem dX6_isLane_0 : decode cX6_isLane 0 = .ok (.iload_n 0, 1) := by decide +kernel
theorem dX6_isLane_1 : decode cX6_isLane 1 = .ok (.invokestatic 182, 3) := by decide +kernel
theorem dX6_isLane_4 : decode cX6_isLane 4 = .ok (.ifCond .eq 19, 3) := by decide +kernel
theorem dX6_isLane_7 : decode cX6_isLane 7 = .ok (.iload_n 1, 1) := by decide +kernel
theorem dX6_isLane_8 : decode cX6_isLane 8 = .ok (.i2l, 1) := by decide +kernel
theorem dX6_isLane_9 : decode cX6_isLane 9 = .ok (.lconst 0, 1) := by decide +kernel
theorem dX6_isLane_10 : decode cX6_isLane 10 = .ok (.ldc2_w 180, 3) := by decide +kernel
theorem dX6_isLane_13 : decode cX6_isLane 13 = .ok (.invokestatic 38, 3) := by decide +kernel
theorem dX6_isLane_16 : decode cX6_isLane 16 = .ok (.ifCond .eq 7, 3) := by decide +kernel
theorem dX6_isLane_19 : decode cX6_isLane 19 = .ok (.iconst 1, 1) := by decide +kernel
theorem dX6_isLane_20 : decode cX6_isLane 20 = .ok (.goto 4, 3) := by decide +kernel
theorem dX6_isLane_23 : decode cX6_isLane 23 = .ok (.iconst 0, 1) := by decide +kernel
theorem dX6_isLane_24 : decode cX6_isLane 24 = .ok (.ireturn, 1) := by decide +kernel
theorem dX6_against_0 : decode cX6_against 0 = .ok (.aload_n 0, 1) := by decide +kernel
theorem dX6_against_1 : decode cX6_against 1 = .ok (.getfield 23, 3) := by decide +kernel
theorem dX6_against_4 : decode cX6_against 4 = .ok (.iload_n 1, 1) := by decide +kernel
theorem dX6_against_5 : decode cX6_against 5 = .ok (.iaload, 1) := by decide +kernel
theorem dX6_against_6 : decode cX6_against 6 = .ok (.ifCond .ge 6, 3) := by decide +kernel
theorem dX6_against_9 : decode cX6_against 9 = .ok (.bipush (-11), 2) := by decide +kernel
theorem dX6_against_11 : decode cX6_against 11 = .ok (.ireturn, 1) := by decide +kernel
theorem dX6_against_12 : decode cX6_against 12 = .ok (.aload_n 0, 1) := by decide +kernel
theorem dX6_against_13 : decode cX6_against 13 = .ok (.getfield 20, 3) := by decide +kernel
theorem dX6_against_16 : decode cX6_against 16 = .ok (.iload_n 1, 1) := by decide +kernel
theorem dX6_against_17 : decode cX6_against 17 = .ok (.iaload, 1) := by decide +kernel
theorem dX6_against_18 : decode cX6_against 18 = .ok (.iload_n 2, 1) := by decide +kernel
theorem dX6_against_19 : decode cX6_against 19 = .ok (.if_icmp .eq 6, 3) := by decide +kernel
theorem dX6_against_22 : decode cX6_against 22 = .ok (.bipush (-12), 2) := by decide +kernel
theorem dX6_against_24 : decode cX6_against 24 = .ok (.ireturn, 1) := by decide +kernel
theorem dX6_against_25 : decode cX6_against 25 = .ok (.iload_n 3, 1) := by decide +kernel
theorem dX6_against_26 : decode cX6_against 26 = .ok (.ifCond .lt 25, 3) := by decide +kernel
theorem dX6_against_29 : decode cX6_against 29 = .ok (.iload 4, 2) := by decide +kernel
theorem dX6_against_31 : decode cX6_against 31 = .ok (.ifCond .lt 20, 3) := by decide +kernel
theorem dX6_against_34 : decode cX6_against 34 = .ok (.iload_n 3, 1) := by decide +kernel
theorem dX6_against_35 : decode cX6_against 35 = .ok (.i2l, 1) := by decide +kernel
theorem dX6_against_36 : decode cX6_against 36 = .ok (.iload 4, 2) := by decide +kernel
theorem dX6_against_38 : decode cX6_against 38 = .ok (.i2l, 1) := by decide +kernel
theorem dX6_against_39 : decode cX6_against 39 = .ok (.ladd, 1) := by decide +kernel
theorem dX6_against_40 : decode cX6_against 40 = .ok (.aload_n 0, 1) := by decide +kernel
theorem dX6_against_41 : decode cX6_against 41 = .ok (.getfield 23, 3) := by decide +kernel
theorem dX6_against_44 : decode cX6_against 44 = .ok (.iload_n 1, 1) := by decide +kernel
theorem dX6_against_45 : decode cX6_against 45 = .ok (.iaload, 1) := by decide +kernel
theorem dX6_against_46 : decode cX6_against 46 = .ok (.i2l, 1) := by decide +kernel
theorem dX6_against_47 : decode cX6_against 47 = .ok (.lcmp, 1) := by decide +kernel
theorem dX6_against_48 : decode cX6_against 48 = .ok (.ifCond .le 8, 3) := by decide +kernel
theorem dX6_against_51 : decode cX6_against 51 = .ok (.bipush (-13), 2) := by decide +kernel
theorem dX6_against_53 : decode cX6_against 53 = .ok (.goto 4, 3) := by decide +kernel
theorem dX6_against_56 : decode cX6_against 56 = .ok (.iconst 0, 1) := by decide +kernel
theorem dX6_against_57 : decode cX6_against 57 = .ok (.ireturn, 1) := by decide +kernel
theorem dX6_cut_0 : decode cX6_cut 0 = .ok (.iload_n 0, 1) := by decide +kernel
theorem dX6_cut_1 : decode cX6_cut 1 = .ok (.ifCond .ne 10, 3) := by decide +kernel
theorem dX6_cut_4 : decode cX6_cut 4 = .ok (.lload_n 1, 1) := by decide +kernel
theorem dX6_cut_5 : decode cX6_cut 5 = .ok (.l2i, 1) := by decide +kernel
theorem dX6_cut_6 : decode cX6_cut 6 = .ok (.i2b, 1) := by decide +kernel
theorem dX6_cut_7 : decode cX6_cut 7 = .ok (.i2l, 1) := by decide +kernel
theorem dX6_cut_8 : decode cX6_cut 8 = .ok (.goto 27, 3) := by decide +kernel
theorem dX6_cut_11 : decode cX6_cut 11 = .ok (.iload_n 0, 1) := by decide +kernel
theorem dX6_cut_12 : decode cX6_cut 12 = .ok (.iconst 1, 1) := by decide +kernel
theorem dX6_cut_13 : decode cX6_cut 13 = .ok (.if_icmp .ne 10, 3) := by decide +kernel
theorem dX6_cut_16 : decode cX6_cut 16 = .ok (.lload_n 1, 1) := by decide +kernel
theorem dX6_cut_17 : decode cX6_cut 17 = .ok (.l2i, 1) := by decide +kernel
theorem dX6_cut_18 : decode cX6_cut 18 = .ok (.i2s, 1) := by decide +kernel
theorem dX6_cut_19 : decode cX6_cut 19 = .ok (.i2l, 1) := by decide +kernel
theorem dX6_cut_20 : decode cX6_cut 20 = .ok (.goto 15, 3) := by decide +kernel
theorem dX6_cut_23 : decode cX6_cut 23 = .ok (.iload_n 0, 1) := by decide +kernel
theorem dX6_cut_24 : decode cX6_cut 24 = .ok (.iconst 2, 1) := by decide +kernel
theorem dX6_cut_25 : decode cX6_cut 25 = .ok (.if_icmp .ne 9, 3) := by decide +kernel
theorem dX6_cut_28 : decode cX6_cut 28 = .ok (.lload_n 1, 1) := by decide +kernel
theorem dX6_cut_29 : decode cX6_cut 29 = .ok (.l2i, 1) := by decide +kernel
theorem dX6_cut_30 : decode cX6_cut 30 = .ok (.i2l, 1) := by decide +kernel
theorem dX6_cut_31 : decode cX6_cut 31 = .ok (.goto 4, 3) := by decide +kernel
theorem dX6_cut_34 : decode cX6_cut 34 = .ok (.lload_n 1, 1) := by decide +kernel
theorem dX6_cut_35 : decode cX6_cut 35 = .ok (.lreturn, 1) := by decide +kernel
theorem dX6_passed_0 : decode cX6_passed 0 = .ok (.aload_n 0, 1) := by decide +kernel
theorem dX6_passed_1 : decode cX6_passed 1 = .ok (.iload_n 1, 1) := by decide +kernel
theorem dX6_passed_2 : decode cX6_passed 2 = .ok (.invokevirtual 42, 3) := by decide +kernel
theorem dX6_passed_5 : decode cX6_passed 5 = .ok (.ifCond .eq 24, 3) := by decide +kernel
theorem dX6_passed_8 : decode cX6_passed 8 = .ok (.iload_n 2, 1) := by decide +kernel
theorem dX6_passed_9 : decode cX6_passed 9 = .ok (.iload_n 3, 1) := by decide +kernel
theorem dX6_passed_10 : decode cX6_passed 10 = .ok (.invokestatic 185, 3) := by decide +kernel
theorem dX6_passed_13 : decode cX6_passed 13 = .ok (.ifCond .eq 16, 3) := by decide +kernel
theorem dX6_passed_16 : decode cX6_passed 16 = .ok (.iload 5, 2) := by decide +kernel
theorem dX6_passed_18 : decode cX6_passed 18 = .ok (.i2l, 1) := by decide +kernel
theorem dX6_passed_19 : decode cX6_passed 19 = .ok (.lconst 1, 1) := by decide +kernel
theorem dX6_passed_20 : decode cX6_passed 20 = .ok (.ldc2_w 188, 3) := by decide +kernel
theorem dX6_passed_23 : decode cX6_passed 23 = .ok (.invokestatic 38, 3) := by decide +kernel
theorem dX6_passed_26 : decode cX6_passed 26 = .ok (.ifCond .ne 5, 3) := by decide +kernel
theorem dX6_passed_29 : decode cX6_passed 29 = .ok (.iconst (-1), 1) := by decide +kernel
theorem dX6_passed_30 : decode cX6_passed 30 = .ok (.ireturn, 1) := by decide +kernel
theorem dX6_passed_31 : decode cX6_passed 31 = .ok (.aload_n 0, 1) := by decide +kernel
theorem dX6_passed_32 : decode cX6_passed 32 = .ok (.iload_n 2, 1) := by decide +kernel
theorem dX6_passed_33 : decode cX6_passed 33 = .ok (.iload_n 3, 1) := by decide +kernel
theorem dX6_passed_34 : decode cX6_passed 34 = .ok (.iload 4, 2) := by decide +kernel
theorem dX6_passed_36 : decode cX6_passed 36 = .ok (.iload 5, 2) := by decide +kernel
theorem dX6_passed_38 : decode cX6_passed 38 = .ok (.invokevirtual 190, 3) := by decide +kernel
theorem dX6_passed_41 : decode cX6_passed 41 = .ok (.istore 6, 2) := by decide +kernel
theorem dX6_passed_43 : decode cX6_passed 43 = .ok (.iload 6, 2) := by decide +kernel
theorem dX6_passed_45 : decode cX6_passed 45 = .ok (.ifCond .ge 6, 3) := by decide +kernel
theorem dX6_passed_48 : decode cX6_passed 48 = .ok (.iload 6, 2) := by decide +kernel
theorem dX6_passed_50 : decode cX6_passed 50 = .ok (.ireturn, 1) := by decide +kernel
theorem dX6_passed_51 : decode cX6_passed 51 = .ok (.aload_n 0, 1) := by decide +kernel
theorem dX6_passed_52 : decode cX6_passed 52 = .ok (.getfield 7, 3) := by decide +kernel
theorem dX6_passed_55 : decode cX6_passed 55 = .ok (.bipush 8, 2) := by decide +kernel
theorem dX6_passed_57 : decode cX6_passed 57 = .ok (.iload_n 1, 1) := by decide +kernel
theorem dX6_passed_58 : decode cX6_passed 58 = .ok (.iadd, 1) := by decide +kernel
theorem dX6_passed_59 : decode cX6_passed 59 = .ok (.iaload, 1) := by decide +kernel
theorem dX6_passed_60 : decode cX6_passed 60 = .ok (.istore 7, 2) := by decide +kernel
theorem dX6_passed_62 : decode cX6_passed 62 = .ok (.iload 5, 2) := by decide +kernel
theorem dX6_passed_64 : decode cX6_passed 64 = .ok (.aload_n 0, 1) := by decide +kernel
theorem dX6_passed_65 : decode cX6_passed 65 = .ok (.getfield 7, 3) := by decide +kernel
theorem dX6_passed_68 : decode cX6_passed 68 = .ok (.bipush 21, 2) := by decide +kernel
theorem dX6_passed_70 : decode cX6_passed 70 = .ok (.iaload, 1) := by decide +kernel
theorem dX6_passed_71 : decode cX6_passed 71 = .ok (.iload 7, 2) := by decide +kernel
theorem dX6_passed_73 : decode cX6_passed 73 = .ok (.isub, 1) := by decide +kernel
theorem dX6_passed_74 : decode cX6_passed 74 = .ok (.if_icmp .le 6, 3) := by decide +kernel
theorem dX6_passed_77 : decode cX6_passed 77 = .ok (.bipush (-2), 2) := by decide +kernel
theorem dX6_passed_79 : decode cX6_passed 79 = .ok (.ireturn, 1) := by decide +kernel
theorem dX6_passed_80 : decode cX6_passed 80 = .ok (.iconst 0, 1) := by decide +kernel
theorem dX6_passed_81 : decode cX6_passed 81 = .ok (.istore 8, 2) := by decide +kernel
theorem dX6_passed_83 : decode cX6_passed 83 = .ok (.iconst 0, 1) := by decide +kernel
theorem dX6_passed_84 : decode cX6_passed 84 = .ok (.istore 9, 2) := by decide +kernel
theorem dX6_passed_86 : decode cX6_passed 86 = .ok (.iload 9, 2) := by decide +kernel
theorem dX6_passed_88 : decode cX6_passed 88 = .ok (.iconst 4, 1) := by decide +kernel
theorem dX6_passed_89 : decode cX6_passed 89 = .ok (.if_icmp .gt 118, 3) := by decide +kernel
theorem dX6_passed_92 : decode cX6_passed 92 = .ok (.aload_n 0, 1) := by decide +kernel
theorem dX6_passed_93 : decode cX6_passed 93 = .ok (.invokevirtual 150, 3) := by decide +kernel
theorem dX6_passed_96 : decode cX6_passed 96 = .ok (.aload_n 0, 1) := by decide +kernel
theorem dX6_passed_97 : decode cX6_passed 97 = .ok (.getfield 7, 3) := by decide +kernel
theorem dX6_passed_100 : decode cX6_passed 100 = .ok (.sipush 474, 3) := by decide +kernel
theorem dX6_passed_103 : decode cX6_passed 103 = .ok (.iload_n 1, 1) := by decide +kernel
theorem dX6_passed_104 : decode cX6_passed 104 = .ok (.iadd, 1) := by decide +kernel
theorem dX6_passed_105 : decode cX6_passed 105 = .ok (.iload 9, 2) := by decide +kernel
theorem dX6_passed_107 : decode cX6_passed 107 = .ok (.iastore, 1) := by decide +kernel
theorem dX6_passed_108 : decode cX6_passed 108 = .ok (.aload_n 0, 1) := by decide +kernel
theorem dX6_passed_109 : decode cX6_passed 109 = .ok (.bipush (-4), 2) := by decide +kernel
theorem dX6_passed_111 : decode cX6_passed 111 = .ok (.iconst 0, 1) := by decide +kernel
theorem dX6_passed_112 : decode cX6_passed 112 = .ok (.invokevirtual 153, 3) := by decide +kernel
theorem dX6_passed_115 : decode cX6_passed 115 = .ok (.iconst 1, 1) := by decide +kernel
theorem dX6_passed_116 : decode cX6_passed 116 = .ok (.istore 10, 2) := by decide +kernel
theorem dX6_passed_118 : decode cX6_passed 118 = .ok (.iconst 0, 1) := by decide +kernel
theorem dX6_passed_119 : decode cX6_passed 119 = .ok (.istore 11, 2) := by decide +kernel
theorem dX6_passed_121 : decode cX6_passed 121 = .ok (.iload 11, 2) := by decide +kernel
theorem dX6_passed_123 : decode cX6_passed 123 = .ok (.iload 5, 2) := by decide +kernel
theorem dX6_passed_125 : decode cX6_passed 125 = .ok (.if_icmp .ge 58, 3) := by decide +kernel
theorem dX6_passed_128 : decode cX6_passed 128 = .ok (.iload 10, 2) := by decide +kernel
theorem dX6_passed_130 : decode cX6_passed 130 = .ok (.ifCond .eq 44, 3) := by decide +kernel
theorem dX6_passed_133 : decode cX6_passed 133 = .ok (.aload_n 0, 1) := by decide +kernel
theorem dX6_passed_134 : decode cX6_passed 134 = .ok (.getfield 26, 3) := by decide +kernel
theorem dX6_passed_137 : decode cX6_passed 137 = .ok (.bipush 9, 2) := by decide +kernel
theorem dX6_passed_139 : decode cX6_passed 139 = .ok (.iload_n 1, 1) := by decide +kernel
theorem dX6_passed_140 : decode cX6_passed 140 = .ok (.imul, 1) := by decide +kernel
theorem dX6_passed_141 : decode cX6_passed 141 = .ok (.iload 7, 2) := by decide +kernel
theorem dX6_passed_143 : decode cX6_passed 143 = .ok (.iadd, 1) := by decide +kernel
theorem dX6_passed_144 : decode cX6_passed 144 = .ok (.iconst 1, 1) := by decide +kernel
theorem dX6_passed_145 : decode cX6_passed 145 = .ok (.iadd, 1) := by decide +kernel
theorem dX6_passed_146 : decode cX6_passed 146 = .ok (.iload 11, 2) := by decide +kernel
theorem dX6_passed_148 : decode cX6_passed 148 = .ok (.iadd, 1) := by decide +kernel
theorem dX6_passed_149 : decode cX6_passed 149 = .ok (.iaload, 1) := by decide +kernel
theorem dX6_passed_150 : decode cX6_passed 150 = .ok (.i2l, 1) := by decide +kernel
theorem dX6_passed_151 : decode cX6_passed 151 = .ok (.aload_n 0, 1) := by decide +kernel
theorem dX6_passed_152 : decode cX6_passed 152 = .ok (.getfield 16, 3) := by decide +kernel
theorem dX6_passed_155 : decode cX6_passed 155 = .ok (.bipush 24, 2) := by decide +kernel
theorem dX6_passed_157 : decode cX6_passed 157 = .ok (.iload_n 2, 1) := by decide +kernel
theorem dX6_passed_158 : decode cX6_passed 158 = .ok (.imul, 1) := by decide +kernel
theorem dX6_passed_159 : decode cX6_passed 159 = .ok (.iload 4, 2) := by decide +kernel
theorem dX6_passed_161 : decode cX6_passed 161 = .ok (.iadd, 1) := by decide +kernel
theorem dX6_passed_162 : decode cX6_passed 162 = .ok (.iload 11, 2) := by decide +kernel
theorem dX6_passed_164 : decode cX6_passed 164 = .ok (.iadd, 1) := by decide +kernel
theorem dX6_passed_165 : decode cX6_passed 165 = .ok (.laload, 1) := by decide +kernel
theorem dX6_passed_166 : decode cX6_passed 166 = .ok (.lcmp, 1) := by decide +kernel
theorem dX6_passed_167 : decode cX6_passed 167 = .ok (.ifCond .ne 7, 3) := by decide +kernel
theorem dX6_passed_170 : decode cX6_passed 170 = .ok (.iconst 1, 1) := by decide +kernel
theorem dX6_passed_171 : decode cX6_passed 171 = .ok (.goto 4, 3) := by decide +kernel
theorem dX6_passed_174 : decode cX6_passed 174 = .ok (.iconst 0, 1) := by decide +kernel
theorem dX6_passed_175 : decode cX6_passed 175 = .ok (.istore 10, 2) := by decide +kernel
theorem dX6_passed_177 : decode cX6_passed 177 = .ok (.iinc 11 1, 3) := by decide +kernel
theorem dX6_passed_180 : decode cX6_passed 180 = .ok (.goto (-59), 3) := by decide +kernel
theorem dX6_passed_183 : decode cX6_passed 183 = .ok (.iload 8, 2) := by decide +kernel
theorem dX6_passed_185 : decode cX6_passed 185 = .ok (.iload 10, 2) := by decide +kernel
theorem dX6_passed_187 : decode cX6_passed 187 = .ok (.ifCond .eq 10, 3) := by decide +kernel
theorem dX6_passed_190 : decode cX6_passed 190 = .ok (.iconst 1, 1) := by decide +kernel
theorem dX6_passed_191 : decode cX6_passed 191 = .ok (.iload 9, 2) := by decide +kernel
theorem dX6_passed_193 : decode cX6_passed 193 = .ok (.ishl, 1) := by decide +kernel
theorem dX6_passed_194 : decode cX6_passed 194 = .ok (.goto 4, 3) := by decide +kernel
theorem dX6_passed_197 : decode cX6_passed 197 = .ok (.iconst 0, 1) := by decide +kernel
theorem dX6_passed_198 : decode cX6_passed 198 = .ok (.ior, 1) := by decide +kernel
theorem dX6_passed_199 : decode cX6_passed 199 = .ok (.istore 8, 2) := by decide +kernel
theorem dX6_passed_201 : decode cX6_passed 201 = .ok (.iinc 9 1, 3) := by decide +kernel
theorem dX6_passed_204 : decode cX6_passed 204 = .ok (.goto (-118), 3) := by decide +kernel
theorem dX6_passed_207 : decode cX6_passed 207 = .ok (.iload 8, 2) := by decide +kernel
theorem dX6_passed_209 : decode cX6_passed 209 = .ok (.ireturn, 1) := by decide +kernel
theorem dX6_film_0 : decode cX6_film 0 = .ok (.aload_n 0, 1) := by decide +kernel
theorem dX6_film_1 : decode cX6_film 1 = .ok (.iload_n 1, 1) := by decide +kernel
theorem dX6_film_2 : decode cX6_film 2 = .ok (.invokevirtual 42, 3) := by decide +kernel
theorem dX6_film_5 : decode cX6_film 5 = .ok (.ifCond .eq 24, 3) := by decide +kernel
theorem dX6_film_8 : decode cX6_film 8 = .ok (.iload_n 2, 1) := by decide +kernel
theorem dX6_film_9 : decode cX6_film 9 = .ok (.i2l, 1) := by decide +kernel
theorem dX6_film_10 : decode cX6_film 10 = .ok (.lconst 1, 1) := by decide +kernel
theorem dX6_film_11 : decode cX6_film 11 = .ok (.ldc2_w 188, 3) := by decide +kernel
theorem dX6_film_14 : decode cX6_film 14 = .ok (.invokestatic 38, 3) := by decide +kernel
theorem dX6_film_17 : decode cX6_film 17 = .ok (.ifCond .eq 12, 3) := by decide +kernel
theorem dX6_film_20 : decode cX6_film 20 = .ok (.iload_n 3, 1) := by decide +kernel
theorem dX6_film_21 : decode cX6_film 21 = .ok (.iload 4, 2) := by decide +kernel
theorem dX6_film_23 : decode cX6_film 23 = .ok (.invokestatic 185, 3) := by decide +kernel
theorem dX6_film_26 : decode cX6_film 26 = .ok (.ifCond .ne 5, 3) := by decide +kernel
theorem dX6_film_29 : decode cX6_film 29 = .ok (.iconst (-1), 1) := by decide +kernel
theorem dX6_film_30 : decode cX6_film 30 = .ok (.ireturn, 1) := by decide +kernel
theorem dX6_film_31 : decode cX6_film 31 = .ok (.aload_n 0, 1) := by decide +kernel
theorem dX6_film_32 : decode cX6_film 32 = .ok (.iload_n 3, 1) := by decide +kernel
theorem dX6_film_33 : decode cX6_film 33 = .ok (.iload 4, 2) := by decide +kernel
theorem dX6_film_35 : decode cX6_film 35 = .ok (.iload 5, 2) := by decide +kernel
theorem dX6_film_37 : decode cX6_film 37 = .ok (.iload_n 2, 1) := by decide +kernel
theorem dX6_film_38 : decode cX6_film 38 = .ok (.invokevirtual 190, 3) := by decide +kernel
theorem dX6_film_41 : decode cX6_film 41 = .ok (.istore 6, 2) := by decide +kernel
theorem dX6_film_43 : decode cX6_film 43 = .ok (.iload 6, 2) := by decide +kernel
theorem dX6_film_45 : decode cX6_film 45 = .ok (.ifCond .ge 6, 3) := by decide +kernel
theorem dX6_film_48 : decode cX6_film 48 = .ok (.iload 6, 2) := by decide +kernel
theorem dX6_film_50 : decode cX6_film 50 = .ok (.ireturn, 1) := by decide +kernel
theorem dX6_film_51 : decode cX6_film 51 = .ok (.aload_n 0, 1) := by decide +kernel
theorem dX6_film_52 : decode cX6_film 52 = .ok (.getfield 7, 3) := by decide +kernel
theorem dX6_film_55 : decode cX6_film 55 = .ok (.bipush 8, 2) := by decide +kernel
theorem dX6_film_57 : decode cX6_film 57 = .ok (.iload_n 1, 1) := by decide +kernel
theorem dX6_film_58 : decode cX6_film 58 = .ok (.iadd, 1) := by decide +kernel
theorem dX6_film_59 : decode cX6_film 59 = .ok (.iaload, 1) := by decide +kernel
theorem dX6_film_60 : decode cX6_film 60 = .ok (.istore 7, 2) := by decide +kernel
theorem dX6_film_62 : decode cX6_film 62 = .ok (.iload_n 2, 1) := by decide +kernel
theorem dX6_film_63 : decode cX6_film 63 = .ok (.aload_n 0, 1) := by decide +kernel
theorem dX6_film_64 : decode cX6_film 64 = .ok (.getfield 7, 3) := by decide +kernel
theorem dX6_film_67 : decode cX6_film 67 = .ok (.bipush 21, 2) := by decide +kernel
theorem dX6_film_69 : decode cX6_film 69 = .ok (.iaload, 1) := by decide +kernel
theorem dX6_film_70 : decode cX6_film 70 = .ok (.iload 7, 2) := by decide +kernel
theorem dX6_film_72 : decode cX6_film 72 = .ok (.isub, 1) := by decide +kernel
theorem dX6_film_73 : decode cX6_film 73 = .ok (.if_icmp .le 6, 3) := by decide +kernel
theorem dX6_film_76 : decode cX6_film 76 = .ok (.bipush (-2), 2) := by decide +kernel
theorem dX6_film_78 : decode cX6_film 78 = .ok (.ireturn, 1) := by decide +kernel
theorem dX6_film_79 : decode cX6_film 79 = .ok (.aload_n 0, 1) := by decide +kernel
theorem dX6_film_80 : decode cX6_film 80 = .ok (.invokevirtual 156, 3) := by decide +kernel
theorem dX6_film_83 : decode cX6_film 83 = .ok (.iconst 0, 1) := by decide +kernel
theorem dX6_film_84 : decode cX6_film 84 = .ok (.istore 8, 2) := by decide +kernel
theorem dX6_film_86 : decode cX6_film 86 = .ok (.iload 8, 2) := by decide +kernel
theorem dX6_film_88 : decode cX6_film 88 = .ok (.iload_n 2, 1) := by decide +kernel
theorem dX6_film_89 : decode cX6_film 89 = .ok (.if_icmp .ge 47, 3) := by decide +kernel
theorem dX6_film_92 : decode cX6_film 92 = .ok (.aload_n 0, 1) := by decide +kernel
theorem dX6_film_93 : decode cX6_film 93 = .ok (.getfield 16, 3) := by decide +kernel
theorem dX6_film_96 : decode cX6_film 96 = .ok (.bipush 24, 2) := by decide +kernel
theorem dX6_film_98 : decode cX6_film 98 = .ok (.iload_n 3, 1) := by decide +kernel
theorem dX6_film_99 : decode cX6_film 99 = .ok (.imul, 1) := by decide +kernel
theorem dX6_film_100 : decode cX6_film 100 = .ok (.iload 5, 2) := by decide +kernel
theorem dX6_film_102 : decode cX6_film 102 = .ok (.iadd, 1) := by decide +kernel
theorem dX6_film_103 : decode cX6_film 103 = .ok (.iload 8, 2) := by decide +kernel
theorem dX6_film_105 : decode cX6_film 105 = .ok (.iadd, 1) := by decide +kernel
theorem dX6_film_106 : decode cX6_film 106 = .ok (.iload 4, 2) := by decide +kernel
theorem dX6_film_108 : decode cX6_film 108 = .ok (.aload_n 0, 1) := by decide +kernel
theorem dX6_film_109 : decode cX6_film 109 = .ok (.getfield 26, 3) := by decide +kernel
theorem dX6_film_112 : decode cX6_film 112 = .ok (.bipush 9, 2) := by decide +kernel
theorem dX6_film_114 : decode cX6_film 114 = .ok (.iload_n 1, 1) := by decide +kernel
theorem dX6_film_115 : decode cX6_film 115 = .ok (.imul, 1) := by decide +kernel
theorem dX6_film_116 : decode cX6_film 116 = .ok (.iload 7, 2) := by decide +kernel
theorem dX6_film_118 : decode cX6_film 118 = .ok (.iadd, 1) := by decide +kernel
theorem dX6_film_119 : decode cX6_film 119 = .ok (.iconst 1, 1) := by decide +kernel
theorem dX6_film_120 : decode cX6_film 120 = .ok (.iadd, 1) := by decide +kernel
theorem dX6_film_121 : decode cX6_film 121 = .ok (.iload 8, 2) := by decide +kernel
theorem dX6_film_123 : decode cX6_film 123 = .ok (.iadd, 1) := by decide +kernel
theorem dX6_film_124 : decode cX6_film 124 = .ok (.iaload, 1) := by decide +kernel
theorem dX6_film_125 : decode cX6_film 125 = .ok (.i2l, 1) := by decide +kernel
theorem dX6_film_126 : decode cX6_film 126 = .ok (.invokestatic 194, 3) := by decide +kernel
theorem dX6_film_129 : decode cX6_film 129 = .ok (.lastore, 1) := by decide +kernel
theorem dX6_film_130 : decode cX6_film 130 = .ok (.iinc 8 1, 3) := by decide +kernel
theorem dX6_film_133 : decode cX6_film 133 = .ok (.goto (-47), 3) := by decide +kernel
theorem dX6_film_136 : decode cX6_film 136 = .ok (.iload_n 2, 1) := by decide +kernel
theorem dX6_film_137 : decode cX6_film 137 = .ok (.ireturn, 1) := by decide +kernel
theorem dX6_sheet_0 : decode cX6_sheet 0 = .ok (.iload_n 1, 1) := by decide +kernel
theorem dX6_sheet_1 : decode cX6_sheet 1 = .ok (.iload_n 2, 1) := by decide +kernel
theorem dX6_sheet_2 : decode cX6_sheet 2 = .ok (.invokestatic 185, 3) := by decide +kernel
theorem dX6_sheet_5 : decode cX6_sheet 5 = .ok (.ifCond .eq 9, 3) := by decide +kernel
theorem dX6_sheet_8 : decode cX6_sheet 8 = .ok (.iload_n 3, 1) := by decide +kernel
theorem dX6_sheet_9 : decode cX6_sheet 9 = .ok (.bipush 24, 2) := by decide +kernel
theorem dX6_sheet_11 : decode cX6_sheet 11 = .ok (.if_icmp .le 5, 3) := by decide +kernel
theorem dX6_sheet_14 : decode cX6_sheet 14 = .ok (.iconst (-1), 1) := by decide +kernel
theorem dX6_sheet_15 : decode cX6_sheet 15 = .ok (.ireturn, 1) := by decide +kernel
theorem dX6_sheet_16 : decode cX6_sheet 16 = .ok (.iload_n 3, 1) := by decide +kernel
theorem dX6_sheet_17 : decode cX6_sheet 17 = .ok (.ifCond .ge 6, 3) := by decide +kernel
theorem dX6_sheet_20 : decode cX6_sheet 20 = .ok (.bipush (-14), 2) := by decide +kernel
theorem dX6_sheet_22 : decode cX6_sheet 22 = .ok (.ireturn, 1) := by decide +kernel
theorem dX6_sheet_23 : decode cX6_sheet 23 = .ok (.aload_n 0, 1) := by decide +kernel
theorem dX6_sheet_24 : decode cX6_sheet 24 = .ok (.getfield 20, 3) := by decide +kernel
theorem dX6_sheet_27 : decode cX6_sheet 27 = .ok (.iload_n 1, 1) := by decide +kernel
theorem dX6_sheet_28 : decode cX6_sheet 28 = .ok (.iload_n 2, 1) := by decide +kernel
theorem dX6_sheet_29 : decode cX6_sheet 29 = .ok (.iastore, 1) := by decide +kernel
theorem dX6_sheet_30 : decode cX6_sheet 30 = .ok (.aload_n 0, 1) := by decide +kernel
theorem dX6_sheet_31 : decode cX6_sheet 31 = .ok (.getfield 23, 3) := by decide +kernel
theorem dX6_sheet_34 : decode cX6_sheet 34 = .ok (.iload_n 1, 1) := by decide +kernel
theorem dX6_sheet_35 : decode cX6_sheet 35 = .ok (.iload_n 3, 1) := by decide +kernel
theorem dX6_sheet_36 : decode cX6_sheet 36 = .ok (.iastore, 1) := by decide +kernel
theorem dX6_sheet_37 : decode cX6_sheet 37 = .ok (.iconst 0, 1) := by decide +kernel
theorem dX6_sheet_38 : decode cX6_sheet 38 = .ok (.istore 4, 2) := by decide +kernel
theorem dX6_sheet_40 : decode cX6_sheet 40 = .ok (.iload 4, 2) := by decide +kernel
theorem dX6_sheet_42 : decode cX6_sheet 42 = .ok (.bipush 24, 2) := by decide +kernel
theorem dX6_sheet_44 : decode cX6_sheet 44 = .ok (.if_icmp .ge 22, 3) := by decide +kernel
theorem dX6_sheet_47 : decode cX6_sheet 47 = .ok (.aload_n 0, 1) := by decide +kernel
theorem dX6_sheet_48 : decode cX6_sheet 48 = .ok (.getfield 16, 3) := by decide +kernel
theorem dX6_sheet_51 : decode cX6_sheet 51 = .ok (.bipush 24, 2) := by decide +kernel
theorem dX6_sheet_53 : decode cX6_sheet 53 = .ok (.iload_n 1, 1) := by decide +kernel
theorem dX6_sheet_54 : decode cX6_sheet 54 = .ok (.imul, 1) := by decide +kernel
theorem dX6_sheet_55 : decode cX6_sheet 55 = .ok (.iload 4, 2) := by decide +kernel
theorem dX6_sheet_57 : decode cX6_sheet 57 = .ok (.iadd, 1) := by decide +kernel
theorem dX6_sheet_58 : decode cX6_sheet 58 = .ok (.lconst 0, 1) := by decide +kernel
theorem dX6_sheet_59 : decode cX6_sheet 59 = .ok (.lastore, 1) := by decide +kernel
theorem dX6_sheet_60 : decode cX6_sheet 60 = .ok (.iinc 4 1, 3) := by decide +kernel
theorem dX6_sheet_63 : decode cX6_sheet 63 = .ok (.goto (-23), 3) := by decide +kernel
theorem dX6_sheet_66 : decode cX6_sheet 66 = .ok (.iload_n 3, 1) := by decide +kernel
theorem dX6_sheet_67 : decode cX6_sheet 67 = .ok (.ireturn, 1) := by decide +kernel
theorem dX6_drop_0 : decode cX6_drop 0 = .ok (.iload_n 1, 1) := by decide +kernel
theorem dX6_drop_1 : decode cX6_drop 1 = .ok (.invokestatic 182, 3) := by decide +kernel
theorem dX6_drop_4 : decode cX6_drop 4 = .ok (.ifCond .ne 5, 3) := by decide +kernel
theorem dX6_drop_7 : decode cX6_drop 7 = .ok (.iconst (-1), 1) := by decide +kernel
theorem dX6_drop_8 : decode cX6_drop 8 = .ok (.ireturn, 1) := by decide +kernel
theorem dX6_drop_9 : decode cX6_drop 9 = .ok (.aload_n 0, 1) := by decide +kernel
theorem dX6_drop_10 : decode cX6_drop 10 = .ok (.getfield 23, 3) := by decide +kernel
theorem dX6_drop_13 : decode cX6_drop 13 = .ok (.iload_n 1, 1) := by decide +kernel
theorem dX6_drop_14 : decode cX6_drop 14 = .ok (.iaload, 1) := by decide +kernel
theorem dX6_drop_15 : decode cX6_drop 15 = .ok (.ifCond .ge 6, 3) := by decide +kernel
theorem dX6_drop_18 : decode cX6_drop 18 = .ok (.bipush (-11), 2) := by decide +kernel
theorem dX6_drop_20 : decode cX6_drop 20 = .ok (.ireturn, 1) := by decide +kernel
theorem dX6_drop_21 : decode cX6_drop 21 = .ok (.aload_n 0, 1) := by decide +kernel
theorem dX6_drop_22 : decode cX6_drop 22 = .ok (.getfield 23, 3) := by decide +kernel
theorem dX6_drop_25 : decode cX6_drop 25 = .ok (.iload_n 1, 1) := by decide +kernel
theorem dX6_drop_26 : decode cX6_drop 26 = .ok (.iaload, 1) := by decide +kernel
theorem dX6_drop_27 : decode cX6_drop 27 = .ok (.istore_n 2, 1) := by decide +kernel
theorem dX6_drop_28 : decode cX6_drop 28 = .ok (.aload_n 0, 1) := by decide +kernel
theorem dX6_drop_29 : decode cX6_drop 29 = .ok (.getfield 23, 3) := by decide +kernel
theorem dX6_drop_32 : decode cX6_drop 32 = .ok (.iload_n 1, 1) := by decide +kernel
theorem dX6_drop_33 : decode cX6_drop 33 = .ok (.iconst (-1), 1) := by decide +kernel
theorem dX6_drop_34 : decode cX6_drop 34 = .ok (.iastore, 1) := by decide +kernel
theorem dX6_drop_35 : decode cX6_drop 35 = .ok (.iload_n 2, 1) := by decide +kernel
theorem dX6_drop_36 : decode cX6_drop 36 = .ok (.ireturn, 1) := by decide +kernel
theorem dX6_item_0 : decode cX6_item 0 = .ok (.iload_n 1, 1) := by decide +kernel
theorem dX6_item_1 : decode cX6_item 1 = .ok (.iload_n 2, 1) := by decide +kernel
theorem dX6_item_2 : decode cX6_item 2 = .ok (.invokestatic 185, 3) := by decide +kernel
theorem dX6_item_5 : decode cX6_item 5 = .ok (.ifCond .ne 5, 3) := by decide +kernel
theorem dX6_item_8 : decode cX6_item 8 = .ok (.iconst (-1), 1) := by decide +kernel
theorem dX6_item_9 : decode cX6_item 9 = .ok (.ireturn, 1) := by decide +kernel
theorem dX6_item_10 : decode cX6_item 10 = .ok (.aload_n 0, 1) := by decide +kernel
theorem dX6_item_11 : decode cX6_item 11 = .ok (.iload_n 1, 1) := by decide +kernel
theorem dX6_item_12 : decode cX6_item 12 = .ok (.iload_n 2, 1) := by decide +kernel
theorem dX6_item_13 : decode cX6_item 13 = .ok (.iload_n 3, 1) := by decide +kernel
theorem dX6_item_14 : decode cX6_item 14 = .ok (.iconst 1, 1) := by decide +kernel
theorem dX6_item_15 : decode cX6_item 15 = .ok (.invokevirtual 190, 3) := by decide +kernel
theorem dX6_item_18 : decode cX6_item 18 = .ok (.istore 6, 2) := by decide +kernel
theorem dX6_item_20 : decode cX6_item 20 = .ok (.iload 6, 2) := by decide +kernel
theorem dX6_item_22 : decode cX6_item 22 = .ok (.ifCond .ge 6, 3) := by decide +kernel
theorem dX6_item_25 : decode cX6_item 25 = .ok (.iload 6, 2) := by decide +kernel
theorem dX6_item_27 : decode cX6_item 27 = .ok (.ireturn, 1) := by decide +kernel
theorem dX6_item_28 : decode cX6_item 28 = .ok (.aload_n 0, 1) := by decide +kernel
theorem dX6_item_29 : decode cX6_item 29 = .ok (.getfield 16, 3) := by decide +kernel
theorem dX6_item_32 : decode cX6_item 32 = .ok (.bipush 24, 2) := by decide +kernel
theorem dX6_item_34 : decode cX6_item 34 = .ok (.iload_n 1, 1) := by decide +kernel
theorem dX6_item_35 : decode cX6_item 35 = .ok (.imul, 1) := by decide +kernel
theorem dX6_item_36 : decode cX6_item 36 = .ok (.iload_n 3, 1) := by decide +kernel
theorem dX6_item_37 : decode cX6_item 37 = .ok (.iadd, 1) := by decide +kernel
theorem dX6_item_38 : decode cX6_item 38 = .ok (.iload_n 2, 1) := by decide +kernel
theorem dX6_item_39 : decode cX6_item 39 = .ok (.lload 4, 2) := by decide +kernel
theorem dX6_item_41 : decode cX6_item 41 = .ok (.invokestatic 194, 3) := by decide +kernel
theorem dX6_item_44 : decode cX6_item 44 = .ok (.lastore, 1) := by decide +kernel
theorem dX6_item_45 : decode cX6_item 45 = .ok (.iconst 1, 1) := by decide +kernel
theorem dX6_item_46 : decode cX6_item 46 = .ok (.ireturn, 1) := by decide +kernel
theorem dX6_copy_0 : decode cX6_copy 0 = .ok (.iload_n 1, 1) := by decide +kernel
theorem dX6_copy_1 : decode cX6_copy 1 = .ok (.invokestatic 182, 3) := by decide +kernel
theorem dX6_copy_4 : decode cX6_copy 4 = .ok (.ifCond .eq 10, 3) := by decide +kernel
theorem dX6_copy_7 : decode cX6_copy 7 = .ok (.iload_n 3, 1) := by decide +kernel
theorem dX6_copy_8 : decode cX6_copy 8 = .ok (.invokestatic 182, 3) := by decide +kernel
theorem dX6_copy_11 : decode cX6_copy 11 = .ok (.ifCond .ne 5, 3) := by decide +kernel
theorem dX6_copy_14 : decode cX6_copy 14 = .ok (.iconst (-1), 1) := by decide +kernel
theorem dX6_copy_15 : decode cX6_copy 15 = .ok (.ireturn, 1) := by decide +kernel
theorem dX6_copy_16 : decode cX6_copy 16 = .ok (.aload_n 0, 1) := by decide +kernel
theorem dX6_copy_17 : decode cX6_copy 17 = .ok (.getfield 23, 3) := by decide +kernel
theorem dX6_copy_20 : decode cX6_copy 20 = .ok (.iload_n 1, 1) := by decide +kernel
theorem dX6_copy_21 : decode cX6_copy 21 = .ok (.iaload, 1) := by decide +kernel
theorem dX6_copy_22 : decode cX6_copy 22 = .ok (.ifCond .lt 12, 3) := by decide +kernel
theorem dX6_copy_25 : decode cX6_copy 25 = .ok (.aload_n 0, 1) := by decide +kernel
theorem dX6_copy_26 : decode cX6_copy 26 = .ok (.getfield 23, 3) := by decide +kernel
theorem dX6_copy_29 : decode cX6_copy 29 = .ok (.iload_n 3, 1) := by decide +kernel
theorem dX6_copy_30 : decode cX6_copy 30 = .ok (.iaload, 1) := by decide +kernel
theorem dX6_copy_31 : decode cX6_copy 31 = .ok (.ifCond .ge 6, 3) := by decide +kernel
theorem dX6_copy_34 : decode cX6_copy 34 = .ok (.bipush (-11), 2) := by decide +kernel
theorem dX6_copy_36 : decode cX6_copy 36 = .ok (.ireturn, 1) := by decide +kernel
theorem dX6_copy_37 : decode cX6_copy 37 = .ok (.aload_n 0, 1) := by decide +kernel
theorem dX6_copy_38 : decode cX6_copy 38 = .ok (.getfield 20, 3) := by decide +kernel
theorem dX6_copy_41 : decode cX6_copy 41 = .ok (.iload_n 1, 1) := by decide +kernel
theorem dX6_copy_42 : decode cX6_copy 42 = .ok (.iaload, 1) := by decide +kernel
theorem dX6_copy_43 : decode cX6_copy 43 = .ok (.aload_n 0, 1) := by decide +kernel
theorem dX6_copy_44 : decode cX6_copy 44 = .ok (.getfield 20, 3) := by decide +kernel
theorem dX6_copy_47 : decode cX6_copy 47 = .ok (.iload_n 3, 1) := by decide +kernel
theorem dX6_copy_48 : decode cX6_copy 48 = .ok (.iaload, 1) := by decide +kernel
theorem dX6_copy_49 : decode cX6_copy 49 = .ok (.if_icmp .eq 6, 3) := by decide +kernel
theorem dX6_copy_52 : decode cX6_copy 52 = .ok (.bipush (-12), 2) := by decide +kernel
theorem dX6_copy_54 : decode cX6_copy 54 = .ok (.ireturn, 1) := by decide +kernel
theorem dX6_copy_55 : decode cX6_copy 55 = .ok (.aload_n 0, 1) := by decide +kernel
theorem dX6_copy_56 : decode cX6_copy 56 = .ok (.iload_n 1, 1) := by decide +kernel
theorem dX6_copy_57 : decode cX6_copy 57 = .ok (.aload_n 0, 1) := by decide +kernel
theorem dX6_copy_58 : decode cX6_copy 58 = .ok (.getfield 20, 3) := by decide +kernel
theorem dX6_copy_61 : decode cX6_copy 61 = .ok (.iload_n 1, 1) := by decide +kernel
theorem dX6_copy_62 : decode cX6_copy 62 = .ok (.iaload, 1) := by decide +kernel
theorem dX6_copy_63 : decode cX6_copy 63 = .ok (.iload_n 2, 1) := by decide +kernel
theorem dX6_copy_64 : decode cX6_copy 64 = .ok (.iload 5, 2) := by decide +kernel
theorem dX6_copy_66 : decode cX6_copy 66 = .ok (.invokevirtual 190, 3) := by decide +kernel
theorem dX6_copy_69 : decode cX6_copy 69 = .ok (.ifCond .lt 21, 3) := by decide +kernel
theorem dX6_copy_72 : decode cX6_copy 72 = .ok (.aload_n 0, 1) := by decide +kernel
theorem dX6_copy_73 : decode cX6_copy 73 = .ok (.iload_n 3, 1) := by decide +kernel
theorem dX6_copy_74 : decode cX6_copy 74 = .ok (.aload_n 0, 1) := by decide +kernel
theorem dX6_copy_75 : decode cX6_copy 75 = .ok (.getfield 20, 3) := by decide +kernel
theorem dX6_copy_78 : decode cX6_copy 78 = .ok (.iload_n 3, 1) := by decide +kernel
theorem dX6_copy_79 : decode cX6_copy 79 = .ok (.iaload, 1) := by decide +kernel
theorem dX6_copy_80 : decode cX6_copy 80 = .ok (.iload 4, 2) := by decide +kernel
theorem dX6_copy_82 : decode cX6_copy 82 = .ok (.iload 5, 2) := by decide +kernel
theorem dX6_copy_84 : decode cX6_copy 84 = .ok (.invokevirtual 190, 3) := by decide +kernel
theorem dX6_copy_87 : decode cX6_copy 87 = .ok (.ifCond .ge 6, 3) := by decide +kernel
theorem dX6_copy_90 : decode cX6_copy 90 = .ok (.bipush (-13), 2) := by decide +kernel
theorem dX6_copy_92 : decode cX6_copy 92 = .ok (.ireturn, 1) := by decide +kernel
theorem dX6_copy_93 : decode cX6_copy 93 = .ok (.iconst 0, 1) := by decide +kernel
theorem dX6_copy_94 : decode cX6_copy 94 = .ok (.istore 6, 2) := by decide +kernel
theorem dX6_copy_96 : decode cX6_copy 96 = .ok (.iload 6, 2) := by decide +kernel
theorem dX6_copy_98 : decode cX6_copy 98 = .ok (.iload 5, 2) := by decide +kernel
theorem dX6_copy_100 : decode cX6_copy 100 = .ok (.if_icmp .ge 30, 3) := by decide +kernel
theorem dX6_copy_103 : decode cX6_copy 103 = .ok (.aload_n 0, 1) := by decide +kernel
theorem dX6_copy_104 : decode cX6_copy 104 = .ok (.getfield 35, 3) := by decide +kernel
theorem dX6_copy_107 : decode cX6_copy 107 = .ok (.iload 6, 2) := by decide +kernel
theorem dX6_copy_109 : decode cX6_copy 109 = .ok (.aload_n 0, 1) := by decide +kernel
theorem dX6_copy_110 : decode cX6_copy 110 = .ok (.getfield 16, 3) := by decide +kernel
theorem dX6_copy_113 : decode cX6_copy 113 = .ok (.bipush 24, 2) := by decide +kernel
theorem dX6_copy_115 : decode cX6_copy 115 = .ok (.iload_n 1, 1) := by decide +kernel
theorem dX6_copy_116 : decode cX6_copy 116 = .ok (.imul, 1) := by decide +kernel
theorem dX6_copy_117 : decode cX6_copy 117 = .ok (.iload_n 2, 1) := by decide +kernel
theorem dX6_copy_118 : decode cX6_copy 118 = .ok (.iadd, 1) := by decide +kernel
theorem dX6_copy_119 : decode cX6_copy 119 = .ok (.iload 6, 2) := by decide +kernel
theorem dX6_copy_121 : decode cX6_copy 121 = .ok (.iadd, 1) := by decide +kernel
theorem dX6_copy_122 : decode cX6_copy 122 = .ok (.laload, 1) := by decide +kernel
theorem dX6_copy_123 : decode cX6_copy 123 = .ok (.lastore, 1) := by decide +kernel
theorem dX6_copy_124 : decode cX6_copy 124 = .ok (.iinc 6 1, 3) := by decide +kernel
theorem dX6_copy_127 : decode cX6_copy 127 = .ok (.goto (-31), 3) := by decide +kernel
theorem dX6_copy_130 : decode cX6_copy 130 = .ok (.iconst 0, 1) := by decide +kernel
theorem dX6_copy_131 : decode cX6_copy 131 = .ok (.istore 6, 2) := by decide +kernel
theorem dX6_copy_133 : decode cX6_copy 133 = .ok (.iload 6, 2) := by decide +kernel
theorem dX6_copy_135 : decode cX6_copy 135 = .ok (.iload 5, 2) := by decide +kernel
theorem dX6_copy_137 : decode cX6_copy 137 = .ok (.if_icmp .ge 31, 3) := by decide +kernel
theorem dX6_copy_140 : decode cX6_copy 140 = .ok (.aload_n 0, 1) := by decide +kernel
theorem dX6_copy_141 : decode cX6_copy 141 = .ok (.getfield 16, 3) := by decide +kernel
theorem dX6_copy_144 : decode cX6_copy 144 = .ok (.bipush 24, 2) := by decide +kernel
theorem dX6_copy_146 : decode cX6_copy 146 = .ok (.iload_n 3, 1) := by decide +kernel
theorem dX6_copy_147 : decode cX6_copy 147 = .ok (.imul, 1) := by decide +kernel
theorem dX6_copy_148 : decode cX6_copy 148 = .ok (.iload 4, 2) := by decide +kernel
theorem dX6_copy_150 : decode cX6_copy 150 = .ok (.iadd, 1) := by decide +kernel
theorem dX6_copy_151 : decode cX6_copy 151 = .ok (.iload 6, 2) := by decide +kernel
theorem dX6_copy_153 : decode cX6_copy 153 = .ok (.iadd, 1) := by decide +kernel
theorem dX6_copy_154 : decode cX6_copy 154 = .ok (.aload_n 0, 1) := by decide +kernel
theorem dX6_copy_155 : decode cX6_copy 155 = .ok (.getfield 35, 3) := by decide +kernel
theorem dX6_copy_158 : decode cX6_copy 158 = .ok (.iload 6, 2) := by decide +kernel
theorem dX6_copy_160 : decode cX6_copy 160 = .ok (.laload, 1) := by decide +kernel
theorem dX6_copy_161 : decode cX6_copy 161 = .ok (.lastore, 1) := by decide +kernel
theorem dX6_copy_162 : decode cX6_copy 162 = .ok (.iinc 6 1, 3) := by decide +kernel
theorem dX6_copy_165 : decode cX6_copy 165 = .ok (.goto (-32), 3) := by decide +kernel
theorem dX6_copy_168 : decode cX6_copy 168 = .ok (.iload 5, 2) := by decide +kernel
theorem dX6_copy_170 : decode cX6_copy 170 = .ok (.ireturn, 1) := by decide +kernel
