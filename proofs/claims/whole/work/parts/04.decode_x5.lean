theorem dX5_init_0 : decode cX5_init 0 = .ok (.aload_n 0, 1) := by decide +kernel
theorem dX5_init_1 : decode cX5_init 1 = .ok (.invokespecial 1, 3) := by decide +kernel
theorem dX5_init_4 : decode cX5_init 4 = .ok (.aload_n 0, 1) := by decide +kernel
theorem dX5_init_5 : decode cX5_init 5 = .ok (.new 7, 3) := by decide +kernel
theorem dX5_init_8 : decode cX5_init 8 = .ok (.dup, 1) := by decide +kernel
theorem dX5_init_9 : decode cX5_init 9 = .ok (.invokespecial 9, 3) := by decide +kernel
theorem dX5_init_12 : decode cX5_init 12 = .ok (.putfield 10, 3) := by decide +kernel
theorem dX5_init_15 : decode cX5_init 15 = .ok (.aload_n 0, 1) := by decide +kernel
theorem dX5_init_16 : decode cX5_init 16 = .ok (.new 16, 3) := by decide +kernel
theorem dX5_init_19 : decode cX5_init 19 = .ok (.dup, 1) := by decide +kernel
theorem dX5_init_20 : decode cX5_init 20 = .ok (.invokespecial 18, 3) := by decide +kernel
theorem dX5_init_23 : decode cX5_init 23 = .ok (.putfield 19, 3) := by decide +kernel
theorem dX5_init_26 : decode cX5_init 26 = .ok (.aload_n 0, 1) := by decide +kernel
theorem dX5_init_27 : decode cX5_init 27 = .ok (.new 7, 3) := by decide +kernel
theorem dX5_init_30 : decode cX5_init 30 = .ok (.dup, 1) := by decide +kernel
theorem dX5_init_31 : decode cX5_init 31 = .ok (.invokespecial 9, 3) := by decide +kernel
theorem dX5_init_34 : decode cX5_init 34 = .ok (.putfield 23, 3) := by decide +kernel
theorem dX5_init_37 : decode cX5_init 37 = .ok (.aload_n 0, 1) := by decide +kernel
theorem dX5_init_38 : decode cX5_init 38 = .ok (.new 16, 3) := by decide +kernel
theorem dX5_init_41 : decode cX5_init 41 = .ok (.dup, 1) := by decide +kernel
theorem dX5_init_42 : decode cX5_init 42 = .ok (.invokespecial 18, 3) := by decide +kernel
theorem dX5_init_45 : decode cX5_init 45 = .ok (.putfield 26, 3) := by decide +kernel
theorem dX5_init_48 : decode cX5_init 48 = .ok (.aload_n 0, 1) := by decide +kernel
theorem dX5_init_49 : decode cX5_init 49 = .ok (.iconst 0, 1) := by decide +kernel
theorem dX5_init_50 : decode cX5_init 50 = .ok (.putfield 29, 3) := by decide +kernel
theorem dX5_init_53 : decode cX5_init 53 = .ok (.aload_n 0, 1) := by decide +kernel
theorem dX5_init_54 : decode cX5_init 54 = .ok (.new 33, 3) := by decide +kernel
theorem dX5_init_57 : decode cX5_init 57 = .ok (.dup, 1) := by decide +kernel
theorem dX5_init_58 : decode cX5_init 58 = .ok (.invokespecial 35, 3) := by decide +kernel
theorem dX5_init_61 : decode cX5_init 61 = .ok (.putfield 36, 3) := by decide +kernel
theorem dX5_init_64 : decode cX5_init 64 = .ok (.aload_n 0, 1) := by decide +kernel
theorem dX5_init_65 : decode cX5_init 65 = .ok (.new 40, 3) := by decide +kernel
theorem dX5_init_68 : decode cX5_init 68 = .ok (.dup, 1) := by decide +kernel
theorem dX5_init_69 : decode cX5_init 69 = .ok (.invokespecial 42, 3) := by decide +kernel
theorem dX5_init_72 : decode cX5_init 72 = .ok (.putfield 43, 3) := by decide +kernel
theorem dX5_init_75 : decode cX5_init 75 = .ok (.aload_n 0, 1) := by decide +kernel
theorem dX5_init_76 : decode cX5_init 76 = .ok (.iconst 4, 1) := by decide +kernel
theorem dX5_init_77 : decode cX5_init 77 = .ok (.anewarray 47, 3) := by decide +kernel
theorem dX5_init_80 : decode cX5_init 80 = .ok (.dup, 1) := by decide +kernel
theorem dX5_init_81 : decode cX5_init 81 = .ok (.iconst 0, 1) := by decide +kernel
theorem dX5_init_82 : decode cX5_init 82 = .ok (.new 47, 3) := by decide +kernel
theorem dX5_init_85 : decode cX5_init 85 = .ok (.dup, 1) := by decide +kernel
theorem dX5_init_86 : decode cX5_init 86 = .ok (.invokespecial 49, 3) := by decide +kernel
theorem dX5_init_89 : decode cX5_init 89 = .ok (.aastore, 1) := by decide +kernel
theorem dX5_init_90 : decode cX5_init 90 = .ok (.dup, 1) := by decide +kernel
theorem dX5_init_91 : decode cX5_init 91 = .ok (.iconst 1, 1) := by decide +kernel
theorem dX5_init_92 : decode cX5_init 92 = .ok (.new 47, 3) := by decide +kernel
theorem dX5_init_95 : decode cX5_init 95 = .ok (.dup, 1) := by decide +kernel
theorem dX5_init_96 : decode cX5_init 96 = .ok (.invokespecial 49, 3) := by decide +kernel
theorem dX5_init_99 : decode cX5_init 99 = .ok (.aastore, 1) := by decide +kernel
theorem dX5_init_100 : decode cX5_init 100 = .ok (.dup, 1) := by decide +kernel
theorem dX5_init_101 : decode cX5_init 101 = .ok (.iconst 2, 1) := by decide +kernel
theorem dX5_init_102 : decode cX5_init 102 = .ok (.new 47, 3) := by decide +kernel
theorem dX5_init_105 : decode cX5_init 105 = .ok (.dup, 1) := by decide +kernel
theorem dX5_init_106 : decode cX5_init 106 = .ok (.invokespecial 49, 3) := by decide +kernel
theorem dX5_init_109 : decode cX5_init 109 = .ok (.aastore, 1) := by decide +kernel
theorem dX5_init_110 : decode cX5_init 110 = .ok (.dup, 1) := by decide +kernel
theorem dX5_init_111 : decode cX5_init 111 = .ok (.iconst 3, 1) := by decide +kernel
theorem dX5_init_112 : decode cX5_init 112 = .ok (.new 47, 3) := by decide +kernel
theorem dX5_init_115 : decode cX5_init 115 = .ok (.dup, 1) := by decide +kernel
theorem dX5_init_116 : decode cX5_init 116 = .ok (.invokespecial 49, 3) := by decide +kernel
theorem dX5_init_119 : decode cX5_init 119 = .ok (.aastore, 1) := by decide +kernel
theorem dX5_init_120 : decode cX5_init 120 = .ok (.putfield 50, 3) := by decide +kernel
theorem dX5_init_123 : decode cX5_init 123 = .ok (.aload_n 0, 1) := by decide +kernel
theorem dX5_init_124 : decode cX5_init 124 = .ok (.bipush 81, 2) := by decide +kernel
theorem dX5_init_126 : decode cX5_init 126 = .ok (.newarray .int, 2) := by decide +kernel
theorem dX5_init_128 : decode cX5_init 128 = .ok (.putfield 54, 3) := by decide +kernel
theorem dX5_init_131 : decode cX5_init 131 = .ok (.aload_n 0, 1) := by decide +kernel
theorem dX5_init_132 : decode cX5_init 132 = .ok (.bipush 81, 2) := by decide +kernel
theorem dX5_init_134 : decode cX5_init 134 = .ok (.newarray .int, 2) := by decide +kernel
theorem dX5_init_136 : decode cX5_init 136 = .ok (.putfield 58, 3) := by decide +kernel
theorem dX5_init_139 : decode cX5_init 139 = .ok (.return_, 1) := by decide +kernel
theorem dX5_stage_0 : decode cX5_stage 0 = .ok (.iload_n 1, 1) := by decide +kernel
theorem dX5_stage_1 : decode cX5_stage 1 = .ok (.iconst 1, 1) := by decide +kernel
theorem dX5_stage_2 : decode cX5_stage 2 = .ok (.bipush 9, 2) := by decide +kernel
theorem dX5_stage_4 : decode cX5_stage 4 = .ok (.invokestatic 61, 3) := by decide +kernel
theorem dX5_stage_7 : decode cX5_stage 7 = .ok (.ifCond .eq 22, 3) := by decide +kernel
theorem dX5_stage_10 : decode cX5_stage 10 = .ok (.iload_n 2, 1) := by decide +kernel
theorem dX5_stage_11 : decode cX5_stage 11 = .ok (.iconst 0, 1) := by decide +kernel
theorem dX5_stage_12 : decode cX5_stage 12 = .ok (.bipush 9, 2) := by decide +kernel
theorem dX5_stage_14 : decode cX5_stage 14 = .ok (.invokestatic 61, 3) := by decide +kernel
theorem dX5_stage_17 : decode cX5_stage 17 = .ok (.ifCond .eq 12, 3) := by decide +kernel
theorem dX5_stage_20 : decode cX5_stage 20 = .ok (.iload_n 3, 1) := by decide +kernel
theorem dX5_stage_21 : decode cX5_stage 21 = .ok (.iconst 0, 1) := by decide +kernel
theorem dX5_stage_22 : decode cX5_stage 22 = .ok (.iconst 4, 1) := by decide +kernel
theorem dX5_stage_23 : decode cX5_stage 23 = .ok (.invokestatic 61, 3) := by decide +kernel
theorem dX5_stage_26 : decode cX5_stage 26 = .ok (.ifCond .ne 5, 3) := by decide +kernel
theorem dX5_stage_29 : decode cX5_stage 29 = .ok (.iconst (-1), 1) := by decide +kernel
theorem dX5_stage_30 : decode cX5_stage 30 = .ok (.ireturn, 1) := by decide +kernel
theorem dX5_stage_31 : decode cX5_stage 31 = .ok (.aload_n 0, 1) := by decide +kernel
theorem dX5_stage_32 : decode cX5_stage 32 = .ok (.getfield 10, 3) := by decide +kernel
theorem dX5_stage_35 : decode cX5_stage 35 = .ok (.getfield 65, 3) := by decide +kernel
theorem dX5_stage_38 : decode cX5_stage 38 = .ok (.bipush 8, 2) := by decide +kernel
theorem dX5_stage_40 : decode cX5_stage 40 = .ok (.if_icmp .lt 6, 3) := by decide +kernel
theorem dX5_stage_43 : decode cX5_stage 43 = .ok (.bipush (-3), 2) := by decide +kernel
theorem dX5_stage_45 : decode cX5_stage 45 = .ok (.ireturn, 1) := by decide +kernel
theorem dX5_stage_46 : decode cX5_stage 46 = .ok (.aload_n 0, 1) := by decide +kernel
theorem dX5_stage_47 : decode cX5_stage 47 = .ok (.getfield 19, 3) := by decide +kernel
theorem dX5_stage_50 : decode cX5_stage 50 = .ok (.invokevirtual 69, 3) := by decide +kernel
theorem dX5_stage_53 : decode cX5_stage 53 = .ok (.aload_n 0, 1) := by decide +kernel
theorem dX5_stage_54 : decode cX5_stage 54 = .ok (.getfield 10, 3) := by decide +kernel
theorem dX5_stage_57 : decode cX5_stage 57 = .ok (.iload_n 1, 1) := by decide +kernel
theorem dX5_stage_58 : decode cX5_stage 58 = .ok (.iload_n 2, 1) := by decide +kernel
theorem dX5_stage_59 : decode cX5_stage 59 = .ok (.iload_n 3, 1) := by decide +kernel
theorem dX5_stage_60 : decode cX5_stage 60 = .ok (.invokevirtual 72, 3) := by decide +kernel
theorem dX5_stage_63 : decode cX5_stage 63 = .ok (.ireturn, 1) := by decide +kernel
theorem dX5_rider_0 : decode cX5_rider 0 = .ok (.iload_n 1, 1) := by decide +kernel
theorem dX5_rider_1 : decode cX5_rider 1 = .ok (.iconst 0, 1) := by decide +kernel
theorem dX5_rider_2 : decode cX5_rider 2 = .ok (.iconst 4, 1) := by decide +kernel
theorem dX5_rider_3 : decode cX5_rider 3 = .ok (.invokestatic 61, 3) := by decide +kernel
theorem dX5_rider_6 : decode cX5_rider 6 = .ok (.ifCond .eq 24, 3) := by decide +kernel
theorem dX5_rider_9 : decode cX5_rider 9 = .ok (.iload_n 2, 1) := by decide +kernel
theorem dX5_rider_10 : decode cX5_rider 10 = .ok (.iconst 0, 1) := by decide +kernel
theorem dX5_rider_11 : decode cX5_rider 11 = .ok (.sipush 999, 3) := by decide +kernel
theorem dX5_rider_14 : decode cX5_rider 14 = .ok (.invokestatic 61, 3) := by decide +kernel
theorem dX5_rider_17 : decode cX5_rider 17 = .ok (.ifCond .eq 13, 3) := by decide +kernel
theorem dX5_rider_20 : decode cX5_rider 20 = .ok (.iload_n 3, 1) := by decide +kernel
theorem dX5_rider_21 : decode cX5_rider 21 = .ok (.iconst 0, 1) := by decide +kernel
theorem dX5_rider_22 : decode cX5_rider 22 = .ok (.bipush 99, 2) := by decide +kernel
theorem dX5_rider_24 : decode cX5_rider 24 = .ok (.invokestatic 61, 3) := by decide +kernel
theorem dX5_rider_27 : decode cX5_rider 27 = .ok (.ifCond .ne 5, 3) := by decide +kernel
theorem dX5_rider_30 : decode cX5_rider 30 = .ok (.iconst (-1), 1) := by decide +kernel
theorem dX5_rider_31 : decode cX5_rider 31 = .ok (.ireturn, 1) := by decide +kernel
theorem dX5_rider_32 : decode cX5_rider 32 = .ok (.aload_n 0, 1) := by decide +kernel
theorem dX5_rider_33 : decode cX5_rider 33 = .ok (.getfield 10, 3) := by decide +kernel
theorem dX5_rider_36 : decode cX5_rider 36 = .ok (.getfield 76, 3) := by decide +kernel
theorem dX5_rider_39 : decode cX5_rider 39 = .ok (.iconst 4, 1) := by decide +kernel
theorem dX5_rider_40 : decode cX5_rider 40 = .ok (.if_icmp .lt 6, 3) := by decide +kernel
theorem dX5_rider_43 : decode cX5_rider 43 = .ok (.bipush (-3), 2) := by decide +kernel
theorem dX5_rider_45 : decode cX5_rider 45 = .ok (.ireturn, 1) := by decide +kernel
theorem dX5_rider_46 : decode cX5_rider 46 = .ok (.aload_n 0, 1) := by decide +kernel
theorem dX5_rider_47 : decode cX5_rider 47 = .ok (.getfield 19, 3) := by decide +kernel
theorem dX5_rider_50 : decode cX5_rider 50 = .ok (.invokevirtual 69, 3) := by decide +kernel
theorem dX5_rider_53 : decode cX5_rider 53 = .ok (.aload_n 0, 1) := by decide +kernel
theorem dX5_rider_54 : decode cX5_rider 54 = .ok (.getfield 10, 3) := by decide +kernel
theorem dX5_rider_57 : decode cX5_rider 57 = .ok (.iload_n 1, 1) := by decide +kernel
theorem dX5_rider_58 : decode cX5_rider 58 = .ok (.iload_n 2, 1) := by decide +kernel
theorem dX5_rider_59 : decode cX5_rider 59 = .ok (.iload_n 3, 1) := by decide +kernel
theorem dX5_rider_60 : decode cX5_rider 60 = .ok (.invokevirtual 79, 3) := by decide +kernel
theorem dX5_rider_63 : decode cX5_rider 63 = .ok (.ireturn, 1) := by decide +kernel
theorem dX5_of_0 : decode cX5_of 0 = .ok (.iload_n 1, 1) := by decide +kernel
theorem dX5_of_1 : decode cX5_of 1 = .ok (.iconst 0, 1) := by decide +kernel
theorem dX5_of_2 : decode cX5_of 2 = .ok (.aload_n 0, 1) := by decide +kernel
theorem dX5_of_3 : decode cX5_of 3 = .ok (.getfield 10, 3) := by decide +kernel
theorem dX5_of_6 : decode cX5_of 6 = .ok (.getfield 65, 3) := by decide +kernel
theorem dX5_of_9 : decode cX5_of 9 = .ok (.iconst 1, 1) := by decide +kernel
theorem dX5_of_10 : decode cX5_of 10 = .ok (.isub, 1) := by decide +kernel
theorem dX5_of_11 : decode cX5_of 11 = .ok (.invokestatic 61, 3) := by decide +kernel
theorem dX5_of_14 : decode cX5_of 14 = .ok (.ifCond .ne 5, 3) := by decide +kernel
theorem dX5_of_17 : decode cX5_of 17 = .ok (.iconst (-1), 1) := by decide +kernel
theorem dX5_of_18 : decode cX5_of 18 = .ok (.ireturn, 1) := by decide +kernel
theorem dX5_of_19 : decode cX5_of 19 = .ok (.iload_n 2, 1) := by decide +kernel
theorem dX5_of_20 : decode cX5_of 20 = .ok (.tableswitch 58 0 2 #[28, 38, 48], 28) := by decide +kernel
theorem dX5_of_48 : decode cX5_of 48 = .ok (.aload_n 0, 1) := by decide +kernel
theorem dX5_of_49 : decode cX5_of 49 = .ok (.getfield 10, 3) := by decide +kernel
theorem dX5_of_52 : decode cX5_of 52 = .ok (.getfield 82, 3) := by decide +kernel
theorem dX5_of_55 : decode cX5_of 55 = .ok (.iload_n 1, 1) := by decide +kernel
theorem dX5_of_56 : decode cX5_of 56 = .ok (.iaload, 1) := by decide +kernel
theorem dX5_of_57 : decode cX5_of 57 = .ok (.ireturn, 1) := by decide +kernel
theorem dX5_of_58 : decode cX5_of 58 = .ok (.aload_n 0, 1) := by decide +kernel
theorem dX5_of_59 : decode cX5_of 59 = .ok (.getfield 10, 3) := by decide +kernel
theorem dX5_of_62 : decode cX5_of 62 = .ok (.getfield 85, 3) := by decide +kernel
theorem dX5_of_65 : decode cX5_of 65 = .ok (.iload_n 1, 1) := by decide +kernel
theorem dX5_of_66 : decode cX5_of 66 = .ok (.iaload, 1) := by decide +kernel
theorem dX5_of_67 : decode cX5_of 67 = .ok (.ireturn, 1) := by decide +kernel
theorem dX5_of_68 : decode cX5_of 68 = .ok (.aload_n 0, 1) := by decide +kernel
theorem dX5_of_69 : decode cX5_of 69 = .ok (.getfield 10, 3) := by decide +kernel
theorem dX5_of_72 : decode cX5_of 72 = .ok (.getfield 88, 3) := by decide +kernel
theorem dX5_of_75 : decode cX5_of 75 = .ok (.iload_n 1, 1) := by decide +kernel
theorem dX5_of_76 : decode cX5_of 76 = .ok (.iaload, 1) := by decide +kernel
theorem dX5_of_77 : decode cX5_of 77 = .ok (.ireturn, 1) := by decide +kernel
theorem dX5_of_78 : decode cX5_of 78 = .ok (.iconst (-1), 1) := by decide +kernel
theorem dX5_of_79 : decode cX5_of 79 = .ok (.ireturn, 1) := by decide +kernel
theorem dX5_at_0 : decode cX5_at 0 = .ok (.aload_n 0, 1) := by decide +kernel
theorem dX5_at_1 : decode cX5_at 1 = .ok (.iload_n 1, 1) := by decide +kernel
theorem dX5_at_2 : decode cX5_at 2 = .ok (.invokevirtual 91, 3) := by decide +kernel
theorem dX5_at_5 : decode cX5_at 5 = .ok (.ifCond .ne 5, 3) := by decide +kernel
theorem dX5_at_8 : decode cX5_at 8 = .ok (.iconst (-1), 1) := by decide +kernel
theorem dX5_at_9 : decode cX5_at 9 = .ok (.ireturn, 1) := by decide +kernel
theorem dX5_at_10 : decode cX5_at 10 = .ok (.iload_n 2, 1) := by decide +kernel
theorem dX5_at_11 : decode cX5_at 11 = .ok (.tableswitch 105 0 6 #[41, 51, 61, 71, 81, 91, 98], 41) := by decide +kernel
theorem dX5_at_52 : decode cX5_at 52 = .ok (.aload_n 0, 1) := by decide +kernel
theorem dX5_at_53 : decode cX5_at 53 = .ok (.getfield 10, 3) := by decide +kernel
theorem dX5_at_56 : decode cX5_at 56 = .ok (.getfield 95, 3) := by decide +kernel
theorem dX5_at_59 : decode cX5_at 59 = .ok (.iload_n 1, 1) := by decide +kernel
theorem dX5_at_60 : decode cX5_at 60 = .ok (.iaload, 1) := by decide +kernel
theorem dX5_at_61 : decode cX5_at 61 = .ok (.ireturn, 1) := by decide +kernel
theorem dX5_at_62 : decode cX5_at 62 = .ok (.aload_n 0, 1) := by decide +kernel
theorem dX5_at_63 : decode cX5_at 63 = .ok (.getfield 10, 3) := by decide +kernel
theorem dX5_at_66 : decode cX5_at 66 = .ok (.getfield 98, 3) := by decide +kernel
theorem dX5_at_69 : decode cX5_at 69 = .ok (.iload_n 1, 1) := by decide +kernel
theorem dX5_at_70 : decode cX5_at 70 = .ok (.iaload, 1) := by decide +kernel
theorem dX5_at_71 : decode cX5_at 71 = .ok (.ireturn, 1) := by decide +kernel
theorem dX5_at_72 : decode cX5_at 72 = .ok (.aload_n 0, 1) := by decide +kernel
theorem dX5_at_73 : decode cX5_at 73 = .ok (.getfield 10, 3) := by decide +kernel
theorem dX5_at_76 : decode cX5_at 76 = .ok (.getfield 101, 3) := by decide +kernel
theorem dX5_at_79 : decode cX5_at 79 = .ok (.iload_n 1, 1) := by decide +kernel
theorem dX5_at_80 : decode cX5_at 80 = .ok (.iaload, 1) := by decide +kernel
theorem dX5_at_81 : decode cX5_at 81 = .ok (.ireturn, 1) := by decide +kernel
theorem dX5_at_82 : decode cX5_at 82 = .ok (.aload_n 0, 1) := by decide +kernel
theorem dX5_at_83 : decode cX5_at 83 = .ok (.getfield 10, 3) := by decide +kernel
theorem dX5_at_86 : decode cX5_at 86 = .ok (.getfield 104, 3) := by decide +kernel
theorem dX5_at_89 : decode cX5_at 89 = .ok (.iload_n 1, 1) := by decide +kernel
theorem dX5_at_90 : decode cX5_at 90 = .ok (.iaload, 1) := by decide +kernel
theorem dX5_at_91 : decode cX5_at 91 = .ok (.ireturn, 1) := by decide +kernel
theorem dX5_at_92 : decode cX5_at 92 = .ok (.aload_n 0, 1) := by decide +kernel
theorem dX5_at_93 : decode cX5_at 93 = .ok (.getfield 10, 3) := by decide +kernel
theorem dX5_at_96 : decode cX5_at 96 = .ok (.getfield 107, 3) := by decide +kernel
theorem dX5_at_99 : decode cX5_at 99 = .ok (.iload_n 1, 1) := by decide +kernel
theorem dX5_at_100 : decode cX5_at 100 = .ok (.iaload, 1) := by decide +kernel
theorem dX5_at_101 : decode cX5_at 101 = .ok (.ireturn, 1) := by decide +kernel
theorem dX5_at_102 : decode cX5_at 102 = .ok (.aload_n 0, 1) := by decide +kernel
theorem dX5_at_103 : decode cX5_at 103 = .ok (.iload_n 1, 1) := by decide +kernel
theorem dX5_at_104 : decode cX5_at 104 = .ok (.iconst 1, 1) := by decide +kernel
theorem dX5_at_105 : decode cX5_at 105 = .ok (.invokevirtual 110, 3) := by decide +kernel
theorem dX5_at_108 : decode cX5_at 108 = .ok (.ireturn, 1) := by decide +kernel
theorem dX5_at_109 : decode cX5_at 109 = .ok (.aload_n 0, 1) := by decide +kernel
theorem dX5_at_110 : decode cX5_at 110 = .ok (.iload_n 1, 1) := by decide +kernel
theorem dX5_at_111 : decode cX5_at 111 = .ok (.iconst 0, 1) := by decide +kernel
theorem dX5_at_112 : decode cX5_at 112 = .ok (.invokevirtual 110, 3) := by decide +kernel
theorem dX5_at_115 : decode cX5_at 115 = .ok (.ireturn, 1) := by decide +kernel
theorem dX5_at_116 : decode cX5_at 116 = .ok (.iconst (-1), 1) := by decide +kernel
theorem dX5_at_117 : decode cX5_at 117 = .ok (.ireturn, 1) := by decide +kernel
theorem dX5_buys_0 : decode cX5_buys 0 = .ok (.aload_n 0, 1) := by decide +kernel
theorem dX5_buys_1 : decode cX5_buys 1 = .ok (.iload_n 1, 1) := by decide +kernel
theorem dX5_buys_2 : decode cX5_buys 2 = .ok (.invokevirtual 91, 3) := by decide +kernel
theorem dX5_buys_5 : decode cX5_buys 5 = .ok (.ifCond .eq 22, 3) := by decide +kernel
theorem dX5_buys_8 : decode cX5_buys 8 = .ok (.iload_n 2, 1) := by decide +kernel
theorem dX5_buys_9 : decode cX5_buys 9 = .ok (.iconst 0, 1) := by decide +kernel
theorem dX5_buys_10 : decode cX5_buys 10 = .ok (.iconst 1, 1) := by decide +kernel
theorem dX5_buys_11 : decode cX5_buys 11 = .ok (.aload_n 0, 1) := by decide +kernel
theorem dX5_buys_12 : decode cX5_buys 12 = .ok (.getfield 10, 3) := by decide +kernel
theorem dX5_buys_15 : decode cX5_buys 15 = .ok (.getfield 65, 3) := by decide +kernel
theorem dX5_buys_18 : decode cX5_buys 18 = .ok (.ishl, 1) := by decide +kernel
theorem dX5_buys_19 : decode cX5_buys 19 = .ok (.iconst 1, 1) := by decide +kernel
theorem dX5_buys_20 : decode cX5_buys 20 = .ok (.isub, 1) := by decide +kernel
theorem dX5_buys_21 : decode cX5_buys 21 = .ok (.invokestatic 61, 3) := by decide +kernel
theorem dX5_buys_24 : decode cX5_buys 24 = .ok (.ifCond .ne 5, 3) := by decide +kernel
theorem dX5_buys_27 : decode cX5_buys 27 = .ok (.iconst (-1), 1) := by decide +kernel
theorem dX5_buys_28 : decode cX5_buys 28 = .ok (.ireturn, 1) := by decide +kernel
theorem dX5_buys_29 : decode cX5_buys 29 = .ok (.aload_n 0, 1) := by decide +kernel
theorem dX5_buys_30 : decode cX5_buys 30 = .ok (.getfield 10, 3) := by decide +kernel
theorem dX5_buys_33 : decode cX5_buys 33 = .ok (.getfield 107, 3) := by decide +kernel
theorem dX5_buys_36 : decode cX5_buys 36 = .ok (.iload_n 1, 1) := by decide +kernel
theorem dX5_buys_37 : decode cX5_buys 37 = .ok (.iaload, 1) := by decide +kernel
theorem dX5_buys_38 : decode cX5_buys 38 = .ok (.istore_n 3, 1) := by decide +kernel
theorem dX5_buys_39 : decode cX5_buys 39 = .ok (.aload_n 0, 1) := by decide +kernel
theorem dX5_buys_40 : decode cX5_buys 40 = .ok (.getfield 10, 3) := by decide +kernel
theorem dX5_buys_43 : decode cX5_buys 43 = .ok (.getfield 107, 3) := by decide +kernel
theorem dX5_buys_46 : decode cX5_buys 46 = .ok (.iload_n 1, 1) := by decide +kernel
theorem dX5_buys_47 : decode cX5_buys 47 = .ok (.iload_n 2, 1) := by decide +kernel
theorem dX5_buys_48 : decode cX5_buys 48 = .ok (.iastore, 1) := by decide +kernel
theorem dX5_buys_49 : decode cX5_buys 49 = .ok (.iload_n 3, 1) := by decide +kernel
theorem dX5_buys_50 : decode cX5_buys 50 = .ok (.ireturn, 1) := by decide +kernel
theorem dX5_price_0 : decode cX5_price 0 = .ok (.iload_n 1, 1) := by decide +kernel
theorem dX5_price_1 : decode cX5_price 1 = .ok (.iconst 1, 1) := by decide +kernel
theorem dX5_price_2 : decode cX5_price 2 = .ok (.bipush 9, 2) := by decide +kernel
theorem dX5_price_4 : decode cX5_price 4 = .ok (.invokestatic 61, 3) := by decide +kernel
theorem dX5_price_7 : decode cX5_price 7 = .ok (.ifCond .ne 5, 3) := by decide +kernel
theorem dX5_price_10 : decode cX5_price 10 = .ok (.iconst (-1), 1) := by decide +kernel
theorem dX5_price_11 : decode cX5_price 11 = .ok (.ireturn, 1) := by decide +kernel
theorem dX5_price_12 : decode cX5_price 12 = .ok (.aload_n 0, 1) := by decide +kernel
theorem dX5_price_13 : decode cX5_price 13 = .ok (.getfield 10, 3) := by decide +kernel
theorem dX5_price_16 : decode cX5_price 16 = .ok (.getfield 114, 3) := by decide +kernel
theorem dX5_price_19 : decode cX5_price 19 = .ok (.istore_n 2, 1) := by decide +kernel
theorem dX5_price_20 : decode cX5_price 20 = .ok (.aload_n 0, 1) := by decide +kernel
theorem dX5_price_21 : decode cX5_price 21 = .ok (.getfield 10, 3) := by decide +kernel
theorem dX5_price_24 : decode cX5_price 24 = .ok (.iload_n 1, 1) := by decide +kernel
theorem dX5_price_25 : decode cX5_price 25 = .ok (.putfield 114, 3) := by decide +kernel
theorem dX5_price_28 : decode cX5_price 28 = .ok (.iload_n 2, 1) := by decide +kernel
theorem dX5_price_29 : decode cX5_price 29 = .ok (.ireturn, 1) := by decide +kernel
theorem dX5_type_0 : decode cX5_type 0 = .ok (.iload_n 1, 1) := by decide +kernel
theorem dX5_type_1 : decode cX5_type 1 = .ok (.bipush 32, 2) := by decide +kernel
theorem dX5_type_3 : decode cX5_type 3 = .ok (.bipush 126, 2) := by decide +kernel
theorem dX5_type_5 : decode cX5_type 5 = .ok (.invokestatic 61, 3) := by decide +kernel
theorem dX5_type_8 : decode cX5_type 8 = .ok (.ifCond .ne 5, 3) := by decide +kernel
theorem dX5_type_11 : decode cX5_type 11 = .ok (.iconst (-1), 1) := by decide +kernel
theorem dX5_type_12 : decode cX5_type 12 = .ok (.ireturn, 1) := by decide +kernel
theorem dX5_type_13 : decode cX5_type 13 = .ok (.aload_n 0, 1) := by decide +kernel
theorem dX5_type_14 : decode cX5_type 14 = .ok (.getfield 43, 3) := by decide +kernel
theorem dX5_type_17 : decode cX5_type 17 = .ok (.invokevirtual 117, 3) := by decide +kernel
theorem dX5_type_20 : decode cX5_type 20 = .ok (.ifCond .eq 8, 3) := by decide +kernel
theorem dX5_type_23 : decode cX5_type 23 = .ok (.bipush (-3), 2) := by decide +kernel
theorem dX5_type_25 : decode cX5_type 25 = .ok (.goto 11, 3) := by decide +kernel
theorem dX5_type_28 : decode cX5_type 28 = .ok (.aload_n 0, 1) := by decide +kernel
theorem dX5_type_29 : decode cX5_type 29 = .ok (.getfield 43, 3) := by decide +kernel
theorem dX5_type_32 : decode cX5_type 32 = .ok (.iload_n 1, 1) := by decide +kernel
theorem dX5_type_33 : decode cX5_type 33 = .ok (.invokevirtual 121, 3) := by decide +kernel
theorem dX5_type_36 : decode cX5_type 36 = .ok (.ireturn, 1) := by decide +kernel
theorem dX5_road_0 : decode cX5_road 0 = .ok (.aload_n 0, 1) := by decide +kernel
theorem dX5_road_1 : decode cX5_road 1 = .ok (.getfield 43, 3) := by decide +kernel
theorem dX5_road_4 : decode cX5_road 4 = .ok (.invokevirtual 125, 3) := by decide +kernel
theorem dX5_road_7 : decode cX5_road 7 = .ok (.istore_n 1, 1) := by decide +kernel
theorem dX5_road_8 : decode cX5_road 8 = .ok (.iload_n 1, 1) := by decide +kernel
theorem dX5_road_9 : decode cX5_road 9 = .ok (.ifCond .lt 24, 3) := by decide +kernel
theorem dX5_road_12 : decode cX5_road 12 = .ok (.aload_n 0, 1) := by decide +kernel
theorem dX5_road_13 : decode cX5_road 13 = .ok (.getfield 10, 3) := by decide +kernel
theorem dX5_road_16 : decode cX5_road 16 = .ok (.aload_n 0, 1) := by decide +kernel
theorem dX5_road_17 : decode cX5_road 17 = .ok (.getfield 43, 3) := by decide +kernel
theorem dX5_road_20 : decode cX5_road 20 = .ok (.getfield 129, 3) := by decide +kernel
theorem dX5_road_23 : decode cX5_road 23 = .ok (.invokevirtual 132, 3) := by decide +kernel
theorem dX5_road_26 : decode cX5_road 26 = .ok (.aload_n 0, 1) := by decide +kernel
theorem dX5_road_27 : decode cX5_road 27 = .ok (.getfield 19, 3) := by decide +kernel
theorem dX5_road_30 : decode cX5_road 30 = .ok (.invokevirtual 69, 3) := by decide +kernel
theorem dX5_road_33 : decode cX5_road 33 = .ok (.iload_n 1, 1) := by decide +kernel
theorem dX5_road_34 : decode cX5_road 34 = .ok (.ireturn, 1) := by decide +kernel
theorem dX5_count_0 : decode cX5_count 0 = .ok (.iload_n 1, 1) := by decide +kernel
theorem dX5_count_1 : decode cX5_count 1 = .ok (.tableswitch 131 0 7 #[47, 55, 63, 71, 79, 87, 105, 123], 47) := by decide +kernel
theorem dX5_count_48 : decode cX5_count 48 = .ok (.aload_n 0, 1) := by decide +kernel
theorem dX5_count_49 : decode cX5_count 49 = .ok (.getfield 10, 3) := by decide +kernel
theorem dX5_count_52 : decode cX5_count 52 = .ok (.getfield 65, 3) := by decide +kernel
theorem dX5_count_55 : decode cX5_count 55 = .ok (.ireturn, 1) := by decide +kernel
theorem dX5_count_56 : decode cX5_count 56 = .ok (.aload_n 0, 1) := by decide +kernel
theorem dX5_count_57 : decode cX5_count 57 = .ok (.getfield 10, 3) := by decide +kernel
theorem dX5_count_60 : decode cX5_count 60 = .ok (.getfield 76, 3) := by decide +kernel
theorem dX5_count_63 : decode cX5_count 63 = .ok (.ireturn, 1) := by decide +kernel
theorem dX5_count_64 : decode cX5_count 64 = .ok (.aload_n 0, 1) := by decide +kernel
theorem dX5_count_65 : decode cX5_count 65 = .ok (.getfield 10, 3) := by decide +kernel
theorem dX5_count_68 : decode cX5_count 68 = .ok (.getfield 114, 3) := by decide +kernel
theorem dX5_count_71 : decode cX5_count 71 = .ok (.ireturn, 1) := by decide +kernel
theorem dX5_count_72 : decode cX5_count 72 = .ok (.aload_n 0, 1) := by decide +kernel
theorem dX5_count_73 : decode cX5_count 73 = .ok (.getfield 10, 3) := by decide +kernel
theorem dX5_count_76 : decode cX5_count 76 = .ok (.invokevirtual 136, 3) := by decide +kernel
theorem dX5_count_79 : decode cX5_count 79 = .ok (.ireturn, 1) := by decide +kernel
theorem dX5_count_80 : decode cX5_count 80 = .ok (.aload_n 0, 1) := by decide +kernel
theorem dX5_count_81 : decode cX5_count 81 = .ok (.getfield 10, 3) := by decide +kernel
theorem dX5_count_84 : decode cX5_count 84 = .ok (.invokevirtual 139, 3) := by decide +kernel
theorem dX5_count_87 : decode cX5_count 87 = .ok (.ireturn, 1) := by decide +kernel
theorem dX5_count_88 : decode cX5_count 88 = .ok (.aload_n 0, 1) := by decide +kernel
theorem dX5_count_89 : decode cX5_count 89 = .ok (.getfield 10, 3) := by decide +kernel
theorem dX5_count_92 : decode cX5_count 92 = .ok (.getfield 104, 3) := by decide +kernel
theorem dX5_count_95 : decode cX5_count 95 = .ok (.aload_n 0, 1) := by decide +kernel
theorem dX5_count_96 : decode cX5_count 96 = .ok (.getfield 10, 3) := by decide +kernel
theorem dX5_count_99 : decode cX5_count 99 = .ok (.getfield 76, 3) := by decide +kernel
theorem dX5_count_102 : decode cX5_count 102 = .ok (.invokestatic 142, 3) := by decide +kernel
theorem dX5_count_105 : decode cX5_count 105 = .ok (.ireturn, 1) := by decide +kernel
theorem dX5_count_106 : decode cX5_count 106 = .ok (.aload_n 0, 1) := by decide +kernel
theorem dX5_count_107 : decode cX5_count 107 = .ok (.getfield 10, 3) := by decide +kernel
theorem dX5_count_110 : decode cX5_count 110 = .ok (.getfield 88, 3) := by decide +kernel
theorem dX5_count_113 : decode cX5_count 113 = .ok (.aload_n 0, 1) := by decide +kernel
theorem dX5_count_114 : decode cX5_count 114 = .ok (.getfield 10, 3) := by decide +kernel
theorem dX5_count_117 : decode cX5_count 117 = .ok (.getfield 65, 3) := by decide +kernel
theorem dX5_count_120 : decode cX5_count 120 = .ok (.invokestatic 142, 3) := by decide +kernel
theorem dX5_count_123 : decode cX5_count 123 = .ok (.ireturn, 1) := by decide +kernel
theorem dX5_count_124 : decode cX5_count 124 = .ok (.aload_n 0, 1) := by decide +kernel
theorem dX5_count_125 : decode cX5_count 125 = .ok (.getfield 19, 3) := by decide +kernel
theorem dX5_count_128 : decode cX5_count 128 = .ok (.getfield 146, 3) := by decide +kernel
theorem dX5_count_131 : decode cX5_count 131 = .ok (.ireturn, 1) := by decide +kernel
theorem dX5_count_132 : decode cX5_count 132 = .ok (.iconst (-1), 1) := by decide +kernel
theorem dX5_count_133 : decode cX5_count 133 = .ok (.ireturn, 1) := by decide +kernel
theorem dX5_ride_0 : decode cX5_ride 0 = .ok (.iload_n 1, 1) := by decide +kernel
theorem dX5_ride_1 : decode cX5_ride 1 = .ok (.iconst 1, 1) := by decide +kernel
theorem dX5_ride_2 : decode cX5_ride 2 = .ok (.bipush 32, 2) := by decide +kernel
theorem dX5_ride_4 : decode cX5_ride 4 = .ok (.invokestatic 61, 3) := by decide +kernel
theorem dX5_ride_7 : decode cX5_ride 7 = .ok (.ifCond .ne 5, 3) := by decide +kernel
theorem dX5_ride_10 : decode cX5_ride 10 = .ok (.iconst (-1), 1) := by decide +kernel
theorem dX5_ride_11 : decode cX5_ride 11 = .ok (.ireturn, 1) := by decide +kernel
theorem dX5_ride_12 : decode cX5_ride 12 = .ok (.aload_n 0, 1) := by decide +kernel
theorem dX5_ride_13 : decode cX5_ride 13 = .ok (.getfield 10, 3) := by decide +kernel
theorem dX5_ride_16 : decode cX5_ride 16 = .ok (.invokevirtual 139, 3) := by decide +kernel
theorem dX5_ride_19 : decode cX5_ride 19 = .ok (.ifCond .ge 6, 3) := by decide +kernel
theorem dX5_ride_22 : decode cX5_ride 22 = .ok (.bipush (-2), 2) := by decide +kernel
theorem dX5_ride_24 : decode cX5_ride 24 = .ok (.ireturn, 1) := by decide +kernel
theorem dX5_ride_25 : decode cX5_ride 25 = .ok (.iconst 0, 1) := by decide +kernel
theorem dX5_ride_26 : decode cX5_ride 26 = .ok (.istore_n 2, 1) := by decide +kernel
theorem dX5_ride_27 : decode cX5_ride 27 = .ok (.iconst 0, 1) := by decide +kernel
theorem dX5_ride_28 : decode cX5_ride 28 = .ok (.istore_n 3, 1) := by decide +kernel
theorem dX5_ride_29 : decode cX5_ride 29 = .ok (.iload_n 3, 1) := by decide +kernel
theorem dX5_ride_30 : decode cX5_ride 30 = .ok (.iload_n 1, 1) := by decide +kernel
theorem dX5_ride_31 : decode cX5_ride 31 = .ok (.if_icmp .ge 50, 3) := by decide +kernel
theorem dX5_ride_34 : decode cX5_ride 34 = .ok (.aload_n 0, 1) := by decide +kernel
theorem dX5_ride_35 : decode cX5_ride 35 = .ok (.getfield 10, 3) := by decide +kernel
theorem dX5_ride_38 : decode cX5_ride 38 = .ok (.invokevirtual 139, 3) := by decide +kernel
theorem dX5_ride_41 : decode cX5_ride 41 = .ok (.istore 4, 2) := by decide +kernel
theorem dX5_ride_43 : decode cX5_ride 43 = .ok (.iload 4, 2) := by decide +kernel
theorem dX5_ride_45 : decode cX5_ride 45 = .ok (.ifCond .ge 6, 3) := by decide +kernel
theorem dX5_ride_48 : decode cX5_ride 48 = .ok (.goto 33, 3) := by decide +kernel
theorem dX5_ride_51 : decode cX5_ride 51 = .ok (.aload_n 0, 1) := by decide +kernel
theorem dX5_ride_52 : decode cX5_ride 52 = .ok (.getfield 19, 3) := by decide +kernel
theorem dX5_ride_55 : decode cX5_ride 55 = .ok (.aload_n 0, 1) := by decide +kernel
theorem dX5_ride_56 : decode cX5_ride 56 = .ok (.getfield 10, 3) := by decide +kernel
theorem dX5_ride_59 : decode cX5_ride 59 = .ok (.invokevirtual 149, 3) := by decide +kernel
theorem dX5_ride_62 : decode cX5_ride 62 = .ok (.aload_n 0, 1) := by decide +kernel
theorem dX5_ride_63 : decode cX5_ride 63 = .ok (.getfield 10, 3) := by decide +kernel
theorem dX5_ride_66 : decode cX5_ride 66 = .ok (.iload 4, 2) := by decide +kernel
theorem dX5_ride_68 : decode cX5_ride 68 = .ok (.iconst 0, 1) := by decide +kernel
theorem dX5_ride_69 : decode cX5_ride 69 = .ok (.invokevirtual 152, 3) := by decide +kernel
theorem dX5_ride_72 : decode cX5_ride 72 = .ok (.iinc 2 1, 3) := by decide +kernel
theorem dX5_ride_75 : decode cX5_ride 75 = .ok (.iinc 3 1, 3) := by decide +kernel
theorem dX5_ride_78 : decode cX5_ride 78 = .ok (.goto (-49), 3) := by decide +kernel
theorem dX5_ride_81 : decode cX5_ride 81 = .ok (.iload_n 2, 1) := by decide +kernel
theorem dX5_ride_82 : decode cX5_ride 82 = .ok (.ireturn, 1) := by decide +kernel
theorem dX5_wheel_0 : decode cX5_wheel 0 = .ok (.aload_n 0, 1) := by decide +kernel
theorem dX5_wheel_1 : decode cX5_wheel 1 = .ok (.iload_n 1, 1) := by decide +kernel
theorem dX5_wheel_2 : decode cX5_wheel 2 = .ok (.invokevirtual 91, 3) := by decide +kernel
theorem dX5_wheel_5 : decode cX5_wheel 5 = .ok (.ifCond .ne 5, 3) := by decide +kernel
theorem dX5_wheel_8 : decode cX5_wheel 8 = .ok (.iconst (-1), 1) := by decide +kernel
theorem dX5_wheel_9 : decode cX5_wheel 9 = .ok (.ireturn, 1) := by decide +kernel
theorem dX5_wheel_10 : decode cX5_wheel 10 = .ok (.aload_n 0, 1) := by decide +kernel
theorem dX5_wheel_11 : decode cX5_wheel 11 = .ok (.getfield 10, 3) := by decide +kernel
theorem dX5_wheel_14 : decode cX5_wheel 14 = .ok (.iload_n 1, 1) := by decide +kernel
theorem dX5_wheel_15 : decode cX5_wheel 15 = .ok (.invokevirtual 156, 3) := by decide +kernel
theorem dX5_wheel_18 : decode cX5_wheel 18 = .ok (.ifCond .eq 6, 3) := by decide +kernel
theorem dX5_wheel_21 : decode cX5_wheel 21 = .ok (.bipush (-2), 2) := by decide +kernel
theorem dX5_wheel_23 : decode cX5_wheel 23 = .ok (.ireturn, 1) := by decide +kernel
theorem dX5_wheel_24 : decode cX5_wheel 24 = .ok (.aload_n 0, 1) := by decide +kernel
theorem dX5_wheel_25 : decode cX5_wheel 25 = .ok (.getfield 19, 3) := by decide +kernel
theorem dX5_wheel_28 : decode cX5_wheel 28 = .ok (.aload_n 0, 1) := by decide +kernel
theorem dX5_wheel_29 : decode cX5_wheel 29 = .ok (.getfield 10, 3) := by decide +kernel
theorem dX5_wheel_32 : decode cX5_wheel 32 = .ok (.invokevirtual 149, 3) := by decide +kernel
theorem dX5_wheel_35 : decode cX5_wheel 35 = .ok (.aload_n 0, 1) := by decide +kernel
theorem dX5_wheel_36 : decode cX5_wheel 36 = .ok (.getfield 10, 3) := by decide +kernel
theorem dX5_wheel_39 : decode cX5_wheel 39 = .ok (.getfield 101, 3) := by decide +kernel
theorem dX5_wheel_42 : decode cX5_wheel 42 = .ok (.iload_n 1, 1) := by decide +kernel
theorem dX5_wheel_43 : decode cX5_wheel 43 = .ok (.dup2, 1) := by decide +kernel
theorem dX5_wheel_44 : decode cX5_wheel 44 = .ok (.iaload, 1) := by decide +kernel
theorem dX5_wheel_45 : decode cX5_wheel 45 = .ok (.bipush 30, 2) := by decide +kernel
theorem dX5_wheel_47 : decode cX5_wheel 47 = .ok (.iadd, 1) := by decide +kernel
theorem dX5_wheel_48 : decode cX5_wheel 48 = .ok (.iastore, 1) := by decide +kernel
theorem dX5_wheel_49 : decode cX5_wheel 49 = .ok (.aload_n 0, 1) := by decide +kernel
theorem dX5_wheel_50 : decode cX5_wheel 50 = .ok (.getfield 10, 3) := by decide +kernel
theorem dX5_wheel_53 : decode cX5_wheel 53 = .ok (.getfield 101, 3) := by decide +kernel
theorem dX5_wheel_56 : decode cX5_wheel 56 = .ok (.iload_n 1, 1) := by decide +kernel
theorem dX5_wheel_57 : decode cX5_wheel 57 = .ok (.iaload, 1) := by decide +kernel
theorem dX5_wheel_58 : decode cX5_wheel 58 = .ok (.ireturn, 1) := by decide +kernel
theorem dX5_give_0 : decode cX5_give 0 = .ok (.aload_n 0, 1) := by decide +kernel
theorem dX5_give_1 : decode cX5_give 1 = .ok (.iload_n 1, 1) := by decide +kernel
theorem dX5_give_2 : decode cX5_give 2 = .ok (.iload_n 2, 1) := by decide +kernel
theorem dX5_give_3 : decode cX5_give 3 = .ok (.invokevirtual 159, 3) := by decide +kernel
theorem dX5_give_6 : decode cX5_give 6 = .ok (.ifCond .eq 13, 3) := by decide +kernel
theorem dX5_give_9 : decode cX5_give 9 = .ok (.iload_n 3, 1) := by decide +kernel
theorem dX5_give_10 : decode cX5_give 10 = .ok (.iconst 1, 1) := by decide +kernel
theorem dX5_give_11 : decode cX5_give 11 = .ok (.bipush 99, 2) := by decide +kernel
theorem dX5_give_13 : decode cX5_give 13 = .ok (.invokestatic 61, 3) := by decide +kernel
theorem dX5_give_16 : decode cX5_give 16 = .ok (.ifCond .ne 5, 3) := by decide +kernel
theorem dX5_give_19 : decode cX5_give 19 = .ok (.iconst (-1), 1) := by decide +kernel
theorem dX5_give_20 : decode cX5_give 20 = .ok (.ireturn, 1) := by decide +kernel
theorem dX5_give_21 : decode cX5_give 21 = .ok (.aload_n 0, 1) := by decide +kernel
theorem dX5_give_22 : decode cX5_give 22 = .ok (.getfield 10, 3) := by decide +kernel
theorem dX5_give_25 : decode cX5_give 25 = .ok (.getfield 104, 3) := by decide +kernel
theorem dX5_give_28 : decode cX5_give 28 = .ok (.iload_n 1, 1) := by decide +kernel
theorem dX5_give_29 : decode cX5_give 29 = .ok (.iaload, 1) := by decide +kernel
theorem dX5_give_30 : decode cX5_give 30 = .ok (.iload_n 3, 1) := by decide +kernel
theorem dX5_give_31 : decode cX5_give 31 = .ok (.if_icmp .ge 6, 3) := by decide +kernel
theorem dX5_give_34 : decode cX5_give 34 = .ok (.bipush (-2), 2) := by decide +kernel
theorem dX5_give_36 : decode cX5_give 36 = .ok (.ireturn, 1) := by decide +kernel
theorem dX5_give_37 : decode cX5_give 37 = .ok (.aload_n 0, 1) := by decide +kernel
theorem dX5_give_38 : decode cX5_give 38 = .ok (.getfield 19, 3) := by decide +kernel
theorem dX5_give_41 : decode cX5_give 41 = .ok (.aload_n 0, 1) := by decide +kernel
theorem dX5_give_42 : decode cX5_give 42 = .ok (.getfield 10, 3) := by decide +kernel
theorem dX5_give_45 : decode cX5_give 45 = .ok (.invokevirtual 149, 3) := by decide +kernel
theorem dX5_give_48 : decode cX5_give 48 = .ok (.aload_n 0, 1) := by decide +kernel
theorem dX5_give_49 : decode cX5_give 49 = .ok (.getfield 10, 3) := by decide +kernel
theorem dX5_give_52 : decode cX5_give 52 = .ok (.getfield 104, 3) := by decide +kernel
theorem dX5_give_55 : decode cX5_give 55 = .ok (.iload_n 1, 1) := by decide +kernel
theorem dX5_give_56 : decode cX5_give 56 = .ok (.dup2, 1) := by decide +kernel
theorem dX5_give_57 : decode cX5_give 57 = .ok (.iaload, 1) := by decide +kernel
theorem dX5_give_58 : decode cX5_give 58 = .ok (.iload_n 3, 1) := by decide +kernel
theorem dX5_give_59 : decode cX5_give 59 = .ok (.isub, 1) := by decide +kernel
theorem dX5_give_60 : decode cX5_give 60 = .ok (.iastore, 1) := by decide +kernel
theorem dX5_give_61 : decode cX5_give 61 = .ok (.aload_n 0, 1) := by decide +kernel
theorem dX5_give_62 : decode cX5_give 62 = .ok (.getfield 10, 3) := by decide +kernel
theorem dX5_give_65 : decode cX5_give 65 = .ok (.getfield 104, 3) := by decide +kernel
theorem dX5_give_68 : decode cX5_give 68 = .ok (.iload_n 2, 1) := by decide +kernel
theorem dX5_give_69 : decode cX5_give 69 = .ok (.bipush 99, 2) := by decide +kernel
theorem dX5_give_71 : decode cX5_give 71 = .ok (.aload_n 0, 1) := by decide +kernel
theorem dX5_give_72 : decode cX5_give 72 = .ok (.getfield 10, 3) := by decide +kernel
theorem dX5_give_75 : decode cX5_give 75 = .ok (.getfield 104, 3) := by decide +kernel
theorem dX5_give_78 : decode cX5_give 78 = .ok (.iload_n 2, 1) := by decide +kernel
theorem dX5_give_79 : decode cX5_give 79 = .ok (.iaload, 1) := by decide +kernel
theorem dX5_give_80 : decode cX5_give 80 = .ok (.iload_n 3, 1) := by decide +kernel
theorem dX5_give_81 : decode cX5_give 81 = .ok (.iadd, 1) := by decide +kernel
theorem dX5_give_82 : decode cX5_give 82 = .ok (.invokestatic 163, 3) := by decide +kernel
theorem dX5_give_85 : decode cX5_give 85 = .ok (.iastore, 1) := by decide +kernel
theorem dX5_give_86 : decode cX5_give 86 = .ok (.aload_n 0, 1) := by decide +kernel
theorem dX5_give_87 : decode cX5_give 87 = .ok (.getfield 10, 3) := by decide +kernel
theorem dX5_give_90 : decode cX5_give 90 = .ok (.getfield 104, 3) := by decide +kernel
theorem dX5_give_93 : decode cX5_give 93 = .ok (.iload_n 2, 1) := by decide +kernel
theorem dX5_give_94 : decode cX5_give 94 = .ok (.iaload, 1) := by decide +kernel
theorem dX5_give_95 : decode cX5_give 95 = .ok (.ireturn, 1) := by decide +kernel
theorem dX5_drift_0 : decode cX5_drift 0 = .ok (.iload_n 1, 1) := by decide +kernel
theorem dX5_drift_1 : decode cX5_drift 1 = .ok (.iconst 1, 1) := by decide +kernel
theorem dX5_drift_2 : decode cX5_drift 2 = .ok (.bipush 32, 2) := by decide +kernel
theorem dX5_drift_4 : decode cX5_drift 4 = .ok (.invokestatic 61, 3) := by decide +kernel
theorem dX5_drift_7 : decode cX5_drift 7 = .ok (.ifCond .ne 5, 3) := by decide +kernel
theorem dX5_drift_10 : decode cX5_drift 10 = .ok (.iconst (-1), 1) := by decide +kernel
theorem dX5_drift_11 : decode cX5_drift 11 = .ok (.ireturn, 1) := by decide +kernel
theorem dX5_drift_12 : decode cX5_drift 12 = .ok (.aload_n 0, 1) := by decide +kernel
theorem dX5_drift_13 : decode cX5_drift 13 = .ok (.getfield 10, 3) := by decide +kernel
theorem dX5_drift_16 : decode cX5_drift 16 = .ok (.invokevirtual 139, 3) := by decide +kernel
theorem dX5_drift_19 : decode cX5_drift 19 = .ok (.ifCond .ge 6, 3) := by decide +kernel
theorem dX5_drift_22 : decode cX5_drift 22 = .ok (.bipush (-2), 2) := by decide +kernel
theorem dX5_drift_24 : decode cX5_drift 24 = .ok (.ireturn, 1) := by decide +kernel
theorem dX5_drift_25 : decode cX5_drift 25 = .ok (.iconst 0, 1) := by decide +kernel
theorem dX5_drift_26 : decode cX5_drift 26 = .ok (.istore_n 2, 1) := by decide +kernel
theorem dX5_drift_27 : decode cX5_drift 27 = .ok (.iconst 0, 1) := by decide +kernel
theorem dX5_drift_28 : decode cX5_drift 28 = .ok (.istore_n 3, 1) := by decide +kernel
theorem dX5_drift_29 : decode cX5_drift 29 = .ok (.iload_n 3, 1) := by decide +kernel
theorem dX5_drift_30 : decode cX5_drift 30 = .ok (.iload_n 1, 1) := by decide +kernel
theorem dX5_drift_31 : decode cX5_drift 31 = .ok (.if_icmp .ge 79, 3) := by decide +kernel
theorem dX5_drift_34 : decode cX5_drift 34 = .ok (.aload_n 0, 1) := by decide +kernel
theorem dX5_drift_35 : decode cX5_drift 35 = .ok (.getfield 10, 3) := by decide +kernel
theorem dX5_drift_38 : decode cX5_drift 38 = .ok (.invokevirtual 139, 3) := by decide +kernel
theorem dX5_drift_41 : decode cX5_drift 41 = .ok (.istore 4, 2) := by decide +kernel
theorem dX5_drift_43 : decode cX5_drift 43 = .ok (.iload 4, 2) := by decide +kernel
theorem dX5_drift_45 : decode cX5_drift 45 = .ok (.ifCond .ge 6, 3) := by decide +kernel
theorem dX5_drift_48 : decode cX5_drift 48 = .ok (.goto 62, 3) := by decide +kernel
theorem dX5_drift_51 : decode cX5_drift 51 = .ok (.aload_n 0, 1) := by decide +kernel
theorem dX5_drift_52 : decode cX5_drift 52 = .ok (.getfield 19, 3) := by decide +kernel
theorem dX5_drift_55 : decode cX5_drift 55 = .ok (.aload_n 0, 1) := by decide +kernel
theorem dX5_drift_56 : decode cX5_drift 56 = .ok (.getfield 10, 3) := by decide +kernel
theorem dX5_drift_59 : decode cX5_drift 59 = .ok (.invokevirtual 149, 3) := by decide +kernel
theorem dX5_drift_62 : decode cX5_drift 62 = .ok (.aload_n 0, 1) := by decide +kernel
theorem dX5_drift_63 : decode cX5_drift 63 = .ok (.getfield 10, 3) := by decide +kernel
theorem dX5_drift_66 : decode cX5_drift 66 = .ok (.invokevirtual 169, 3) := by decide +kernel
theorem dX5_drift_69 : decode cX5_drift 69 = .ok (.istore 5, 2) := by decide +kernel
theorem dX5_drift_71 : decode cX5_drift 71 = .ok (.aload_n 0, 1) := by decide +kernel
theorem dX5_drift_72 : decode cX5_drift 72 = .ok (.getfield 10, 3) := by decide +kernel
theorem dX5_drift_75 : decode cX5_drift 75 = .ok (.iload 4, 2) := by decide +kernel
theorem dX5_drift_77 : decode cX5_drift 77 = .ok (.iload 5, 2) := by decide +kernel
theorem dX5_drift_79 : decode cX5_drift 79 = .ok (.ifCond .eq 8, 3) := by decide +kernel
theorem dX5_drift_82 : decode cX5_drift 82 = .ok (.bipush 30, 2) := by decide +kernel
theorem dX5_drift_84 : decode cX5_drift 84 = .ok (.goto 4, 3) := by decide +kernel
theorem dX5_drift_87 : decode cX5_drift 87 = .ok (.iconst 0, 1) := by decide +kernel
theorem dX5_drift_88 : decode cX5_drift 88 = .ok (.invokevirtual 152, 3) := by decide +kernel
theorem dX5_drift_91 : decode cX5_drift 91 = .ok (.iload_n 2, 1) := by decide +kernel
theorem dX5_drift_92 : decode cX5_drift 92 = .ok (.iload 5, 2) := by decide +kernel
theorem dX5_drift_94 : decode cX5_drift 94 = .ok (.ifCond .eq 7, 3) := by decide +kernel
theorem dX5_drift_97 : decode cX5_drift 97 = .ok (.iconst 1, 1) := by decide +kernel
theorem dX5_drift_98 : decode cX5_drift 98 = .ok (.goto 4, 3) := by decide +kernel
theorem dX5_drift_101 : decode cX5_drift 101 = .ok (.iconst 0, 1) := by decide +kernel
theorem dX5_drift_102 : decode cX5_drift 102 = .ok (.iadd, 1) := by decide +kernel
theorem dX5_drift_103 : decode cX5_drift 103 = .ok (.istore_n 2, 1) := by decide +kernel
theorem dX5_drift_104 : decode cX5_drift 104 = .ok (.iinc 3 1, 3) := by decide +kernel
theorem dX5_drift_107 : decode cX5_drift 107 = .ok (.goto (-78), 3) := by decide +kernel
theorem dX5_drift_110 : decode cX5_drift 110 = .ok (.iload_n 2, 1) := by decide +kernel
theorem dX5_drift_111 : decode cX5_drift 111 = .ok (.ireturn, 1) := by decide +kernel
theorem dX5_undo_0 : decode cX5_undo 0 = .ok (.aload_n 0, 1) := by decide +kernel
theorem dX5_undo_1 : decode cX5_undo 1 = .ok (.getfield 19, 3) := by decide +kernel
theorem dX5_undo_4 : decode cX5_undo 4 = .ok (.getfield 146, 3) := by decide +kernel
theorem dX5_undo_7 : decode cX5_undo 7 = .ok (.ifCond .ne 6, 3) := by decide +kernel
theorem dX5_undo_10 : decode cX5_undo 10 = .ok (.bipush (-4), 2) := by decide +kernel
theorem dX5_undo_12 : decode cX5_undo 12 = .ok (.ireturn, 1) := by decide +kernel
theorem dX5_undo_13 : decode cX5_undo 13 = .ok (.aload_n 0, 1) := by decide +kernel
theorem dX5_undo_14 : decode cX5_undo 14 = .ok (.getfield 19, 3) := by decide +kernel
theorem dX5_undo_17 : decode cX5_undo 17 = .ok (.aload_n 0, 1) := by decide +kernel
theorem dX5_undo_18 : decode cX5_undo 18 = .ok (.getfield 10, 3) := by decide +kernel
theorem dX5_undo_21 : decode cX5_undo 21 = .ok (.invokevirtual 172, 3) := by decide +kernel
theorem dX5_undo_24 : decode cX5_undo 24 = .ok (.aload_n 0, 1) := by decide +kernel
theorem dX5_undo_25 : decode cX5_undo 25 = .ok (.getfield 19, 3) := by decide +kernel
theorem dX5_undo_28 : decode cX5_undo 28 = .ok (.getfield 146, 3) := by decide +kernel
theorem dX5_undo_31 : decode cX5_undo 31 = .ok (.ireturn, 1) := by decide +kernel
theorem dX5_seed_0 : decode cX5_seed 0 = .ok (.iload_n 1, 1) := by decide +kernel
theorem dX5_seed_1 : decode cX5_seed 1 = .ok (.ifCond .ge 5, 3) := by decide +kernel
theorem dX5_seed_4 : decode cX5_seed 4 = .ok (.iconst (-1), 1) := by decide +kernel
theorem dX5_seed_5 : decode cX5_seed 5 = .ok (.ireturn, 1) := by decide +kernel
theorem dX5_seed_6 : decode cX5_seed 6 = .ok (.aload_n 0, 1) := by decide +kernel
theorem dX5_seed_7 : decode cX5_seed 7 = .ok (.getfield 10, 3) := by decide +kernel
theorem dX5_seed_10 : decode cX5_seed 10 = .ok (.getfield 175, 3) := by decide +kernel
theorem dX5_seed_13 : decode cX5_seed 13 = .ok (.istore_n 2, 1) := by decide +kernel
theorem dX5_seed_14 : decode cX5_seed 14 = .ok (.aload_n 0, 1) := by decide +kernel
theorem dX5_seed_15 : decode cX5_seed 15 = .ok (.getfield 10, 3) := by decide +kernel
theorem dX5_seed_18 : decode cX5_seed 18 = .ok (.iload_n 1, 1) := by decide +kernel
theorem dX5_seed_19 : decode cX5_seed 19 = .ok (.putfield 175, 3) := by decide +kernel
theorem dX5_seed_22 : decode cX5_seed 22 = .ok (.iload_n 2, 1) := by decide +kernel
theorem dX5_seed_23 : decode cX5_seed 23 = .ok (.ireturn, 1) := by decide +kernel
theorem dX5_ahead_0 : decode cX5_ahead 0 = .ok (.aload_n 0, 1) := by decide +kernel
theorem dX5_ahead_1 : decode cX5_ahead 1 = .ok (.iload_n 1, 1) := by decide +kernel
theorem dX5_ahead_2 : decode cX5_ahead 2 = .ok (.invokevirtual 91, 3) := by decide +kernel
theorem dX5_ahead_5 : decode cX5_ahead 5 = .ok (.ifCond .eq 10, 3) := by decide +kernel
theorem dX5_ahead_8 : decode cX5_ahead 8 = .ok (.iload_n 2, 1) := by decide +kernel
theorem dX5_ahead_9 : decode cX5_ahead 9 = .ok (.invokestatic 178, 3) := by decide +kernel
theorem dX5_ahead_12 : decode cX5_ahead 12 = .ok (.ifCond .ne 5, 3) := by decide +kernel
theorem dX5_ahead_15 : decode cX5_ahead 15 = .ok (.iconst (-1), 1) := by decide +kernel
theorem dX5_ahead_16 : decode cX5_ahead 16 = .ok (.ireturn, 1) := by decide +kernel
theorem dX5_ahead_17 : decode cX5_ahead 17 = .ok (.aload_n 0, 1) := by decide +kernel
theorem dX5_ahead_18 : decode cX5_ahead 18 = .ok (.getfield 36, 3) := by decide +kernel
theorem dX5_ahead_21 : decode cX5_ahead 21 = .ok (.aload_n 0, 1) := by decide +kernel
theorem dX5_ahead_22 : decode cX5_ahead 22 = .ok (.getfield 10, 3) := by decide +kernel
theorem dX5_ahead_25 : decode cX5_ahead 25 = .ok (.invokevirtual 181, 3) := by decide +kernel
theorem dX5_ahead_28 : decode cX5_ahead 28 = .ok (.aload_n 0, 1) := by decide +kernel
theorem dX5_ahead_29 : decode cX5_ahead 29 = .ok (.getfield 36, 3) := by decide +kernel
theorem dX5_ahead_32 : decode cX5_ahead 32 = .ok (.iload_n 1, 1) := by decide +kernel
theorem dX5_ahead_33 : decode cX5_ahead 33 = .ok (.iconst 0, 1) := by decide +kernel
theorem dX5_ahead_34 : decode cX5_ahead 34 = .ok (.invokevirtual 184, 3) := by decide +kernel
theorem dX5_ahead_37 : decode cX5_ahead 37 = .ok (.istore_n 3, 1) := by decide +kernel
theorem dX5_ahead_38 : decode cX5_ahead 38 = .ok (.iload_n 2, 1) := by decide +kernel
theorem dX5_ahead_39 : decode cX5_ahead 39 = .ok (.ifCond .ne 7, 3) := by decide +kernel
theorem dX5_ahead_42 : decode cX5_ahead 42 = .ok (.iload_n 3, 1) := by decide +kernel
theorem dX5_ahead_43 : decode cX5_ahead 43 = .ok (.goto 15, 3) := by decide +kernel
theorem dX5_ahead_46 : decode cX5_ahead 46 = .ok (.aload_n 0, 1) := by decide +kernel
theorem dX5_ahead_47 : decode cX5_ahead 47 = .ok (.getfield 36, 3) := by decide +kernel
theorem dX5_ahead_50 : decode cX5_ahead 50 = .ok (.getfield 187, 3) := by decide +kernel
theorem dX5_ahead_53 : decode cX5_ahead 53 = .ok (.getfield 104, 3) := by decide +kernel
theorem dX5_ahead_56 : decode cX5_ahead 56 = .ok (.iload_n 1, 1) := by decide +kernel
theorem dX5_ahead_57 : decode cX5_ahead 57 = .ok (.iaload, 1) := by decide +kernel
theorem dX5_ahead_58 : decode cX5_ahead 58 = .ok (.ireturn, 1) := by decide +kernel
theorem dX5_comes_0 : decode cX5_comes 0 = .ok (.aload_n 0, 1) := by decide +kernel
theorem dX5_comes_1 : decode cX5_comes 1 = .ok (.iload_n 1, 1) := by decide +kernel
theorem dX5_comes_2 : decode cX5_comes 2 = .ok (.invokevirtual 91, 3) := by decide +kernel
theorem dX5_comes_5 : decode cX5_comes 5 = .ok (.ifCond .eq 18, 3) := by decide +kernel
theorem dX5_comes_8 : decode cX5_comes 8 = .ok (.iload_n 2, 1) := by decide +kernel
theorem dX5_comes_9 : decode cX5_comes 9 = .ok (.iconst 0, 1) := by decide +kernel
theorem dX5_comes_10 : decode cX5_comes 10 = .ok (.aload_n 0, 1) := by decide +kernel
theorem dX5_comes_11 : decode cX5_comes 11 = .ok (.getfield 10, 3) := by decide +kernel
theorem dX5_comes_14 : decode cX5_comes 14 = .ok (.getfield 65, 3) := by decide +kernel
theorem dX5_comes_17 : decode cX5_comes 17 = .ok (.invokestatic 61, 3) := by decide +kernel
theorem dX5_comes_20 : decode cX5_comes 20 = .ok (.ifCond .ne 5, 3) := by decide +kernel
theorem dX5_comes_23 : decode cX5_comes 23 = .ok (.iconst (-1), 1) := by decide +kernel
theorem dX5_comes_24 : decode cX5_comes 24 = .ok (.ireturn, 1) := by decide +kernel
theorem dX5_comes_25 : decode cX5_comes 25 = .ok (.iload_n 2, 1) := by decide +kernel
theorem dX5_comes_26 : decode cX5_comes 26 = .ok (.aload_n 0, 1) := by decide +kernel
theorem dX5_comes_27 : decode cX5_comes 27 = .ok (.getfield 10, 3) := by decide +kernel
theorem dX5_comes_30 : decode cX5_comes 30 = .ok (.getfield 98, 3) := by decide +kernel
theorem dX5_comes_33 : decode cX5_comes 33 = .ok (.iload_n 1, 1) := by decide +kernel
theorem dX5_comes_34 : decode cX5_comes 34 = .ok (.iaload, 1) := by decide +kernel
theorem dX5_comes_35 : decode cX5_comes 35 = .ok (.if_icmp .ge 6, 3) := by decide +kernel
theorem dX5_comes_38 : decode cX5_comes 38 = .ok (.bipush (-4), 2) := by decide +kernel
theorem dX5_comes_40 : decode cX5_comes 40 = .ok (.ireturn, 1) := by decide +kernel
theorem dX5_comes_41 : decode cX5_comes 41 = .ok (.aload_n 0, 1) := by decide +kernel
theorem dX5_comes_42 : decode cX5_comes 42 = .ok (.getfield 36, 3) := by decide +kernel
theorem dX5_comes_45 : decode cX5_comes 45 = .ok (.aload_n 0, 1) := by decide +kernel
theorem dX5_comes_46 : decode cX5_comes 46 = .ok (.getfield 10, 3) := by decide +kernel
theorem dX5_comes_49 : decode cX5_comes 49 = .ok (.invokevirtual 181, 3) := by decide +kernel
theorem dX5_comes_52 : decode cX5_comes 52 = .ok (.aload_n 0, 1) := by decide +kernel
theorem dX5_comes_53 : decode cX5_comes 53 = .ok (.getfield 36, 3) := by decide +kernel
theorem dX5_comes_56 : decode cX5_comes 56 = .ok (.iload_n 1, 1) := by decide +kernel
theorem dX5_comes_57 : decode cX5_comes 57 = .ok (.iconst 0, 1) := by decide +kernel
theorem dX5_comes_58 : decode cX5_comes 58 = .ok (.invokevirtual 184, 3) := by decide +kernel
theorem dX5_comes_61 : decode cX5_comes 61 = .ok (.pop, 1) := by decide +kernel
theorem dX5_comes_62 : decode cX5_comes 62 = .ok (.aload_n 0, 1) := by decide +kernel
theorem dX5_comes_63 : decode cX5_comes 63 = .ok (.getfield 36, 3) := by decide +kernel
theorem dX5_comes_66 : decode cX5_comes 66 = .ok (.iload_n 1, 1) := by decide +kernel
theorem dX5_comes_67 : decode cX5_comes 67 = .ok (.iload_n 2, 1) := by decide +kernel
theorem dX5_comes_68 : decode cX5_comes 68 = .ok (.invokevirtual 190, 3) := by decide +kernel
theorem dX5_comes_71 : decode cX5_comes 71 = .ok (.ireturn, 1) := by decide +kernel
theorem dX5_first_0 : decode cX5_first 0 = .ok (.aload_n 0, 1) := by decide +kernel
theorem dX5_first_1 : decode cX5_first 1 = .ok (.getfield 36, 3) := by decide +kernel
theorem dX5_first_4 : decode cX5_first 4 = .ok (.aload_n 0, 1) := by decide +kernel
theorem dX5_first_5 : decode cX5_first 5 = .ok (.getfield 10, 3) := by decide +kernel
theorem dX5_first_8 : decode cX5_first 8 = .ok (.invokevirtual 181, 3) := by decide +kernel
theorem dX5_first_11 : decode cX5_first 11 = .ok (.aload_n 0, 1) := by decide +kernel
theorem dX5_first_12 : decode cX5_first 12 = .ok (.getfield 36, 3) := by decide +kernel
theorem dX5_first_15 : decode cX5_first 15 = .ok (.invokevirtual 193, 3) := by decide +kernel
theorem dX5_first_18 : decode cX5_first 18 = .ok (.ireturn, 1) := by decide +kernel
theorem dX5_caught_0 : decode cX5_caught 0 = .ok (.aload_n 0, 1) := by decide +kernel
theorem dX5_caught_1 : decode cX5_caught 1 = .ok (.iload_n 1, 1) := by decide +kernel
theorem dX5_caught_2 : decode cX5_caught 2 = .ok (.iload_n 2, 1) := by decide +kernel
theorem dX5_caught_3 : decode cX5_caught 3 = .ok (.invokevirtual 159, 3) := by decide +kernel
theorem dX5_caught_6 : decode cX5_caught 6 = .ok (.ifCond .ne 5, 3) := by decide +kernel
theorem dX5_caught_9 : decode cX5_caught 9 = .ok (.iconst (-1), 1) := by decide +kernel
theorem dX5_caught_10 : decode cX5_caught 10 = .ok (.ireturn, 1) := by decide +kernel
theorem dX5_caught_11 : decode cX5_caught 11 = .ok (.aload_n 0, 1) := by decide +kernel
theorem dX5_caught_12 : decode cX5_caught 12 = .ok (.getfield 36, 3) := by decide +kernel
theorem dX5_caught_15 : decode cX5_caught 15 = .ok (.aload_n 0, 1) := by decide +kernel
theorem dX5_caught_16 : decode cX5_caught 16 = .ok (.getfield 10, 3) := by decide +kernel
theorem dX5_caught_19 : decode cX5_caught 19 = .ok (.invokevirtual 181, 3) := by decide +kernel
theorem dX5_caught_22 : decode cX5_caught 22 = .ok (.aload_n 0, 1) := by decide +kernel
theorem dX5_caught_23 : decode cX5_caught 23 = .ok (.getfield 36, 3) := by decide +kernel
theorem dX5_caught_26 : decode cX5_caught 26 = .ok (.iload_n 1, 1) := by decide +kernel
theorem dX5_caught_27 : decode cX5_caught 27 = .ok (.iconst 0, 1) := by decide +kernel
theorem dX5_caught_28 : decode cX5_caught 28 = .ok (.invokevirtual 184, 3) := by decide +kernel
theorem dX5_caught_31 : decode cX5_caught 31 = .ok (.pop, 1) := by decide +kernel
theorem dX5_caught_32 : decode cX5_caught 32 = .ok (.aload_n 0, 1) := by decide +kernel
theorem dX5_caught_33 : decode cX5_caught 33 = .ok (.getfield 36, 3) := by decide +kernel
theorem dX5_caught_36 : decode cX5_caught 36 = .ok (.iload_n 2, 1) := by decide +kernel
theorem dX5_caught_37 : decode cX5_caught 37 = .ok (.iconst 0, 1) := by decide +kernel
theorem dX5_caught_38 : decode cX5_caught 38 = .ok (.invokevirtual 184, 3) := by decide +kernel
theorem dX5_caught_41 : decode cX5_caught 41 = .ok (.pop, 1) := by decide +kernel
theorem dX5_caught_42 : decode cX5_caught 42 = .ok (.iconst 1, 1) := by decide +kernel
theorem dX5_caught_43 : decode cX5_caught 43 = .ok (.aload_n 0, 1) := by decide +kernel
theorem dX5_caught_44 : decode cX5_caught 44 = .ok (.getfield 10, 3) := by decide +kernel
theorem dX5_caught_47 : decode cX5_caught 47 = .ok (.getfield 98, 3) := by decide +kernel
theorem dX5_caught_50 : decode cX5_caught 50 = .ok (.iload_n 1, 1) := by decide +kernel
theorem dX5_caught_51 : decode cX5_caught 51 = .ok (.iaload, 1) := by decide +kernel
theorem dX5_caught_52 : decode cX5_caught 52 = .ok (.aload_n 0, 1) := by decide +kernel
theorem dX5_caught_53 : decode cX5_caught 53 = .ok (.getfield 10, 3) := by decide +kernel
theorem dX5_caught_56 : decode cX5_caught 56 = .ok (.getfield 98, 3) := by decide +kernel
theorem dX5_caught_59 : decode cX5_caught 59 = .ok (.iload_n 2, 1) := by decide +kernel
theorem dX5_caught_60 : decode cX5_caught 60 = .ok (.iaload, 1) := by decide +kernel
theorem dX5_caught_61 : decode cX5_caught 61 = .ok (.invokestatic 196, 3) := by decide +kernel
theorem dX5_caught_64 : decode cX5_caught 64 = .ok (.invokestatic 196, 3) := by decide +kernel
theorem dX5_caught_67 : decode cX5_caught 67 = .ok (.istore_n 3, 1) := by decide +kernel
theorem dX5_caught_68 : decode cX5_caught 68 = .ok (.iload_n 3, 1) := by decide +kernel
theorem dX5_caught_69 : decode cX5_caught 69 = .ok (.istore 4, 2) := by decide +kernel
theorem dX5_caught_71 : decode cX5_caught 71 = .ok (.iload 4, 2) := by decide +kernel
theorem dX5_caught_73 : decode cX5_caught 73 = .ok (.aload_n 0, 1) := by decide +kernel
theorem dX5_caught_74 : decode cX5_caught 74 = .ok (.getfield 10, 3) := by decide +kernel
theorem dX5_caught_77 : decode cX5_caught 77 = .ok (.getfield 65, 3) := by decide +kernel
theorem dX5_caught_80 : decode cX5_caught 80 = .ok (.if_icmp .gt 35, 3) := by decide +kernel
theorem dX5_caught_83 : decode cX5_caught 83 = .ok (.aload_n 0, 1) := by decide +kernel
theorem dX5_caught_84 : decode cX5_caught 84 = .ok (.getfield 36, 3) := by decide +kernel
theorem dX5_caught_87 : decode cX5_caught 87 = .ok (.iload_n 2, 1) := by decide +kernel
theorem dX5_caught_88 : decode cX5_caught 88 = .ok (.iload 4, 2) := by decide +kernel
theorem dX5_caught_90 : decode cX5_caught 90 = .ok (.invokevirtual 190, 3) := by decide +kernel
theorem dX5_caught_93 : decode cX5_caught 93 = .ok (.aload_n 0, 1) := by decide +kernel
theorem dX5_caught_94 : decode cX5_caught 94 = .ok (.getfield 36, 3) := by decide +kernel
theorem dX5_caught_97 : decode cX5_caught 97 = .ok (.iload_n 1, 1) := by decide +kernel
theorem dX5_caught_98 : decode cX5_caught 98 = .ok (.iload 4, 2) := by decide +kernel
theorem dX5_caught_100 : decode cX5_caught 100 = .ok (.invokevirtual 190, 3) := by decide +kernel
theorem dX5_caught_103 : decode cX5_caught 103 = .ok (.if_icmp .gt 6, 3) := by decide +kernel
theorem dX5_caught_106 : decode cX5_caught 106 = .ok (.iload 4, 2) := by decide +kernel
theorem dX5_caught_108 : decode cX5_caught 108 = .ok (.ireturn, 1) := by decide +kernel
theorem dX5_caught_109 : decode cX5_caught 109 = .ok (.iinc 4 1, 3) := by decide +kernel
theorem dX5_caught_112 : decode cX5_caught 112 = .ok (.goto (-41), 3) := by decide +kernel
theorem dX5_caught_115 : decode cX5_caught 115 = .ok (.bipush (-4), 2) := by decide +kernel
theorem dX5_caught_117 : decode cX5_caught 117 = .ok (.ireturn, 1) := by decide +kernel
theorem dX5_best_0 : decode cX5_best 0 = .ok (.aload_n 0, 1) := by decide +kernel
theorem dX5_best_1 : decode cX5_best 1 = .ok (.iload_n 1, 1) := by decide +kernel
theorem dX5_best_2 : decode cX5_best 2 = .ok (.invokevirtual 91, 3) := by decide +kernel
theorem dX5_best_5 : decode cX5_best 5 = .ok (.ifCond .eq 10, 3) := by decide +kernel
theorem dX5_best_8 : decode cX5_best 8 = .ok (.iload_n 2, 1) := by decide +kernel
theorem dX5_best_9 : decode cX5_best 9 = .ok (.invokestatic 178, 3) := by decide +kernel
theorem dX5_best_12 : decode cX5_best 12 = .ok (.ifCond .ne 5, 3) := by decide +kernel
theorem dX5_best_15 : decode cX5_best 15 = .ok (.iconst (-1), 1) := by decide +kernel
theorem dX5_best_16 : decode cX5_best 16 = .ok (.ireturn, 1) := by decide +kernel
theorem dX5_best_17 : decode cX5_best 17 = .ok (.aload_n 0, 1) := by decide +kernel
theorem dX5_best_18 : decode cX5_best 18 = .ok (.iload_n 1, 1) := by decide +kernel
theorem dX5_best_19 : decode cX5_best 19 = .ok (.invokevirtual 199, 3) := by decide +kernel
theorem dX5_best_22 : decode cX5_best 22 = .ok (.istore_n 3, 1) := by decide +kernel
theorem dX5_best_23 : decode cX5_best 23 = .ok (.iload_n 2, 1) := by decide +kernel
theorem dX5_best_24 : decode cX5_best 24 = .ok (.ifCond .ne 7, 3) := by decide +kernel
theorem dX5_best_27 : decode cX5_best 27 = .ok (.iload_n 3, 1) := by decide +kernel
theorem dX5_best_28 : decode cX5_best 28 = .ok (.goto 9, 3) := by decide +kernel
theorem dX5_best_31 : decode cX5_best 31 = .ok (.aload_n 0, 1) := by decide +kernel
theorem dX5_best_32 : decode cX5_best 32 = .ok (.iload_n 1, 1) := by decide +kernel
theorem dX5_best_33 : decode cX5_best 33 = .ok (.iload_n 3, 1) := by decide +kernel
theorem dX5_best_34 : decode cX5_best 34 = .ok (.invokevirtual 202, 3) := by decide +kernel
theorem dX5_best_37 : decode cX5_best 37 = .ok (.ireturn, 1) := by decide +kernel
theorem dX5_earlier_0 : decode cX5_earlier 0 = .ok (.aload_n 0, 1) := by decide +kernel
theorem dX5_earlier_1 : decode cX5_earlier 1 = .ok (.iload_n 1, 1) := by decide +kernel
theorem dX5_earlier_2 : decode cX5_earlier 2 = .ok (.iload_n 2, 1) := by decide +kernel
theorem dX5_earlier_3 : decode cX5_earlier 3 = .ok (.invokevirtual 159, 3) := by decide +kernel
theorem dX5_earlier_6 : decode cX5_earlier 6 = .ok (.ifCond .ne 5, 3) := by decide +kernel
theorem dX5_earlier_9 : decode cX5_earlier 9 = .ok (.iconst (-1), 1) := by decide +kernel
theorem dX5_earlier_10 : decode cX5_earlier 10 = .ok (.ireturn, 1) := by decide +kernel
theorem dX5_earlier_11 : decode cX5_earlier 11 = .ok (.sipush 300, 3) := by decide +kernel
theorem dX5_earlier_14 : decode cX5_earlier 14 = .ok (.aload_n 0, 1) := by decide +kernel
theorem dX5_earlier_15 : decode cX5_earlier 15 = .ok (.getfield 10, 3) := by decide +kernel
theorem dX5_earlier_18 : decode cX5_earlier 18 = .ok (.getfield 101, 3) := by decide +kernel
theorem dX5_earlier_21 : decode cX5_earlier 21 = .ok (.iload_n 1, 1) := by decide +kernel
theorem dX5_earlier_22 : decode cX5_earlier 22 = .ok (.iaload, 1) := by decide +kernel
theorem dX5_earlier_23 : decode cX5_earlier 23 = .ok (.invokestatic 163, 3) := by decide +kernel
theorem dX5_earlier_26 : decode cX5_earlier 26 = .ok (.istore_n 3, 1) := by decide +kernel
theorem dX5_earlier_27 : decode cX5_earlier 27 = .ok (.iconst 0, 1) := by decide +kernel
theorem dX5_earlier_28 : decode cX5_earlier 28 = .ok (.istore 4, 2) := by decide +kernel
theorem dX5_earlier_30 : decode cX5_earlier 30 = .ok (.iload 4, 2) := by decide +kernel
theorem dX5_earlier_32 : decode cX5_earlier 32 = .ok (.iload_n 3, 1) := by decide +kernel
theorem dX5_earlier_33 : decode cX5_earlier 33 = .ok (.if_icmp .gt 61, 3) := by decide +kernel
theorem dX5_earlier_36 : decode cX5_earlier 36 = .ok (.aload_n 0, 1) := by decide +kernel
theorem dX5_earlier_37 : decode cX5_earlier 37 = .ok (.getfield 36, 3) := by decide +kernel
theorem dX5_earlier_40 : decode cX5_earlier 40 = .ok (.aload_n 0, 1) := by decide +kernel
theorem dX5_earlier_41 : decode cX5_earlier 41 = .ok (.getfield 10, 3) := by decide +kernel
theorem dX5_earlier_44 : decode cX5_earlier 44 = .ok (.invokevirtual 181, 3) := by decide +kernel
theorem dX5_earlier_47 : decode cX5_earlier 47 = .ok (.aload_n 0, 1) := by decide +kernel
theorem dX5_earlier_48 : decode cX5_earlier 48 = .ok (.getfield 36, 3) := by decide +kernel
theorem dX5_earlier_51 : decode cX5_earlier 51 = .ok (.getfield 187, 3) := by decide +kernel
theorem dX5_earlier_54 : decode cX5_earlier 54 = .ok (.getfield 101, 3) := by decide +kernel
theorem dX5_earlier_57 : decode cX5_earlier 57 = .ok (.iload_n 1, 1) := by decide +kernel
theorem dX5_earlier_58 : decode cX5_earlier 58 = .ok (.dup2, 1) := by decide +kernel
theorem dX5_earlier_59 : decode cX5_earlier 59 = .ok (.iaload, 1) := by decide +kernel
theorem dX5_earlier_60 : decode cX5_earlier 60 = .ok (.iload 4, 2) := by decide +kernel
theorem dX5_earlier_62 : decode cX5_earlier 62 = .ok (.isub, 1) := by decide +kernel
theorem dX5_earlier_63 : decode cX5_earlier 63 = .ok (.iastore, 1) := by decide +kernel
theorem dX5_earlier_64 : decode cX5_earlier 64 = .ok (.aload_n 0, 1) := by decide +kernel
theorem dX5_earlier_65 : decode cX5_earlier 65 = .ok (.getfield 36, 3) := by decide +kernel
theorem dX5_earlier_68 : decode cX5_earlier 68 = .ok (.iload_n 1, 1) := by decide +kernel
theorem dX5_earlier_69 : decode cX5_earlier 69 = .ok (.iconst 0, 1) := by decide +kernel
theorem dX5_earlier_70 : decode cX5_earlier 70 = .ok (.invokevirtual 184, 3) := by decide +kernel
theorem dX5_earlier_73 : decode cX5_earlier 73 = .ok (.aload_n 0, 1) := by decide +kernel
theorem dX5_earlier_74 : decode cX5_earlier 74 = .ok (.getfield 36, 3) := by decide +kernel
theorem dX5_earlier_77 : decode cX5_earlier 77 = .ok (.iload_n 2, 1) := by decide +kernel
theorem dX5_earlier_78 : decode cX5_earlier 78 = .ok (.iconst 0, 1) := by decide +kernel
theorem dX5_earlier_79 : decode cX5_earlier 79 = .ok (.invokevirtual 184, 3) := by decide +kernel
theorem dX5_earlier_82 : decode cX5_earlier 82 = .ok (.if_icmp .ge 6, 3) := by decide +kernel
theorem dX5_earlier_85 : decode cX5_earlier 85 = .ok (.iload 4, 2) := by decide +kernel
theorem dX5_earlier_87 : decode cX5_earlier 87 = .ok (.ireturn, 1) := by decide +kernel
theorem dX5_earlier_88 : decode cX5_earlier 88 = .ok (.iinc 4 1, 3) := by decide +kernel
theorem dX5_earlier_91 : decode cX5_earlier 91 = .ok (.goto (-61), 3) := by decide +kernel
theorem dX5_earlier_94 : decode cX5_earlier 94 = .ok (.bipush (-4), 2) := by decide +kernel
theorem dX5_earlier_96 : decode cX5_earlier 96 = .ok (.ireturn, 1) := by decide +kernel
theorem dX5_purse_0 : decode cX5_purse 0 = .ok (.aload_n 0, 1) := by decide +kernel
theorem dX5_purse_1 : decode cX5_purse 1 = .ok (.iload_n 1, 1) := by decide +kernel
theorem dX5_purse_2 : decode cX5_purse 2 = .ok (.invokevirtual 91, 3) := by decide +kernel
theorem dX5_purse_5 : decode cX5_purse 5 = .ok (.ifCond .eq 14, 3) := by decide +kernel
theorem dX5_purse_8 : decode cX5_purse 8 = .ok (.iload_n 2, 1) := by decide +kernel
theorem dX5_purse_9 : decode cX5_purse 9 = .ok (.iconst 0, 1) := by decide +kernel
theorem dX5_purse_10 : decode cX5_purse 10 = .ok (.sipush 9999, 3) := by decide +kernel
theorem dX5_purse_13 : decode cX5_purse 13 = .ok (.invokestatic 61, 3) := by decide +kernel
theorem dX5_purse_16 : decode cX5_purse 16 = .ok (.ifCond .ne 5, 3) := by decide +kernel
theorem dX5_purse_19 : decode cX5_purse 19 = .ok (.iconst (-1), 1) := by decide +kernel
theorem dX5_purse_20 : decode cX5_purse 20 = .ok (.ireturn, 1) := by decide +kernel
theorem dX5_purse_21 : decode cX5_purse 21 = .ok (.iconst 0, 1) := by decide +kernel
theorem dX5_purse_22 : decode cX5_purse 22 = .ok (.istore_n 3, 1) := by decide +kernel
theorem dX5_purse_23 : decode cX5_purse 23 = .ok (.iload_n 3, 1) := by decide +kernel
theorem dX5_purse_24 : decode cX5_purse 24 = .ok (.bipush 99, 2) := by decide +kernel
theorem dX5_purse_26 : decode cX5_purse 26 = .ok (.if_icmp .gt 48, 3) := by decide +kernel
theorem dX5_purse_29 : decode cX5_purse 29 = .ok (.aload_n 0, 1) := by decide +kernel
theorem dX5_purse_30 : decode cX5_purse 30 = .ok (.getfield 36, 3) := by decide +kernel
theorem dX5_purse_33 : decode cX5_purse 33 = .ok (.aload_n 0, 1) := by decide +kernel
theorem dX5_purse_34 : decode cX5_purse 34 = .ok (.getfield 10, 3) := by decide +kernel
theorem dX5_purse_37 : decode cX5_purse 37 = .ok (.invokevirtual 181, 3) := by decide +kernel
theorem dX5_purse_40 : decode cX5_purse 40 = .ok (.aload_n 0, 1) := by decide +kernel
theorem dX5_purse_41 : decode cX5_purse 41 = .ok (.getfield 36, 3) := by decide +kernel
theorem dX5_purse_44 : decode cX5_purse 44 = .ok (.getfield 187, 3) := by decide +kernel
theorem dX5_purse_47 : decode cX5_purse 47 = .ok (.getfield 104, 3) := by decide +kernel
theorem dX5_purse_50 : decode cX5_purse 50 = .ok (.iload_n 1, 1) := by decide +kernel
theorem dX5_purse_51 : decode cX5_purse 51 = .ok (.iload_n 3, 1) := by decide +kernel
theorem dX5_purse_52 : decode cX5_purse 52 = .ok (.iastore, 1) := by decide +kernel
theorem dX5_purse_53 : decode cX5_purse 53 = .ok (.aload_n 0, 1) := by decide +kernel
theorem dX5_purse_54 : decode cX5_purse 54 = .ok (.getfield 36, 3) := by decide +kernel
theorem dX5_purse_57 : decode cX5_purse 57 = .ok (.iload_n 1, 1) := by decide +kernel
theorem dX5_purse_58 : decode cX5_purse 58 = .ok (.iconst 0, 1) := by decide +kernel
theorem dX5_purse_59 : decode cX5_purse 59 = .ok (.invokevirtual 184, 3) := by decide +kernel
theorem dX5_purse_62 : decode cX5_purse 62 = .ok (.iload_n 2, 1) := by decide +kernel
theorem dX5_purse_63 : decode cX5_purse 63 = .ok (.if_icmp .gt 5, 3) := by decide +kernel
theorem dX5_purse_66 : decode cX5_purse 66 = .ok (.iload_n 3, 1) := by decide +kernel
theorem dX5_purse_67 : decode cX5_purse 67 = .ok (.ireturn, 1) := by decide +kernel
theorem dX5_purse_68 : decode cX5_purse 68 = .ok (.iinc 3 1, 3) := by decide +kernel
theorem dX5_purse_71 : decode cX5_purse 71 = .ok (.goto (-48), 3) := by decide +kernel
theorem dX5_purse_74 : decode cX5_purse 74 = .ok (.bipush (-4), 2) := by decide +kernel
theorem dX5_purse_76 : decode cX5_purse 76 = .ok (.ireturn, 1) := by decide +kernel
theorem dX5_loosened_0 : decode cX5_loosened 0 = .ok (.aload_n 0, 1) := by decide +kernel
theorem dX5_loosened_1 : decode cX5_loosened 1 = .ok (.iload_n 1, 1) := by decide +kernel
theorem dX5_loosened_2 : decode cX5_loosened 2 = .ok (.invokevirtual 91, 3) := by decide +kernel
theorem dX5_loosened_5 : decode cX5_loosened 5 = .ok (.ifCond .eq 10, 3) := by decide +kernel
theorem dX5_loosened_8 : decode cX5_loosened 8 = .ok (.iload_n 2, 1) := by decide +kernel
theorem dX5_loosened_9 : decode cX5_loosened 9 = .ok (.invokestatic 178, 3) := by decide +kernel
theorem dX5_loosened_12 : decode cX5_loosened 12 = .ok (.ifCond .ne 5, 3) := by decide +kernel
theorem dX5_loosened_15 : decode cX5_loosened 15 = .ok (.iconst (-1), 1) := by decide +kernel
theorem dX5_loosened_16 : decode cX5_loosened 16 = .ok (.ireturn, 1) := by decide +kernel
theorem dX5_loosened_17 : decode cX5_loosened 17 = .ok (.bipush (-4), 2) := by decide +kernel
theorem dX5_loosened_19 : decode cX5_loosened 19 = .ok (.istore_n 3, 1) := by decide +kernel
theorem dX5_loosened_20 : decode cX5_loosened 20 = .ok (.bipush (-4), 2) := by decide +kernel
theorem dX5_loosened_22 : decode cX5_loosened 22 = .ok (.istore 4, 2) := by decide +kernel
theorem dX5_loosened_24 : decode cX5_loosened 24 = .ok (.aload_n 0, 1) := by decide +kernel
theorem dX5_loosened_25 : decode cX5_loosened 25 = .ok (.getfield 10, 3) := by decide +kernel
theorem dX5_loosened_28 : decode cX5_loosened 28 = .ok (.getfield 98, 3) := by decide +kernel
theorem dX5_loosened_31 : decode cX5_loosened 31 = .ok (.iload_n 1, 1) := by decide +kernel
theorem dX5_loosened_32 : decode cX5_loosened 32 = .ok (.iaload, 1) := by decide +kernel
theorem dX5_loosened_33 : decode cX5_loosened 33 = .ok (.istore 5, 2) := by decide +kernel
theorem dX5_loosened_35 : decode cX5_loosened 35 = .ok (.iload 5, 2) := by decide +kernel
theorem dX5_loosened_37 : decode cX5_loosened 37 = .ok (.aload_n 0, 1) := by decide +kernel
theorem dX5_loosened_38 : decode cX5_loosened 38 = .ok (.getfield 10, 3) := by decide +kernel
theorem dX5_loosened_41 : decode cX5_loosened 41 = .ok (.getfield 65, 3) := by decide +kernel
theorem dX5_loosened_44 : decode cX5_loosened 44 = .ok (.if_icmp .ge 48, 3) := by decide +kernel
theorem dX5_loosened_47 : decode cX5_loosened 47 = .ok (.aload_n 0, 1) := by decide +kernel
theorem dX5_loosened_48 : decode cX5_loosened 48 = .ok (.getfield 36, 3) := by decide +kernel
theorem dX5_loosened_51 : decode cX5_loosened 51 = .ok (.aload_n 0, 1) := by decide +kernel
theorem dX5_loosened_52 : decode cX5_loosened 52 = .ok (.getfield 10, 3) := by decide +kernel
theorem dX5_loosened_55 : decode cX5_loosened 55 = .ok (.invokevirtual 181, 3) := by decide +kernel
theorem dX5_loosened_58 : decode cX5_loosened 58 = .ok (.aload_n 0, 1) := by decide +kernel
theorem dX5_loosened_59 : decode cX5_loosened 59 = .ok (.getfield 36, 3) := by decide +kernel
theorem dX5_loosened_62 : decode cX5_loosened 62 = .ok (.iload_n 1, 1) := by decide +kernel
theorem dX5_loosened_63 : decode cX5_loosened 63 = .ok (.iconst 1, 1) := by decide +kernel
theorem dX5_loosened_64 : decode cX5_loosened 64 = .ok (.iload 5, 2) := by decide +kernel
theorem dX5_loosened_66 : decode cX5_loosened 66 = .ok (.ishl, 1) := by decide +kernel
theorem dX5_loosened_67 : decode cX5_loosened 67 = .ok (.invokevirtual 184, 3) := by decide +kernel
theorem dX5_loosened_70 : decode cX5_loosened 70 = .ok (.istore 6, 2) := by decide +kernel
theorem dX5_loosened_72 : decode cX5_loosened 72 = .ok (.iload 6, 2) := by decide +kernel
theorem dX5_loosened_74 : decode cX5_loosened 74 = .ok (.iload 4, 2) := by decide +kernel
theorem dX5_loosened_76 : decode cX5_loosened 76 = .ok (.if_icmp .le 10, 3) := by decide +kernel
theorem dX5_loosened_79 : decode cX5_loosened 79 = .ok (.iload 6, 2) := by decide +kernel
theorem dX5_loosened_81 : decode cX5_loosened 81 = .ok (.istore 4, 2) := by decide +kernel
theorem dX5_loosened_83 : decode cX5_loosened 83 = .ok (.iload 5, 2) := by decide +kernel
theorem dX5_loosened_85 : decode cX5_loosened 85 = .ok (.istore_n 3, 1) := by decide +kernel
theorem dX5_loosened_86 : decode cX5_loosened 86 = .ok (.iinc 5 1, 3) := by decide +kernel
theorem dX5_loosened_89 : decode cX5_loosened 89 = .ok (.goto (-54), 3) := by decide +kernel
theorem dX5_loosened_92 : decode cX5_loosened 92 = .ok (.iload_n 2, 1) := by decide +kernel
theorem dX5_loosened_93 : decode cX5_loosened 93 = .ok (.ifCond .ne 7, 3) := by decide +kernel
theorem dX5_loosened_96 : decode cX5_loosened 96 = .ok (.iload_n 3, 1) := by decide +kernel
theorem dX5_loosened_97 : decode cX5_loosened 97 = .ok (.goto 5, 3) := by decide +kernel
theorem dX5_loosened_100 : decode cX5_loosened 100 = .ok (.iload 4, 2) := by decide +kernel
theorem dX5_loosened_102 : decode cX5_loosened 102 = .ok (.ireturn, 1) := by decide +kernel
theorem dX5_duel_0 : decode cX5_duel 0 = .ok (.aload_n 0, 1) := by decide +kernel
theorem dX5_duel_1 : decode cX5_duel 1 = .ok (.iload_n 1, 1) := by decide +kernel
theorem dX5_duel_2 : decode cX5_duel 2 = .ok (.iload_n 2, 1) := by decide +kernel
theorem dX5_duel_3 : decode cX5_duel 3 = .ok (.invokevirtual 159, 3) := by decide +kernel
theorem dX5_duel_6 : decode cX5_duel 6 = .ok (.ifCond .eq 10, 3) := by decide +kernel
theorem dX5_duel_9 : decode cX5_duel 9 = .ok (.iload_n 3, 1) := by decide +kernel
theorem dX5_duel_10 : decode cX5_duel 10 = .ok (.invokestatic 178, 3) := by decide +kernel
theorem dX5_duel_13 : decode cX5_duel 13 = .ok (.ifCond .ne 5, 3) := by decide +kernel
theorem dX5_duel_16 : decode cX5_duel 16 = .ok (.iconst (-1), 1) := by decide +kernel
theorem dX5_duel_17 : decode cX5_duel 17 = .ok (.ireturn, 1) := by decide +kernel
theorem dX5_duel_18 : decode cX5_duel 18 = .ok (.aload_n 0, 1) := by decide +kernel
theorem dX5_duel_19 : decode cX5_duel 19 = .ok (.iload_n 1, 1) := by decide +kernel
theorem dX5_duel_20 : decode cX5_duel 20 = .ok (.iload_n 2, 1) := by decide +kernel
theorem dX5_duel_21 : decode cX5_duel 21 = .ok (.invokevirtual 205, 3) := by decide +kernel
theorem dX5_duel_24 : decode cX5_duel 24 = .ok (.iconst 0, 1) := by decide +kernel
theorem dX5_duel_25 : decode cX5_duel 25 = .ok (.istore 4, 2) := by decide +kernel
theorem dX5_duel_27 : decode cX5_duel 27 = .ok (.bipush (-4), 2) := by decide +kernel
theorem dX5_duel_29 : decode cX5_duel 29 = .ok (.istore 5, 2) := by decide +kernel
theorem dX5_duel_31 : decode cX5_duel 31 = .ok (.iconst 0, 1) := by decide +kernel
theorem dX5_duel_32 : decode cX5_duel 32 = .ok (.istore 6, 2) := by decide +kernel
theorem dX5_duel_34 : decode cX5_duel 34 = .ok (.iload 6, 2) := by decide +kernel
theorem dX5_duel_36 : decode cX5_duel 36 = .ok (.aload_n 0, 1) := by decide +kernel
theorem dX5_duel_37 : decode cX5_duel 37 = .ok (.getfield 10, 3) := by decide +kernel
theorem dX5_duel_40 : decode cX5_duel 40 = .ok (.getfield 65, 3) := by decide +kernel
theorem dX5_duel_43 : decode cX5_duel 43 = .ok (.if_icmp .gt 64, 3) := by decide +kernel
theorem dX5_duel_46 : decode cX5_duel 46 = .ok (.iconst 0, 1) := by decide +kernel
theorem dX5_duel_47 : decode cX5_duel 47 = .ok (.istore 7, 2) := by decide +kernel
theorem dX5_duel_49 : decode cX5_duel 49 = .ok (.iload 7, 2) := by decide +kernel
theorem dX5_duel_51 : decode cX5_duel 51 = .ok (.aload_n 0, 1) := by decide +kernel
theorem dX5_duel_52 : decode cX5_duel 52 = .ok (.getfield 10, 3) := by decide +kernel
theorem dX5_duel_55 : decode cX5_duel 55 = .ok (.getfield 65, 3) := by decide +kernel
theorem dX5_duel_58 : decode cX5_duel 58 = .ok (.if_icmp .gt 43, 3) := by decide +kernel
theorem dX5_duel_61 : decode cX5_duel 61 = .ok (.aload_n 0, 1) := by decide +kernel
theorem dX5_duel_62 : decode cX5_duel 62 = .ok (.iload 6, 2) := by decide +kernel
theorem dX5_duel_64 : decode cX5_duel 64 = .ok (.iload 7, 2) := by decide +kernel
theorem dX5_duel_66 : decode cX5_duel 66 = .ok (.invokevirtual 208, 3) := by decide +kernel
theorem dX5_duel_69 : decode cX5_duel 69 = .ok (.ifCond .eq 26, 3) := by decide +kernel
theorem dX5_duel_72 : decode cX5_duel 72 = .ok (.iload 4, 2) := by decide +kernel
theorem dX5_duel_74 : decode cX5_duel 74 = .ok (.ifCond .ne 14, 3) := by decide +kernel
theorem dX5_duel_77 : decode cX5_duel 77 = .ok (.bipush 100, 2) := by decide +kernel
theorem dX5_duel_79 : decode cX5_duel 79 = .ok (.iload 6, 2) := by decide +kernel
theorem dX5_duel_81 : decode cX5_duel 81 = .ok (.imul, 1) := by decide +kernel
theorem dX5_duel_82 : decode cX5_duel 82 = .ok (.iload 7, 2) := by decide +kernel
theorem dX5_duel_84 : decode cX5_duel 84 = .ok (.iadd, 1) := by decide +kernel
theorem dX5_duel_85 : decode cX5_duel 85 = .ok (.goto 5, 3) := by decide +kernel
theorem dX5_duel_88 : decode cX5_duel 88 = .ok (.iload 5, 2) := by decide +kernel
theorem dX5_duel_90 : decode cX5_duel 90 = .ok (.istore 5, 2) := by decide +kernel
theorem dX5_duel_92 : decode cX5_duel 92 = .ok (.iinc 4 1, 3) := by decide +kernel
theorem dX5_duel_95 : decode cX5_duel 95 = .ok (.iinc 7 1, 3) := by decide +kernel
theorem dX5_duel_98 : decode cX5_duel 98 = .ok (.goto (-49), 3) := by decide +kernel
theorem dX5_duel_101 : decode cX5_duel 101 = .ok (.iinc 6 1, 3) := by decide +kernel
theorem dX5_duel_104 : decode cX5_duel 104 = .ok (.goto (-70), 3) := by decide +kernel
theorem dX5_duel_107 : decode cX5_duel 107 = .ok (.iload_n 3, 1) := by decide +kernel
theorem dX5_duel_108 : decode cX5_duel 108 = .ok (.ifCond .ne 8, 3) := by decide +kernel
theorem dX5_duel_111 : decode cX5_duel 111 = .ok (.iload 4, 2) := by decide +kernel
theorem dX5_duel_113 : decode cX5_duel 113 = .ok (.goto 5, 3) := by decide +kernel
theorem dX5_duel_116 : decode cX5_duel 116 = .ok (.iload 5, 2) := by decide +kernel
theorem dX5_duel_118 : decode cX5_duel 118 = .ok (.ireturn, 1) := by decide +kernel
theorem dX5_luck_0 : decode cX5_luck 0 = .ok (.aload_n 0, 1) := by decide +kernel
theorem dX5_luck_1 : decode cX5_luck 1 = .ok (.iload_n 1, 1) := by decide +kernel
theorem dX5_luck_2 : decode cX5_luck 2 = .ok (.invokevirtual 91, 3) := by decide +kernel
theorem dX5_luck_5 : decode cX5_luck 5 = .ok (.ifCond .eq 20, 3) := by decide +kernel
theorem dX5_luck_8 : decode cX5_luck 8 = .ok (.iload_n 2, 1) := by decide +kernel
theorem dX5_luck_9 : decode cX5_luck 9 = .ok (.iconst 0, 1) := by decide +kernel
theorem dX5_luck_10 : decode cX5_luck 10 = .ok (.bipush 10, 2) := by decide +kernel
theorem dX5_luck_12 : decode cX5_luck 12 = .ok (.invokestatic 61, 3) := by decide +kernel
theorem dX5_luck_15 : decode cX5_luck 15 = .ok (.ifCond .eq 10, 3) := by decide +kernel
theorem dX5_luck_18 : decode cX5_luck 18 = .ok (.iload_n 3, 1) := by decide +kernel
theorem dX5_luck_19 : decode cX5_luck 19 = .ok (.invokestatic 178, 3) := by decide +kernel
theorem dX5_luck_22 : decode cX5_luck 22 = .ok (.ifCond .ne 5, 3) := by decide +kernel
theorem dX5_luck_25 : decode cX5_luck 25 = .ok (.iconst (-1), 1) := by decide +kernel
theorem dX5_luck_26 : decode cX5_luck 26 = .ok (.ireturn, 1) := by decide +kernel
theorem dX5_luck_27 : decode cX5_luck 27 = .ok (.aload_n 0, 1) := by decide +kernel
theorem dX5_luck_28 : decode cX5_luck 28 = .ok (.getfield 10, 3) := by decide +kernel
theorem dX5_luck_31 : decode cX5_luck 31 = .ok (.getfield 65, 3) := by decide +kernel
theorem dX5_luck_34 : decode cX5_luck 34 = .ok (.aload_n 0, 1) := by decide +kernel
theorem dX5_luck_35 : decode cX5_luck 35 = .ok (.getfield 10, 3) := by decide +kernel
theorem dX5_luck_38 : decode cX5_luck 38 = .ok (.getfield 98, 3) := by decide +kernel
theorem dX5_luck_41 : decode cX5_luck 41 = .ok (.iload_n 1, 1) := by decide +kernel
theorem dX5_luck_42 : decode cX5_luck 42 = .ok (.iaload, 1) := by decide +kernel
theorem dX5_luck_43 : decode cX5_luck 43 = .ok (.isub, 1) := by decide +kernel
theorem dX5_luck_44 : decode cX5_luck 44 = .ok (.istore 4, 2) := by decide +kernel
theorem dX5_luck_46 : decode cX5_luck 46 = .ok (.iconst 0, 1) := by decide +kernel
theorem dX5_luck_47 : decode cX5_luck 47 = .ok (.istore 5, 2) := by decide +kernel
theorem dX5_luck_49 : decode cX5_luck 49 = .ok (.iconst 1, 1) := by decide +kernel
theorem dX5_luck_50 : decode cX5_luck 50 = .ok (.istore 6, 2) := by decide +kernel
theorem dX5_luck_52 : decode cX5_luck 52 = .ok (.iconst 0, 1) := by decide +kernel
theorem dX5_luck_53 : decode cX5_luck 53 = .ok (.istore 7, 2) := by decide +kernel
theorem dX5_luck_55 : decode cX5_luck 55 = .ok (.iload 7, 2) := by decide +kernel
theorem dX5_luck_57 : decode cX5_luck 57 = .ok (.iload 4, 2) := by decide +kernel
theorem dX5_luck_59 : decode cX5_luck 59 = .ok (.if_icmp .ge 16, 3) := by decide +kernel
theorem dX5_luck_62 : decode cX5_luck 62 = .ok (.iload 6, 2) := by decide +kernel
theorem dX5_luck_64 : decode cX5_luck 64 = .ok (.bipush 10, 2) := by decide +kernel
theorem dX5_luck_66 : decode cX5_luck 66 = .ok (.imul, 1) := by decide +kernel
theorem dX5_luck_67 : decode cX5_luck 67 = .ok (.istore 6, 2) := by decide +kernel
theorem dX5_luck_69 : decode cX5_luck 69 = .ok (.iinc 7 1, 3) := by decide +kernel
theorem dX5_luck_72 : decode cX5_luck 72 = .ok (.goto (-17), 3) := by decide +kernel
theorem dX5_luck_75 : decode cX5_luck 75 = .ok (.iconst 0, 1) := by decide +kernel
theorem dX5_luck_76 : decode cX5_luck 76 = .ok (.istore 7, 2) := by decide +kernel
theorem dX5_luck_78 : decode cX5_luck 78 = .ok (.iload 7, 2) := by decide +kernel
theorem dX5_luck_80 : decode cX5_luck 80 = .ok (.iconst 1, 1) := by decide +kernel
theorem dX5_luck_81 : decode cX5_luck 81 = .ok (.iload 4, 2) := by decide +kernel
theorem dX5_luck_83 : decode cX5_luck 83 = .ok (.ishl, 1) := by decide +kernel
theorem dX5_luck_84 : decode cX5_luck 84 = .ok (.if_icmp .ge 51, 3) := by decide +kernel
theorem dX5_luck_87 : decode cX5_luck 87 = .ok (.iload 7, 2) := by decide +kernel
theorem dX5_luck_89 : decode cX5_luck 89 = .ok (.iload 4, 2) := by decide +kernel
theorem dX5_luck_91 : decode cX5_luck 91 = .ok (.iload_n 2, 1) := by decide +kernel
theorem dX5_luck_92 : decode cX5_luck 92 = .ok (.invokestatic 211, 3) := by decide +kernel
theorem dX5_luck_95 : decode cX5_luck 95 = .ok (.istore 8, 2) := by decide +kernel
theorem dX5_luck_97 : decode cX5_luck 97 = .ok (.iload 8, 2) := by decide +kernel
theorem dX5_luck_99 : decode cX5_luck 99 = .ok (.ifCond .le 30, 3) := by decide +kernel
theorem dX5_luck_102 : decode cX5_luck 102 = .ok (.aload_n 0, 1) := by decide +kernel
theorem dX5_luck_103 : decode cX5_luck 103 = .ok (.iload_n 1, 1) := by decide +kernel
theorem dX5_luck_104 : decode cX5_luck 104 = .ok (.iload 7, 2) := by decide +kernel
theorem dX5_luck_106 : decode cX5_luck 106 = .ok (.aload_n 0, 1) := by decide +kernel
theorem dX5_luck_107 : decode cX5_luck 107 = .ok (.getfield 10, 3) := by decide +kernel
theorem dX5_luck_110 : decode cX5_luck 110 = .ok (.getfield 98, 3) := by decide +kernel
theorem dX5_luck_113 : decode cX5_luck 113 = .ok (.iload_n 1, 1) := by decide +kernel
theorem dX5_luck_114 : decode cX5_luck 114 = .ok (.iaload, 1) := by decide +kernel
theorem dX5_luck_115 : decode cX5_luck 115 = .ok (.ishl, 1) := by decide +kernel
theorem dX5_luck_116 : decode cX5_luck 116 = .ok (.invokevirtual 214, 3) := by decide +kernel
theorem dX5_luck_119 : decode cX5_luck 119 = .ok (.ifCond .eq 10, 3) := by decide +kernel
theorem dX5_luck_122 : decode cX5_luck 122 = .ok (.iload 5, 2) := by decide +kernel
theorem dX5_luck_124 : decode cX5_luck 124 = .ok (.iload 8, 2) := by decide +kernel
theorem dX5_luck_126 : decode cX5_luck 126 = .ok (.iadd, 1) := by decide +kernel
theorem dX5_luck_127 : decode cX5_luck 127 = .ok (.istore 5, 2) := by decide +kernel
theorem dX5_luck_129 : decode cX5_luck 129 = .ok (.iinc 7 1, 3) := by decide +kernel
theorem dX5_luck_132 : decode cX5_luck 132 = .ok (.goto (-54), 3) := by decide +kernel
theorem dX5_luck_135 : decode cX5_luck 135 = .ok (.iconst 1, 1) := by decide +kernel
theorem dX5_luck_136 : decode cX5_luck 136 = .ok (.iload 5, 2) := by decide +kernel
theorem dX5_luck_138 : decode cX5_luck 138 = .ok (.iload 6, 2) := by decide +kernel
theorem dX5_luck_140 : decode cX5_luck 140 = .ok (.invokestatic 217, 3) := by decide +kernel
theorem dX5_luck_143 : decode cX5_luck 143 = .ok (.invokestatic 196, 3) := by decide +kernel
theorem dX5_luck_146 : decode cX5_luck 146 = .ok (.istore 7, 2) := by decide +kernel
theorem dX5_luck_148 : decode cX5_luck 148 = .ok (.iload_n 3, 1) := by decide +kernel
theorem dX5_luck_149 : decode cX5_luck 149 = .ok (.ifCond .ne 8, 3) := by decide +kernel
theorem dX5_luck_152 : decode cX5_luck 152 = .ok (.iload 5, 2) := by decide +kernel
theorem dX5_luck_154 : decode cX5_luck 154 = .ok (.goto 5, 3) := by decide +kernel
theorem dX5_luck_157 : decode cX5_luck 157 = .ok (.iload 6, 2) := by decide +kernel
theorem dX5_luck_159 : decode cX5_luck 159 = .ok (.iload 7, 2) := by decide +kernel
theorem dX5_luck_161 : decode cX5_luck 161 = .ok (.idiv, 1) := by decide +kernel
theorem dX5_luck_162 : decode cX5_luck 162 = .ok (.ireturn, 1) := by decide +kernel
theorem dX5_image_0 : decode cX5_image 0 = .ok (.aload_n 0, 1) := by decide +kernel
theorem dX5_image_1 : decode cX5_image 1 = .ok (.getfield 23, 3) := by decide +kernel
theorem dX5_image_4 : decode cX5_image 4 = .ok (.aload_n 0, 1) := by decide +kernel
theorem dX5_image_5 : decode cX5_image 5 = .ok (.getfield 10, 3) := by decide +kernel
theorem dX5_image_8 : decode cX5_image 8 = .ok (.invokevirtual 220, 3) := by decide +kernel
theorem dX5_image_11 : decode cX5_image 11 = .ok (.aload_n 0, 1) := by decide +kernel
theorem dX5_image_12 : decode cX5_image 12 = .ok (.getfield 26, 3) := by decide +kernel
theorem dX5_image_15 : decode cX5_image 15 = .ok (.aload_n 0, 1) := by decide +kernel
theorem dX5_image_16 : decode cX5_image 16 = .ok (.getfield 19, 3) := by decide +kernel
theorem dX5_image_19 : decode cX5_image 19 = .ok (.invokevirtual 223, 3) := by decide +kernel
theorem dX5_image_22 : decode cX5_image 22 = .ok (.aload_n 0, 1) := by decide +kernel
theorem dX5_image_23 : decode cX5_image 23 = .ok (.iconst 1, 1) := by decide +kernel
theorem dX5_image_24 : decode cX5_image 24 = .ok (.putfield 29, 3) := by decide +kernel
theorem dX5_image_27 : decode cX5_image 27 = .ok (.iconst 1, 1) := by decide +kernel
theorem dX5_image_28 : decode cX5_image 28 = .ok (.ireturn, 1) := by decide +kernel
theorem dX5_restore_0 : decode cX5_restore 0 = .ok (.aload_n 0, 1) := by decide +kernel
theorem dX5_restore_1 : decode cX5_restore 1 = .ok (.getfield 29, 3) := by decide +kernel
theorem dX5_restore_4 : decode cX5_restore 4 = .ok (.ifCond .ne 6, 3) := by decide +kernel
theorem dX5_restore_7 : decode cX5_restore 7 = .ok (.bipush (-4), 2) := by decide +kernel
theorem dX5_restore_9 : decode cX5_restore 9 = .ok (.ireturn, 1) := by decide +kernel
theorem dX5_restore_10 : decode cX5_restore 10 = .ok (.aload_n 0, 1) := by decide +kernel
theorem dX5_restore_11 : decode cX5_restore 11 = .ok (.getfield 10, 3) := by decide +kernel
theorem dX5_restore_14 : decode cX5_restore 14 = .ok (.aload_n 0, 1) := by decide +kernel
theorem dX5_restore_15 : decode cX5_restore 15 = .ok (.getfield 23, 3) := by decide +kernel
theorem dX5_restore_18 : decode cX5_restore 18 = .ok (.invokevirtual 220, 3) := by decide +kernel
theorem dX5_restore_21 : decode cX5_restore 21 = .ok (.aload_n 0, 1) := by decide +kernel
theorem dX5_restore_22 : decode cX5_restore 22 = .ok (.getfield 19, 3) := by decide +kernel
theorem dX5_restore_25 : decode cX5_restore 25 = .ok (.aload_n 0, 1) := by decide +kernel
theorem dX5_restore_26 : decode cX5_restore 26 = .ok (.getfield 26, 3) := by decide +kernel
theorem dX5_restore_29 : decode cX5_restore 29 = .ok (.invokevirtual 223, 3) := by decide +kernel
theorem dX5_restore_32 : decode cX5_restore 32 = .ok (.iconst 1, 1) := by decide +kernel
theorem dX5_restore_33 : decode cX5_restore 33 = .ok (.ireturn, 1) := by decide +kernel
theorem dX5_passed_0 : decode cX5_passed 0 = .ok (.aload_n 0, 1) := by decide +kernel
theorem dX5_passed_1 : decode cX5_passed 1 = .ok (.iload_n 1, 1) := by decide +kernel
theorem dX5_passed_2 : decode cX5_passed 2 = .ok (.iload_n 2, 1) := by decide +kernel
theorem dX5_passed_3 : decode cX5_passed 3 = .ok (.iload_n 3, 1) := by decide +kernel
theorem dX5_passed_4 : decode cX5_passed 4 = .ok (.iload 4, 2) := by decide +kernel
theorem dX5_passed_6 : decode cX5_passed 6 = .ok (.iload 5, 2) := by decide +kernel
theorem dX5_passed_8 : decode cX5_passed 8 = .ok (.invokevirtual 226, 3) := by decide +kernel
theorem dX5_passed_11 : decode cX5_passed 11 = .ok (.istore 6, 2) := by decide +kernel
theorem dX5_passed_13 : decode cX5_passed 13 = .ok (.iload 6, 2) := by decide +kernel
theorem dX5_passed_15 : decode cX5_passed 15 = .ok (.ifCond .ge 6, 3) := by decide +kernel
theorem dX5_passed_18 : decode cX5_passed 18 = .ok (.iload 6, 2) := by decide +kernel
theorem dX5_passed_20 : decode cX5_passed 20 = .ok (.ireturn, 1) := by decide +kernel
theorem dX5_passed_21 : decode cX5_passed 21 = .ok (.iconst 0, 1) := by decide +kernel
theorem dX5_passed_22 : decode cX5_passed 22 = .ok (.istore 7, 2) := by decide +kernel
theorem dX5_passed_24 : decode cX5_passed 24 = .ok (.iconst 0, 1) := by decide +kernel
theorem dX5_passed_25 : decode cX5_passed 25 = .ok (.istore 8, 2) := by decide +kernel
theorem dX5_passed_27 : decode cX5_passed 27 = .ok (.iload 8, 2) := by decide +kernel
theorem dX5_passed_29 : decode cX5_passed 29 = .ok (.iconst 5, 1) := by decide +kernel
theorem dX5_passed_30 : decode cX5_passed 30 = .ok (.if_icmp .ge 71, 3) := by decide +kernel
theorem dX5_passed_33 : decode cX5_passed 33 = .ok (.aload_n 0, 1) := by decide +kernel
theorem dX5_passed_34 : decode cX5_passed 34 = .ok (.getfield 36, 3) := by decide +kernel
theorem dX5_passed_37 : decode cX5_passed 37 = .ok (.aload_n 0, 1) := by decide +kernel
theorem dX5_passed_38 : decode cX5_passed 38 = .ok (.getfield 10, 3) := by decide +kernel
theorem dX5_passed_41 : decode cX5_passed 41 = .ok (.invokevirtual 181, 3) := by decide +kernel
theorem dX5_passed_44 : decode cX5_passed 44 = .ok (.aload_n 0, 1) := by decide +kernel
theorem dX5_passed_45 : decode cX5_passed 45 = .ok (.getfield 36, 3) := by decide +kernel
theorem dX5_passed_48 : decode cX5_passed 48 = .ok (.getfield 187, 3) := by decide +kernel
theorem dX5_passed_51 : decode cX5_passed 51 = .ok (.getfield 95, 3) := by decide +kernel
theorem dX5_passed_54 : decode cX5_passed 54 = .ok (.iload_n 1, 1) := by decide +kernel
theorem dX5_passed_55 : decode cX5_passed 55 = .ok (.iload 8, 2) := by decide +kernel
theorem dX5_passed_57 : decode cX5_passed 57 = .ok (.iastore, 1) := by decide +kernel
theorem dX5_passed_58 : decode cX5_passed 58 = .ok (.aload_n 0, 1) := by decide +kernel
theorem dX5_passed_59 : decode cX5_passed 59 = .ok (.getfield 36, 3) := by decide +kernel
theorem dX5_passed_62 : decode cX5_passed 62 = .ok (.iload_n 1, 1) := by decide +kernel
theorem dX5_passed_63 : decode cX5_passed 63 = .ok (.iconst 0, 1) := by decide +kernel
theorem dX5_passed_64 : decode cX5_passed 64 = .ok (.invokevirtual 184, 3) := by decide +kernel
theorem dX5_passed_67 : decode cX5_passed 67 = .ok (.pop, 1) := by decide +kernel
theorem dX5_passed_68 : decode cX5_passed 68 = .ok (.aload_n 0, 1) := by decide +kernel
theorem dX5_passed_69 : decode cX5_passed 69 = .ok (.iload_n 1, 1) := by decide +kernel
theorem dX5_passed_70 : decode cX5_passed 70 = .ok (.aload_n 0, 1) := by decide +kernel
theorem dX5_passed_71 : decode cX5_passed 71 = .ok (.getfield 50, 3) := by decide +kernel
theorem dX5_passed_74 : decode cX5_passed 74 = .ok (.iload_n 2, 1) := by decide +kernel
theorem dX5_passed_75 : decode cX5_passed 75 = .ok (.aaload, 1) := by decide +kernel
theorem dX5_passed_76 : decode cX5_passed 76 = .ok (.iload 4, 2) := by decide +kernel
theorem dX5_passed_78 : decode cX5_passed 78 = .ok (.iload 5, 2) := by decide +kernel
theorem dX5_passed_80 : decode cX5_passed 80 = .ok (.invokevirtual 230, 3) := by decide +kernel
theorem dX5_passed_83 : decode cX5_passed 83 = .ok (.ifCond .eq 12, 3) := by decide +kernel
theorem dX5_passed_86 : decode cX5_passed 86 = .ok (.iload 7, 2) := by decide +kernel
theorem dX5_passed_88 : decode cX5_passed 88 = .ok (.iconst 1, 1) := by decide +kernel
theorem dX5_passed_89 : decode cX5_passed 89 = .ok (.iload 8, 2) := by decide +kernel
theorem dX5_passed_91 : decode cX5_passed 91 = .ok (.ishl, 1) := by decide +kernel
theorem dX5_passed_92 : decode cX5_passed 92 = .ok (.ior, 1) := by decide +kernel
theorem dX5_passed_93 : decode cX5_passed 93 = .ok (.istore 7, 2) := by decide +kernel
theorem dX5_passed_95 : decode cX5_passed 95 = .ok (.iinc 8 1, 3) := by decide +kernel
theorem dX5_passed_98 : decode cX5_passed 98 = .ok (.goto (-71), 3) := by decide +kernel
theorem dX5_passed_101 : decode cX5_passed 101 = .ok (.iload 7, 2) := by decide +kernel
theorem dX5_passed_103 : decode cX5_passed 103 = .ok (.ireturn, 1) := by decide +kernel
theorem dX5_film_0 : decode cX5_film 0 = .ok (.aload_n 0, 1) := by decide +kernel
theorem dX5_film_1 : decode cX5_film 1 = .ok (.iload_n 1, 1) := by decide +kernel
theorem dX5_film_2 : decode cX5_film 2 = .ok (.iload_n 3, 1) := by decide +kernel
theorem dX5_film_3 : decode cX5_film 3 = .ok (.iload 4, 2) := by decide +kernel
theorem dX5_film_5 : decode cX5_film 5 = .ok (.iload 5, 2) := by decide +kernel
theorem dX5_film_7 : decode cX5_film 7 = .ok (.iload_n 2, 1) := by decide +kernel
theorem dX5_film_8 : decode cX5_film 8 = .ok (.invokevirtual 226, 3) := by decide +kernel
theorem dX5_film_11 : decode cX5_film 11 = .ok (.istore 6, 2) := by decide +kernel
theorem dX5_film_13 : decode cX5_film 13 = .ok (.iload 6, 2) := by decide +kernel
theorem dX5_film_15 : decode cX5_film 15 = .ok (.ifCond .ge 6, 3) := by decide +kernel
theorem dX5_film_18 : decode cX5_film 18 = .ok (.iload 6, 2) := by decide +kernel
theorem dX5_film_20 : decode cX5_film 20 = .ok (.ireturn, 1) := by decide +kernel
theorem dX5_film_21 : decode cX5_film 21 = .ok (.aload_n 0, 1) := by decide +kernel
theorem dX5_film_22 : decode cX5_film 22 = .ok (.getfield 36, 3) := by decide +kernel
theorem dX5_film_25 : decode cX5_film 25 = .ok (.aload_n 0, 1) := by decide +kernel
theorem dX5_film_26 : decode cX5_film 26 = .ok (.getfield 10, 3) := by decide +kernel
theorem dX5_film_29 : decode cX5_film 29 = .ok (.invokevirtual 181, 3) := by decide +kernel
theorem dX5_film_32 : decode cX5_film 32 = .ok (.aload_n 0, 1) := by decide +kernel
theorem dX5_film_33 : decode cX5_film 33 = .ok (.getfield 36, 3) := by decide +kernel
theorem dX5_film_36 : decode cX5_film 36 = .ok (.iload_n 1, 1) := by decide +kernel
theorem dX5_film_37 : decode cX5_film 37 = .ok (.iconst 0, 1) := by decide +kernel
theorem dX5_film_38 : decode cX5_film 38 = .ok (.invokevirtual 184, 3) := by decide +kernel
theorem dX5_film_41 : decode cX5_film 41 = .ok (.pop, 1) := by decide +kernel
theorem dX5_film_42 : decode cX5_film 42 = .ok (.aload_n 0, 1) := by decide +kernel
theorem dX5_film_43 : decode cX5_film 43 = .ok (.getfield 10, 3) := by decide +kernel
theorem dX5_film_46 : decode cX5_film 46 = .ok (.getfield 98, 3) := by decide +kernel
theorem dX5_film_49 : decode cX5_film 49 = .ok (.iload_n 1, 1) := by decide +kernel
theorem dX5_film_50 : decode cX5_film 50 = .ok (.iaload, 1) := by decide +kernel
theorem dX5_film_51 : decode cX5_film 51 = .ok (.iconst 1, 1) := by decide +kernel
theorem dX5_film_52 : decode cX5_film 52 = .ok (.iadd, 1) := by decide +kernel
theorem dX5_film_53 : decode cX5_film 53 = .ok (.istore 7, 2) := by decide +kernel
theorem dX5_film_55 : decode cX5_film 55 = .ok (.iconst 0, 1) := by decide +kernel
theorem dX5_film_56 : decode cX5_film 56 = .ok (.istore 8, 2) := by decide +kernel
theorem dX5_film_58 : decode cX5_film 58 = .ok (.iload 8, 2) := by decide +kernel
theorem dX5_film_60 : decode cX5_film 60 = .ok (.iload_n 2, 1) := by decide +kernel
theorem dX5_film_61 : decode cX5_film 61 = .ok (.if_icmp .ge 37, 3) := by decide +kernel
theorem dX5_film_64 : decode cX5_film 64 = .ok (.aload_n 0, 1) := by decide +kernel
theorem dX5_film_65 : decode cX5_film 65 = .ok (.getfield 50, 3) := by decide +kernel
theorem dX5_film_68 : decode cX5_film 68 = .ok (.iload_n 3, 1) := by decide +kernel
theorem dX5_film_69 : decode cX5_film 69 = .ok (.aaload, 1) := by decide +kernel
theorem dX5_film_70 : decode cX5_film 70 = .ok (.iload 5, 2) := by decide +kernel
theorem dX5_film_72 : decode cX5_film 72 = .ok (.iload 8, 2) := by decide +kernel
theorem dX5_film_74 : decode cX5_film 74 = .ok (.iadd, 1) := by decide +kernel
theorem dX5_film_75 : decode cX5_film 75 = .ok (.aload_n 0, 1) := by decide +kernel
theorem dX5_film_76 : decode cX5_film 76 = .ok (.getfield 36, 3) := by decide +kernel
theorem dX5_film_79 : decode cX5_film 79 = .ok (.iload_n 1, 1) := by decide +kernel
theorem dX5_film_80 : decode cX5_film 80 = .ok (.iload 7, 2) := by decide +kernel
theorem dX5_film_82 : decode cX5_film 82 = .ok (.iload 8, 2) := by decide +kernel
theorem dX5_film_84 : decode cX5_film 84 = .ok (.iadd, 1) := by decide +kernel
theorem dX5_film_85 : decode cX5_film 85 = .ok (.invokevirtual 190, 3) := by decide +kernel
theorem dX5_film_88 : decode cX5_film 88 = .ok (.i2l, 1) := by decide +kernel
theorem dX5_film_89 : decode cX5_film 89 = .ok (.invokevirtual 234, 3) := by decide +kernel
theorem dX5_film_92 : decode cX5_film 92 = .ok (.iinc 8 1, 3) := by decide +kernel
theorem dX5_film_95 : decode cX5_film 95 = .ok (.goto (-37), 3) := by decide +kernel
theorem dX5_film_98 : decode cX5_film 98 = .ok (.iload_n 2, 1) := by decide +kernel
theorem dX5_film_99 : decode cX5_film 99 = .ok (.ireturn, 1) := by decide +kernel
theorem dX5_sheet_0 : decode cX5_sheet 0 = .ok (.iload_n 1, 1) := by decide +kernel
theorem dX5_sheet_1 : decode cX5_sheet 1 = .ok (.invokestatic 238, 3) := by decide +kernel
theorem dX5_sheet_4 : decode cX5_sheet 4 = .ok (.ifCond .eq 16, 3) := by decide +kernel
theorem dX5_sheet_7 : decode cX5_sheet 7 = .ok (.iload_n 2, 1) := by decide +kernel
theorem dX5_sheet_8 : decode cX5_sheet 8 = .ok (.invokestatic 241, 3) := by decide +kernel
theorem dX5_sheet_11 : decode cX5_sheet 11 = .ok (.ifCond .eq 9, 3) := by decide +kernel
theorem dX5_sheet_14 : decode cX5_sheet 14 = .ok (.iload_n 3, 1) := by decide +kernel
theorem dX5_sheet_15 : decode cX5_sheet 15 = .ok (.bipush 24, 2) := by decide +kernel
theorem dX5_sheet_17 : decode cX5_sheet 17 = .ok (.if_icmp .le 5, 3) := by decide +kernel
theorem dX5_sheet_20 : decode cX5_sheet 20 = .ok (.iconst (-1), 1) := by decide +kernel
theorem dX5_sheet_21 : decode cX5_sheet 21 = .ok (.ireturn, 1) := by decide +kernel
theorem dX5_sheet_22 : decode cX5_sheet 22 = .ok (.iload_n 3, 1) := by decide +kernel
theorem dX5_sheet_23 : decode cX5_sheet 23 = .ok (.ifCond .ge 6, 3) := by decide +kernel
theorem dX5_sheet_26 : decode cX5_sheet 26 = .ok (.bipush (-14), 2) := by decide +kernel
theorem dX5_sheet_28 : decode cX5_sheet 28 = .ok (.ireturn, 1) := by decide +kernel
theorem dX5_sheet_29 : decode cX5_sheet 29 = .ok (.aload_n 0, 1) := by decide +kernel
theorem dX5_sheet_30 : decode cX5_sheet 30 = .ok (.getfield 50, 3) := by decide +kernel
theorem dX5_sheet_33 : decode cX5_sheet 33 = .ok (.iload_n 1, 1) := by decide +kernel
theorem dX5_sheet_34 : decode cX5_sheet 34 = .ok (.aaload, 1) := by decide +kernel
theorem dX5_sheet_35 : decode cX5_sheet 35 = .ok (.iload_n 2, 1) := by decide +kernel
theorem dX5_sheet_36 : decode cX5_sheet 36 = .ok (.iload_n 3, 1) := by decide +kernel
theorem dX5_sheet_37 : decode cX5_sheet 37 = .ok (.invokevirtual 244, 3) := by decide +kernel
theorem dX5_sheet_40 : decode cX5_sheet 40 = .ok (.iload_n 3, 1) := by decide +kernel
theorem dX5_sheet_41 : decode cX5_sheet 41 = .ok (.ireturn, 1) := by decide +kernel
theorem dX5_drop_0 : decode cX5_drop 0 = .ok (.iload_n 1, 1) := by decide +kernel
theorem dX5_drop_1 : decode cX5_drop 1 = .ok (.invokestatic 238, 3) := by decide +kernel
theorem dX5_drop_4 : decode cX5_drop 4 = .ok (.ifCond .ne 5, 3) := by decide +kernel
theorem dX5_drop_7 : decode cX5_drop 7 = .ok (.iconst (-1), 1) := by decide +kernel
theorem dX5_drop_8 : decode cX5_drop 8 = .ok (.ireturn, 1) := by decide +kernel
theorem dX5_drop_9 : decode cX5_drop 9 = .ok (.aload_n 0, 1) := by decide +kernel
theorem dX5_drop_10 : decode cX5_drop 10 = .ok (.getfield 50, 3) := by decide +kernel
theorem dX5_drop_13 : decode cX5_drop 13 = .ok (.iload_n 1, 1) := by decide +kernel
theorem dX5_drop_14 : decode cX5_drop 14 = .ok (.aaload, 1) := by decide +kernel
theorem dX5_drop_15 : decode cX5_drop 15 = .ok (.invokevirtual 247, 3) := by decide +kernel
theorem dX5_drop_18 : decode cX5_drop 18 = .ok (.ifCond .eq 8, 3) := by decide +kernel
theorem dX5_drop_21 : decode cX5_drop 21 = .ok (.bipush (-11), 2) := by decide +kernel
theorem dX5_drop_23 : decode cX5_drop 23 = .ok (.goto 12, 3) := by decide +kernel
theorem dX5_drop_26 : decode cX5_drop 26 = .ok (.aload_n 0, 1) := by decide +kernel
theorem dX5_drop_27 : decode cX5_drop 27 = .ok (.getfield 50, 3) := by decide +kernel
theorem dX5_drop_30 : decode cX5_drop 30 = .ok (.iload_n 1, 1) := by decide +kernel
theorem dX5_drop_31 : decode cX5_drop 31 = .ok (.aaload, 1) := by decide +kernel
theorem dX5_drop_32 : decode cX5_drop 32 = .ok (.invokevirtual 250, 3) := by decide +kernel
theorem dX5_drop_35 : decode cX5_drop 35 = .ok (.ireturn, 1) := by decide +kernel
theorem dX5_item_0 : decode cX5_item 0 = .ok (.iload_n 1, 1) := by decide +kernel
theorem dX5_item_1 : decode cX5_item 1 = .ok (.invokestatic 238, 3) := by decide +kernel
theorem dX5_item_4 : decode cX5_item 4 = .ok (.ifCond .eq 10, 3) := by decide +kernel
theorem dX5_item_7 : decode cX5_item 7 = .ok (.iload_n 2, 1) := by decide +kernel
theorem dX5_item_8 : decode cX5_item 8 = .ok (.invokestatic 241, 3) := by decide +kernel
theorem dX5_item_11 : decode cX5_item 11 = .ok (.ifCond .ne 5, 3) := by decide +kernel
theorem dX5_item_14 : decode cX5_item 14 = .ok (.iconst (-1), 1) := by decide +kernel
theorem dX5_item_15 : decode cX5_item 15 = .ok (.ireturn, 1) := by decide +kernel
theorem dX5_item_16 : decode cX5_item 16 = .ok (.aload_n 0, 1) := by decide +kernel
theorem dX5_item_17 : decode cX5_item 17 = .ok (.getfield 50, 3) := by decide +kernel
theorem dX5_item_20 : decode cX5_item 20 = .ok (.iload_n 1, 1) := by decide +kernel
theorem dX5_item_21 : decode cX5_item 21 = .ok (.aaload, 1) := by decide +kernel
theorem dX5_item_22 : decode cX5_item 22 = .ok (.iload_n 2, 1) := by decide +kernel
theorem dX5_item_23 : decode cX5_item 23 = .ok (.iload_n 3, 1) := by decide +kernel
theorem dX5_item_24 : decode cX5_item 24 = .ok (.iconst 1, 1) := by decide +kernel
theorem dX5_item_25 : decode cX5_item 25 = .ok (.invokevirtual 253, 3) := by decide +kernel
theorem dX5_item_28 : decode cX5_item 28 = .ok (.istore 6, 2) := by decide +kernel
theorem dX5_item_30 : decode cX5_item 30 = .ok (.iload 6, 2) := by decide +kernel
theorem dX5_item_32 : decode cX5_item 32 = .ok (.ifCond .ge 6, 3) := by decide +kernel
theorem dX5_item_35 : decode cX5_item 35 = .ok (.iload 6, 2) := by decide +kernel
theorem dX5_item_37 : decode cX5_item 37 = .ok (.ireturn, 1) := by decide +kernel
theorem dX5_item_38 : decode cX5_item 38 = .ok (.aload_n 0, 1) := by decide +kernel
theorem dX5_item_39 : decode cX5_item 39 = .ok (.getfield 50, 3) := by decide +kernel
theorem dX5_item_42 : decode cX5_item 42 = .ok (.iload_n 1, 1) := by decide +kernel
theorem dX5_item_43 : decode cX5_item 43 = .ok (.aaload, 1) := by decide +kernel
theorem dX5_item_44 : decode cX5_item 44 = .ok (.iload_n 3, 1) := by decide +kernel
theorem dX5_item_45 : decode cX5_item 45 = .ok (.lload 4, 2) := by decide +kernel
theorem dX5_item_47 : decode cX5_item 47 = .ok (.invokevirtual 234, 3) := by decide +kernel
theorem dX5_item_50 : decode cX5_item 50 = .ok (.iconst 1, 1) := by decide +kernel
theorem dX5_item_51 : decode cX5_item 51 = .ok (.ireturn, 1) := by decide +kernel
theorem dX5_copy_0 : decode cX5_copy 0 = .ok (.iload_n 1, 1) := by decide +kernel
theorem dX5_copy_1 : decode cX5_copy 1 = .ok (.invokestatic 238, 3) := by decide +kernel
theorem dX5_copy_4 : decode cX5_copy 4 = .ok (.ifCond .eq 10, 3) := by decide +kernel
theorem dX5_copy_7 : decode cX5_copy 7 = .ok (.iload_n 3, 1) := by decide +kernel
theorem dX5_copy_8 : decode cX5_copy 8 = .ok (.invokestatic 238, 3) := by decide +kernel
theorem dX5_copy_11 : decode cX5_copy 11 = .ok (.ifCond .ne 5, 3) := by decide +kernel
theorem dX5_copy_14 : decode cX5_copy 14 = .ok (.iconst (-1), 1) := by decide +kernel
theorem dX5_copy_15 : decode cX5_copy 15 = .ok (.ireturn, 1) := by decide +kernel
theorem dX5_copy_16 : decode cX5_copy 16 = .ok (.aload_n 0, 1) := by decide +kernel
theorem dX5_copy_17 : decode cX5_copy 17 = .ok (.getfield 50, 3) := by decide +kernel
theorem dX5_copy_20 : decode cX5_copy 20 = .ok (.iload_n 1, 1) := by decide +kernel
theorem dX5_copy_21 : decode cX5_copy 21 = .ok (.aaload, 1) := by decide +kernel
theorem dX5_copy_22 : decode cX5_copy 22 = .ok (.astore 6, 2) := by decide +kernel
theorem dX5_copy_24 : decode cX5_copy 24 = .ok (.aload_n 0, 1) := by decide +kernel
theorem dX5_copy_25 : decode cX5_copy 25 = .ok (.getfield 50, 3) := by decide +kernel
theorem dX5_copy_28 : decode cX5_copy 28 = .ok (.iload_n 3, 1) := by decide +kernel
theorem dX5_copy_29 : decode cX5_copy 29 = .ok (.aaload, 1) := by decide +kernel
theorem dX5_copy_30 : decode cX5_copy 30 = .ok (.astore 7, 2) := by decide +kernel
theorem dX5_copy_32 : decode cX5_copy 32 = .ok (.aload 6, 2) := by decide +kernel
theorem dX5_copy_34 : decode cX5_copy 34 = .ok (.invokevirtual 247, 3) := by decide +kernel
theorem dX5_copy_37 : decode cX5_copy 37 = .ok (.ifCond .ne 11, 3) := by decide +kernel
theorem dX5_copy_40 : decode cX5_copy 40 = .ok (.aload 7, 2) := by decide +kernel
theorem dX5_copy_42 : decode cX5_copy 42 = .ok (.invokevirtual 247, 3) := by decide +kernel
theorem dX5_copy_45 : decode cX5_copy 45 = .ok (.ifCond .eq 6, 3) := by decide +kernel
theorem dX5_copy_48 : decode cX5_copy 48 = .ok (.bipush (-11), 2) := by decide +kernel
theorem dX5_copy_50 : decode cX5_copy 50 = .ok (.ireturn, 1) := by decide +kernel
theorem dX5_copy_51 : decode cX5_copy 51 = .ok (.aload 6, 2) := by decide +kernel
theorem dX5_copy_53 : decode cX5_copy 53 = .ok (.getfield 256, 3) := by decide +kernel
theorem dX5_copy_56 : decode cX5_copy 56 = .ok (.aload 7, 2) := by decide +kernel
theorem dX5_copy_58 : decode cX5_copy 58 = .ok (.getfield 256, 3) := by decide +kernel
theorem dX5_copy_61 : decode cX5_copy 61 = .ok (.if_icmp .eq 6, 3) := by decide +kernel
theorem dX5_copy_64 : decode cX5_copy 64 = .ok (.bipush (-12), 2) := by decide +kernel
theorem dX5_copy_66 : decode cX5_copy 66 = .ok (.ireturn, 1) := by decide +kernel
theorem dX5_copy_67 : decode cX5_copy 67 = .ok (.aload 6, 2) := by decide +kernel
theorem dX5_copy_69 : decode cX5_copy 69 = .ok (.iload_n 2, 1) := by decide +kernel
theorem dX5_copy_70 : decode cX5_copy 70 = .ok (.iload 5, 2) := by decide +kernel
theorem dX5_copy_72 : decode cX5_copy 72 = .ok (.invokevirtual 259, 3) := by decide +kernel
theorem dX5_copy_75 : decode cX5_copy 75 = .ok (.ifCond .eq 15, 3) := by decide +kernel
theorem dX5_copy_78 : decode cX5_copy 78 = .ok (.aload 7, 2) := by decide +kernel
theorem dX5_copy_80 : decode cX5_copy 80 = .ok (.iload 4, 2) := by decide +kernel
theorem dX5_copy_82 : decode cX5_copy 82 = .ok (.iload 5, 2) := by decide +kernel
theorem dX5_copy_84 : decode cX5_copy 84 = .ok (.invokevirtual 259, 3) := by decide +kernel
theorem dX5_copy_87 : decode cX5_copy 87 = .ok (.ifCond .ne 6, 3) := by decide +kernel
theorem dX5_copy_90 : decode cX5_copy 90 = .ok (.bipush (-13), 2) := by decide +kernel
theorem dX5_copy_92 : decode cX5_copy 92 = .ok (.ireturn, 1) := by decide +kernel
theorem dX5_copy_93 : decode cX5_copy 93 = .ok (.aload 6, 2) := by decide +kernel
theorem dX5_copy_95 : decode cX5_copy 95 = .ok (.getfield 262, 3) := by decide +kernel
theorem dX5_copy_98 : decode cX5_copy 98 = .ok (.iload_n 2, 1) := by decide +kernel
theorem dX5_copy_99 : decode cX5_copy 99 = .ok (.aload 7, 2) := by decide +kernel
theorem dX5_copy_101 : decode cX5_copy 101 = .ok (.getfield 262, 3) := by decide +kernel
theorem dX5_copy_104 : decode cX5_copy 104 = .ok (.iload 4, 2) := by decide +kernel
theorem dX5_copy_106 : decode cX5_copy 106 = .ok (.iload 5, 2) := by decide +kernel
theorem dX5_copy_108 : decode cX5_copy 108 = .ok (.invokestatic 266, 3) := by decide +kernel
theorem dX5_copy_111 : decode cX5_copy 111 = .ok (.iload 5, 2) := by decide +kernel
theorem dX5_copy_113 : decode cX5_copy 113 = .ok (.ireturn, 1) := by decide +kernel
theorem dX5_within_0 : decode cX5_within 0 = .ok (.iload_n 0, 1) := by decide +kernel
theorem dX5_within_1 : decode cX5_within 1 = .ok (.iload_n 1, 1) := by decide +kernel
theorem dX5_within_2 : decode cX5_within 2 = .ok (.if_icmp .lt 12, 3) := by decide +kernel
theorem dX5_within_5 : decode cX5_within 5 = .ok (.iload_n 0, 1) := by decide +kernel
theorem dX5_within_6 : decode cX5_within 6 = .ok (.iload_n 2, 1) := by decide +kernel
theorem dX5_within_7 : decode cX5_within 7 = .ok (.if_icmp .gt 7, 3) := by decide +kernel
theorem dX5_within_10 : decode cX5_within 10 = .ok (.iconst 1, 1) := by decide +kernel
theorem dX5_within_11 : decode cX5_within 11 = .ok (.goto 4, 3) := by decide +kernel
theorem dX5_within_14 : decode cX5_within 14 = .ok (.iconst 0, 1) := by decide +kernel
theorem dX5_within_15 : decode cX5_within 15 = .ok (.ireturn, 1) := by decide +kernel
theorem dX5_isZeroOrOne_0 : decode cX5_isZeroOrOne 0 = .ok (.iload_n 0, 1) := by decide +kernel
theorem dX5_isZeroOrOne_1 : decode cX5_isZeroOrOne 1 = .ok (.iconst 0, 1) := by decide +kernel
theorem dX5_isZeroOrOne_2 : decode cX5_isZeroOrOne 2 = .ok (.iconst 1, 1) := by decide +kernel
theorem dX5_isZeroOrOne_3 : decode cX5_isZeroOrOne 3 = .ok (.invokestatic 61, 3) := by decide +kernel
theorem dX5_isZeroOrOne_6 : decode cX5_isZeroOrOne 6 = .ok (.ireturn, 1) := by decide +kernel
theorem dX5_isSheet_0 : decode cX5_isSheet 0 = .ok (.iload_n 0, 1) := by decide +kernel
theorem dX5_isSheet_1 : decode cX5_isSheet 1 = .ok (.iconst 0, 1) := by decide +kernel
theorem dX5_isSheet_2 : decode cX5_isSheet 2 = .ok (.iconst 3, 1) := by decide +kernel
theorem dX5_isSheet_3 : decode cX5_isSheet 3 = .ok (.invokestatic 61, 3) := by decide +kernel
theorem dX5_isSheet_6 : decode cX5_isSheet 6 = .ok (.ireturn, 1) := by decide +kernel
theorem dX5_isLane_0 : decode cX5_isLane 0 = .ok (.iload_n 0, 1) := by decide +kernel
theorem dX5_isLane_1 : decode cX5_isLane 1 = .ok (.iconst 0, 1) := by decide +kernel
theorem dX5_isLane_2 : decode cX5_isLane 2 = .ok (.iconst 3, 1) := by decide +kernel
theorem dX5_isLane_3 : decode cX5_isLane 3 = .ok (.invokestatic 61, 3) := by decide +kernel
theorem dX5_isLane_6 : decode cX5_isLane 6 = .ok (.ireturn, 1) := by decide +kernel
theorem dX5_isRider_0 : decode cX5_isRider 0 = .ok (.iload_n 1, 1) := by decide +kernel
theorem dX5_isRider_1 : decode cX5_isRider 1 = .ok (.iconst 0, 1) := by decide +kernel
theorem dX5_isRider_2 : decode cX5_isRider 2 = .ok (.aload_n 0, 1) := by decide +kernel
theorem dX5_isRider_3 : decode cX5_isRider 3 = .ok (.getfield 10, 3) := by decide +kernel
theorem dX5_isRider_6 : decode cX5_isRider 6 = .ok (.getfield 76, 3) := by decide +kernel
theorem dX5_isRider_9 : decode cX5_isRider 9 = .ok (.iconst 1, 1) := by decide +kernel
theorem dX5_isRider_10 : decode cX5_isRider 10 = .ok (.isub, 1) := by decide +kernel
theorem dX5_isRider_11 : decode cX5_isRider 11 = .ok (.invokestatic 61, 3) := by decide +kernel
theorem dX5_isRider_14 : decode cX5_isRider 14 = .ok (.ireturn, 1) := by decide +kernel
theorem dX5_areTwo_0 : decode cX5_areTwo 0 = .ok (.aload_n 0, 1) := by decide +kernel
theorem dX5_areTwo_1 : decode cX5_areTwo 1 = .ok (.iload_n 1, 1) := by decide +kernel
theorem dX5_areTwo_2 : decode cX5_areTwo 2 = .ok (.invokevirtual 91, 3) := by decide +kernel
theorem dX5_areTwo_5 : decode cX5_areTwo 5 = .ok (.ifCond .eq 20, 3) := by decide +kernel
theorem dX5_areTwo_8 : decode cX5_areTwo 8 = .ok (.aload_n 0, 1) := by decide +kernel
theorem dX5_areTwo_9 : decode cX5_areTwo 9 = .ok (.iload_n 2, 1) := by decide +kernel
theorem dX5_areTwo_10 : decode cX5_areTwo 10 = .ok (.invokevirtual 91, 3) := by decide +kernel
theorem dX5_areTwo_13 : decode cX5_areTwo 13 = .ok (.ifCond .eq 12, 3) := by decide +kernel
theorem dX5_areTwo_16 : decode cX5_areTwo 16 = .ok (.iload_n 1, 1) := by decide +kernel
theorem dX5_areTwo_17 : decode cX5_areTwo 17 = .ok (.iload_n 2, 1) := by decide +kernel
theorem dX5_areTwo_18 : decode cX5_areTwo 18 = .ok (.if_icmp .eq 7, 3) := by decide +kernel
theorem dX5_areTwo_21 : decode cX5_areTwo 21 = .ok (.iconst 1, 1) := by decide +kernel
theorem dX5_areTwo_22 : decode cX5_areTwo 22 = .ok (.goto 4, 3) := by decide +kernel
theorem dX5_areTwo_25 : decode cX5_areTwo 25 = .ok (.iconst 0, 1) := by decide +kernel
theorem dX5_areTwo_26 : decode cX5_areTwo 26 = .ok (.ireturn, 1) := by decide +kernel
theorem dX5_has_0 : decode cX5_has 0 = .ok (.iload_n 0, 1) := by decide +kernel
theorem dX5_has_1 : decode cX5_has 1 = .ok (.iload_n 1, 1) := by decide +kernel
theorem dX5_has_2 : decode cX5_has 2 = .ok (.ishr, 1) := by decide +kernel
theorem dX5_has_3 : decode cX5_has 3 = .ok (.iconst 1, 1) := by decide +kernel
theorem dX5_has_4 : decode cX5_has 4 = .ok (.iand, 1) := by decide +kernel
theorem dX5_has_5 : decode cX5_has 5 = .ok (.ifCond .eq 7, 3) := by decide +kernel
theorem dX5_has_8 : decode cX5_has 8 = .ok (.iconst 1, 1) := by decide +kernel
theorem dX5_has_9 : decode cX5_has 9 = .ok (.goto 4, 3) := by decide +kernel
theorem dX5_has_12 : decode cX5_has 12 = .ok (.iconst 0, 1) := by decide +kernel
theorem dX5_has_13 : decode cX5_has 13 = .ok (.ireturn, 1) := by decide +kernel
theorem dX5_sumOf_0 : decode cX5_sumOf 0 = .ok (.iconst 0, 1) := by decide +kernel
theorem dX5_sumOf_1 : decode cX5_sumOf 1 = .ok (.istore_n 2, 1) := by decide +kernel
theorem dX5_sumOf_2 : decode cX5_sumOf 2 = .ok (.iconst 0, 1) := by decide +kernel
theorem dX5_sumOf_3 : decode cX5_sumOf 3 = .ok (.istore_n 3, 1) := by decide +kernel
theorem dX5_sumOf_4 : decode cX5_sumOf 4 = .ok (.iload_n 3, 1) := by decide +kernel
theorem dX5_sumOf_5 : decode cX5_sumOf 5 = .ok (.iload_n 1, 1) := by decide +kernel
theorem dX5_sumOf_6 : decode cX5_sumOf 6 = .ok (.if_icmp .ge 15, 3) := by decide +kernel
theorem dX5_sumOf_9 : decode cX5_sumOf 9 = .ok (.iload_n 2, 1) := by decide +kernel
theorem dX5_sumOf_10 : decode cX5_sumOf 10 = .ok (.aload_n 0, 1) := by decide +kernel
theorem dX5_sumOf_11 : decode cX5_sumOf 11 = .ok (.iload_n 3, 1) := by decide +kernel
theorem dX5_sumOf_12 : decode cX5_sumOf 12 = .ok (.iaload, 1) := by decide +kernel
theorem dX5_sumOf_13 : decode cX5_sumOf 13 = .ok (.iadd, 1) := by decide +kernel
theorem dX5_sumOf_14 : decode cX5_sumOf 14 = .ok (.istore_n 2, 1) := by decide +kernel
theorem dX5_sumOf_15 : decode cX5_sumOf 15 = .ok (.iinc 3 1, 3) := by decide +kernel
theorem dX5_sumOf_18 : decode cX5_sumOf 18 = .ok (.goto (-14), 3) := by decide +kernel
theorem dX5_sumOf_21 : decode cX5_sumOf 21 = .ok (.iload_n 2, 1) := by decide +kernel
theorem dX5_sumOf_22 : decode cX5_sumOf 22 = .ok (.ireturn, 1) := by decide +kernel
theorem dX5_stageTakes_0 : decode cX5_stageTakes 0 = .ok (.aload_n 0, 1) := by decide +kernel
theorem dX5_stageTakes_1 : decode cX5_stageTakes 1 = .ok (.getfield 10, 3) := by decide +kernel
theorem dX5_stageTakes_4 : decode cX5_stageTakes 4 = .ok (.iload_n 1, 1) := by decide +kernel
theorem dX5_stageTakes_5 : decode cX5_stageTakes 5 = .ok (.invokevirtual 156, 3) := by decide +kernel
theorem dX5_stageTakes_8 : decode cX5_stageTakes 8 = .ok (.ifCond .eq 6, 3) := by decide +kernel
theorem dX5_stageTakes_11 : decode cX5_stageTakes 11 = .ok (.bipush (-4), 2) := by decide +kernel
theorem dX5_stageTakes_13 : decode cX5_stageTakes 13 = .ok (.ireturn, 1) := by decide +kernel
theorem dX5_stageTakes_14 : decode cX5_stageTakes 14 = .ok (.aload_n 0, 1) := by decide +kernel
theorem dX5_stageTakes_15 : decode cX5_stageTakes 15 = .ok (.getfield 10, 3) := by decide +kernel
theorem dX5_stageTakes_18 : decode cX5_stageTakes 18 = .ok (.getfield 95, 3) := by decide +kernel
theorem dX5_stageTakes_21 : decode cX5_stageTakes 21 = .ok (.iload_n 1, 1) := by decide +kernel
theorem dX5_stageTakes_22 : decode cX5_stageTakes 22 = .ok (.iaload, 1) := by decide +kernel
theorem dX5_stageTakes_23 : decode cX5_stageTakes 23 = .ok (.aload_n 0, 1) := by decide +kernel
theorem dX5_stageTakes_24 : decode cX5_stageTakes 24 = .ok (.getfield 10, 3) := by decide +kernel
theorem dX5_stageTakes_27 : decode cX5_stageTakes 27 = .ok (.getfield 82, 3) := by decide +kernel
theorem dX5_stageTakes_30 : decode cX5_stageTakes 30 = .ok (.aload_n 0, 1) := by decide +kernel
theorem dX5_stageTakes_31 : decode cX5_stageTakes 31 = .ok (.getfield 10, 3) := by decide +kernel
theorem dX5_stageTakes_34 : decode cX5_stageTakes 34 = .ok (.getfield 98, 3) := by decide +kernel
theorem dX5_stageTakes_37 : decode cX5_stageTakes 37 = .ok (.iload_n 1, 1) := by decide +kernel
theorem dX5_stageTakes_38 : decode cX5_stageTakes 38 = .ok (.iaload, 1) := by decide +kernel
theorem dX5_stageTakes_39 : decode cX5_stageTakes 39 = .ok (.iaload, 1) := by decide +kernel
theorem dX5_stageTakes_40 : decode cX5_stageTakes 40 = .ok (.iload_n 2, 1) := by decide +kernel
theorem dX5_stageTakes_41 : decode cX5_stageTakes 41 = .ok (.invokestatic 272, 3) := by decide +kernel
theorem dX5_stageTakes_44 : decode cX5_stageTakes 44 = .ok (.ireturn, 1) := by decide +kernel
theorem dX5_minutesFor_0 : decode cX5_minutesFor 0 = .ok (.iload_n 2, 1) := by decide +kernel
theorem dX5_minutesFor_1 : decode cX5_minutesFor 1 = .ok (.ifCond .eq 8, 3) := by decide +kernel
theorem dX5_minutesFor_4 : decode cX5_minutesFor 4 = .ok (.bipush 6, 2) := by decide +kernel
theorem dX5_minutesFor_6 : decode cX5_minutesFor 6 = .ok (.goto 5, 3) := by decide +kernel
theorem dX5_minutesFor_9 : decode cX5_minutesFor 9 = .ok (.bipush 10, 2) := by decide +kernel
theorem dX5_minutesFor_11 : decode cX5_minutesFor 11 = .ok (.istore_n 3, 1) := by decide +kernel
theorem dX5_minutesFor_12 : decode cX5_minutesFor 12 = .ok (.iload_n 1, 1) := by decide +kernel
theorem dX5_minutesFor_13 : decode cX5_minutesFor 13 = .ok (.iload_n 3, 1) := by decide +kernel
theorem dX5_minutesFor_14 : decode cX5_minutesFor 14 = .ok (.imul, 1) := by decide +kernel
theorem dX5_minutesFor_15 : decode cX5_minutesFor 15 = .ok (.istore 4, 2) := by decide +kernel
theorem dX5_minutesFor_17 : decode cX5_minutesFor 17 = .ok (.iload 4, 2) := by decide +kernel
theorem dX5_minutesFor_19 : decode cX5_minutesFor 19 = .ok (.iload 4, 2) := by decide +kernel
theorem dX5_minutesFor_21 : decode cX5_minutesFor 21 = .ok (.iconst 2, 1) := by decide +kernel
theorem dX5_minutesFor_22 : decode cX5_minutesFor 22 = .ok (.idiv, 1) := by decide +kernel
theorem dX5_minutesFor_23 : decode cX5_minutesFor 23 = .ok (.iadd, 1) := by decide +kernel
theorem dX5_minutesFor_24 : decode cX5_minutesFor 24 = .ok (.istore 5, 2) := by decide +kernel
theorem dX5_minutesFor_26 : decode cX5_minutesFor 26 = .ok (.iload_n 0, 1) := by decide +kernel
theorem dX5_minutesFor_27 : decode cX5_minutesFor 27 = .ok (.tableswitch 56 1 4 #[29, 34, 37, 49], 29) := by decide +kernel
theorem dX5_minutesFor_56 : decode cX5_minutesFor 56 = .ok (.iload 4, 2) := by decide +kernel
theorem dX5_minutesFor_58 : decode cX5_minutesFor 58 = .ok (.iconst 5, 1) := by decide +kernel
theorem dX5_minutesFor_59 : decode cX5_minutesFor 59 = .ok (.iadd, 1) := by decide +kernel
theorem dX5_minutesFor_60 : decode cX5_minutesFor 60 = .ok (.ireturn, 1) := by decide +kernel
theorem dX5_minutesFor_61 : decode cX5_minutesFor 61 = .ok (.iload 5, 2) := by decide +kernel
theorem dX5_minutesFor_63 : decode cX5_minutesFor 63 = .ok (.ireturn, 1) := by decide +kernel
theorem dX5_minutesFor_64 : decode cX5_minutesFor 64 = .ok (.iload_n 2, 1) := by decide +kernel
theorem dX5_minutesFor_65 : decode cX5_minutesFor 65 = .ok (.ifCond .eq 8, 3) := by decide +kernel
theorem dX5_minutesFor_68 : decode cX5_minutesFor 68 = .ok (.iload 4, 2) := by decide +kernel
theorem dX5_minutesFor_70 : decode cX5_minutesFor 70 = .ok (.goto 5, 3) := by decide +kernel
theorem dX5_minutesFor_73 : decode cX5_minutesFor 73 = .ok (.iload 5, 2) := by decide +kernel
theorem dX5_minutesFor_75 : decode cX5_minutesFor 75 = .ok (.ireturn, 1) := by decide +kernel
theorem dX5_minutesFor_76 : decode cX5_minutesFor 76 = .ok (.iload 4, 2) := by decide +kernel
theorem dX5_minutesFor_78 : decode cX5_minutesFor 78 = .ok (.iload_n 3, 1) := by decide +kernel
theorem dX5_minutesFor_79 : decode cX5_minutesFor 79 = .ok (.isub, 1) := by decide +kernel
theorem dX5_minutesFor_80 : decode cX5_minutesFor 80 = .ok (.iconst 5, 1) := by decide +kernel
theorem dX5_minutesFor_81 : decode cX5_minutesFor 81 = .ok (.iadd, 1) := by decide +kernel
theorem dX5_minutesFor_82 : decode cX5_minutesFor 82 = .ok (.ireturn, 1) := by decide +kernel
theorem dX5_minutesFor_83 : decode cX5_minutesFor 83 = .ok (.iload 4, 2) := by decide +kernel
theorem dX5_minutesFor_85 : decode cX5_minutesFor 85 = .ok (.ireturn, 1) := by decide +kernel
theorem dX5_minuteBuying_0 : decode cX5_minuteBuying 0 = .ok (.aload_n 0, 1) := by decide +kernel
theorem dX5_minuteBuying_1 : decode cX5_minuteBuying 1 = .ok (.getfield 36, 3) := by decide +kernel
theorem dX5_minuteBuying_4 : decode cX5_minuteBuying 4 = .ok (.aload_n 0, 1) := by decide +kernel
theorem dX5_minuteBuying_5 : decode cX5_minuteBuying 5 = .ok (.getfield 10, 3) := by decide +kernel
theorem dX5_minuteBuying_8 : decode cX5_minuteBuying 8 = .ok (.invokevirtual 181, 3) := by decide +kernel
theorem dX5_minuteBuying_11 : decode cX5_minuteBuying 11 = .ok (.aload_n 0, 1) := by decide +kernel
theorem dX5_minuteBuying_12 : decode cX5_minuteBuying 12 = .ok (.getfield 36, 3) := by decide +kernel
theorem dX5_minuteBuying_15 : decode cX5_minuteBuying 15 = .ok (.getfield 187, 3) := by decide +kernel
theorem dX5_minuteBuying_18 : decode cX5_minuteBuying 18 = .ok (.getfield 107, 3) := by decide +kernel
theorem dX5_minuteBuying_21 : decode cX5_minuteBuying 21 = .ok (.iload_n 1, 1) := by decide +kernel
theorem dX5_minuteBuying_22 : decode cX5_minuteBuying 22 = .ok (.iload_n 2, 1) := by decide +kernel
theorem dX5_minuteBuying_23 : decode cX5_minuteBuying 23 = .ok (.iastore, 1) := by decide +kernel
theorem dX5_minuteBuying_24 : decode cX5_minuteBuying 24 = .ok (.aload_n 0, 1) := by decide +kernel
theorem dX5_minuteBuying_25 : decode cX5_minuteBuying 25 = .ok (.getfield 36, 3) := by decide +kernel
theorem dX5_minuteBuying_28 : decode cX5_minuteBuying 28 = .ok (.iload_n 1, 1) := by decide +kernel
theorem dX5_minuteBuying_29 : decode cX5_minuteBuying 29 = .ok (.iconst 0, 1) := by decide +kernel
theorem dX5_minuteBuying_30 : decode cX5_minuteBuying 30 = .ok (.invokevirtual 184, 3) := by decide +kernel
theorem dX5_minuteBuying_33 : decode cX5_minuteBuying 33 = .ok (.ireturn, 1) := by decide +kernel
theorem dX5_soonestSet_0 : decode cX5_soonestSet 0 = .ok (.aload_n 0, 1) := by decide +kernel
theorem dX5_soonestSet_1 : decode cX5_soonestSet 1 = .ok (.getfield 10, 3) := by decide +kernel
theorem dX5_soonestSet_4 : decode cX5_soonestSet 4 = .ok (.getfield 98, 3) := by decide +kernel
theorem dX5_soonestSet_7 : decode cX5_soonestSet 7 = .ok (.iload_n 1, 1) := by decide +kernel
theorem dX5_soonestSet_8 : decode cX5_soonestSet 8 = .ok (.iaload, 1) := by decide +kernel
theorem dX5_soonestSet_9 : decode cX5_soonestSet 9 = .ok (.istore_n 2, 1) := by decide +kernel
theorem dX5_soonestSet_10 : decode cX5_soonestSet 10 = .ok (.iconst 0, 1) := by decide +kernel
theorem dX5_soonestSet_11 : decode cX5_soonestSet 11 = .ok (.istore_n 3, 1) := by decide +kernel
theorem dX5_soonestSet_12 : decode cX5_soonestSet 12 = .ok (.aload_n 0, 1) := by decide +kernel
theorem dX5_soonestSet_13 : decode cX5_soonestSet 13 = .ok (.iload_n 1, 1) := by decide +kernel
theorem dX5_soonestSet_14 : decode cX5_soonestSet 14 = .ok (.iconst 0, 1) := by decide +kernel
theorem dX5_soonestSet_15 : decode cX5_soonestSet 15 = .ok (.invokevirtual 202, 3) := by decide +kernel
theorem dX5_soonestSet_18 : decode cX5_soonestSet 18 = .ok (.istore 4, 2) := by decide +kernel
theorem dX5_soonestSet_20 : decode cX5_soonestSet 20 = .ok (.iconst 1, 1) := by decide +kernel
theorem dX5_soonestSet_21 : decode cX5_soonestSet 21 = .ok (.istore 5, 2) := by decide +kernel
theorem dX5_soonestSet_23 : decode cX5_soonestSet 23 = .ok (.iload 5, 2) := by decide +kernel
theorem dX5_soonestSet_25 : decode cX5_soonestSet 25 = .ok (.iconst 1, 1) := by decide +kernel
theorem dX5_soonestSet_26 : decode cX5_soonestSet 26 = .ok (.aload_n 0, 1) := by decide +kernel
theorem dX5_soonestSet_27 : decode cX5_soonestSet 27 = .ok (.getfield 10, 3) := by decide +kernel
theorem dX5_soonestSet_30 : decode cX5_soonestSet 30 = .ok (.getfield 65, 3) := by decide +kernel
theorem dX5_soonestSet_33 : decode cX5_soonestSet 33 = .ok (.iload_n 2, 1) := by decide +kernel
theorem dX5_soonestSet_34 : decode cX5_soonestSet 34 = .ok (.isub, 1) := by decide +kernel
theorem dX5_soonestSet_35 : decode cX5_soonestSet 35 = .ok (.ishl, 1) := by decide +kernel
theorem dX5_soonestSet_36 : decode cX5_soonestSet 36 = .ok (.if_icmp .ge 69, 3) := by decide +kernel
theorem dX5_soonestSet_39 : decode cX5_soonestSet 39 = .ok (.iload 5, 2) := by decide +kernel
theorem dX5_soonestSet_41 : decode cX5_soonestSet 41 = .ok (.iload_n 2, 1) := by decide +kernel
theorem dX5_soonestSet_42 : decode cX5_soonestSet 42 = .ok (.ishl, 1) := by decide +kernel
theorem dX5_soonestSet_43 : decode cX5_soonestSet 43 = .ok (.istore 6, 2) := by decide +kernel
theorem dX5_soonestSet_45 : decode cX5_soonestSet 45 = .ok (.aload_n 0, 1) := by decide +kernel
theorem dX5_soonestSet_46 : decode cX5_soonestSet 46 = .ok (.iload_n 1, 1) := by decide +kernel
theorem dX5_soonestSet_47 : decode cX5_soonestSet 47 = .ok (.iload 6, 2) := by decide +kernel
theorem dX5_soonestSet_49 : decode cX5_soonestSet 49 = .ok (.invokevirtual 202, 3) := by decide +kernel
theorem dX5_soonestSet_52 : decode cX5_soonestSet 52 = .ok (.istore 7, 2) := by decide +kernel
theorem dX5_soonestSet_54 : decode cX5_soonestSet 54 = .ok (.iload 6, 2) := by decide +kernel
theorem dX5_soonestSet_56 : decode cX5_soonestSet 56 = .ok (.invokestatic 276, 3) := by decide +kernel
theorem dX5_soonestSet_59 : decode cX5_soonestSet 59 = .ok (.iload_n 3, 1) := by decide +kernel
theorem dX5_soonestSet_60 : decode cX5_soonestSet 60 = .ok (.invokestatic 276, 3) := by decide +kernel
theorem dX5_soonestSet_63 : decode cX5_soonestSet 63 = .ok (.if_icmp .ge 7, 3) := by decide +kernel
theorem dX5_soonestSet_66 : decode cX5_soonestSet 66 = .ok (.iconst 1, 1) := by decide +kernel
theorem dX5_soonestSet_67 : decode cX5_soonestSet 67 = .ok (.goto 4, 3) := by decide +kernel
theorem dX5_soonestSet_70 : decode cX5_soonestSet 70 = .ok (.iconst 0, 1) := by decide +kernel
theorem dX5_soonestSet_71 : decode cX5_soonestSet 71 = .ok (.istore 8, 2) := by decide +kernel
theorem dX5_soonestSet_73 : decode cX5_soonestSet 73 = .ok (.iload 7, 2) := by decide +kernel
theorem dX5_soonestSet_75 : decode cX5_soonestSet 75 = .ok (.iload 4, 2) := by decide +kernel
theorem dX5_soonestSet_77 : decode cX5_soonestSet 77 = .ok (.if_icmp .lt 15, 3) := by decide +kernel
theorem dX5_soonestSet_80 : decode cX5_soonestSet 80 = .ok (.iload 7, 2) := by decide +kernel
theorem dX5_soonestSet_82 : decode cX5_soonestSet 82 = .ok (.iload 4, 2) := by decide +kernel
theorem dX5_soonestSet_84 : decode cX5_soonestSet 84 = .ok (.if_icmp .ne 15, 3) := by decide +kernel
theorem dX5_soonestSet_87 : decode cX5_soonestSet 87 = .ok (.iload 8, 2) := by decide +kernel
theorem dX5_soonestSet_89 : decode cX5_soonestSet 89 = .ok (.ifCond .eq 10, 3) := by decide +kernel
theorem dX5_soonestSet_92 : decode cX5_soonestSet 92 = .ok (.iload 7, 2) := by decide +kernel
theorem dX5_soonestSet_94 : decode cX5_soonestSet 94 = .ok (.istore 4, 2) := by decide +kernel
theorem dX5_soonestSet_96 : decode cX5_soonestSet 96 = .ok (.iload 6, 2) := by decide +kernel
theorem dX5_soonestSet_98 : decode cX5_soonestSet 98 = .ok (.istore_n 3, 1) := by decide +kernel
theorem dX5_soonestSet_99 : decode cX5_soonestSet 99 = .ok (.iinc 5 1, 3) := by decide +kernel
theorem dX5_soonestSet_102 : decode cX5_soonestSet 102 = .ok (.goto (-79), 3) := by decide +kernel
theorem dX5_soonestSet_105 : decode cX5_soonestSet 105 = .ok (.iload_n 3, 1) := by decide +kernel
theorem dX5_soonestSet_106 : decode cX5_soonestSet 106 = .ok (.ireturn, 1) := by decide +kernel
theorem dX5_fillDuel_0 : decode cX5_fillDuel 0 = .ok (.iconst 0, 1) := by decide +kernel
theorem dX5_fillDuel_1 : decode cX5_fillDuel 1 = .ok (.istore_n 3, 1) := by decide +kernel
theorem dX5_fillDuel_2 : decode cX5_fillDuel 2 = .ok (.iload_n 3, 1) := by decide +kernel
theorem dX5_fillDuel_3 : decode cX5_fillDuel 3 = .ok (.aload_n 0, 1) := by decide +kernel
theorem dX5_fillDuel_4 : decode cX5_fillDuel 4 = .ok (.getfield 10, 3) := by decide +kernel
theorem dX5_fillDuel_7 : decode cX5_fillDuel 7 = .ok (.getfield 65, 3) := by decide +kernel
theorem dX5_fillDuel_10 : decode cX5_fillDuel 10 = .ok (.if_icmp .gt 118, 3) := by decide +kernel
theorem dX5_fillDuel_13 : decode cX5_fillDuel 13 = .ok (.iconst 0, 1) := by decide +kernel
theorem dX5_fillDuel_14 : decode cX5_fillDuel 14 = .ok (.istore 4, 2) := by decide +kernel
theorem dX5_fillDuel_16 : decode cX5_fillDuel 16 = .ok (.iload 4, 2) := by decide +kernel
theorem dX5_fillDuel_18 : decode cX5_fillDuel 18 = .ok (.aload_n 0, 1) := by decide +kernel
theorem dX5_fillDuel_19 : decode cX5_fillDuel 19 = .ok (.getfield 10, 3) := by decide +kernel
theorem dX5_fillDuel_22 : decode cX5_fillDuel 22 = .ok (.getfield 65, 3) := by decide +kernel
theorem dX5_fillDuel_25 : decode cX5_fillDuel 25 = .ok (.if_icmp .gt 97, 3) := by decide +kernel
theorem dX5_fillDuel_28 : decode cX5_fillDuel 28 = .ok (.aload_n 0, 1) := by decide +kernel
theorem dX5_fillDuel_29 : decode cX5_fillDuel 29 = .ok (.getfield 36, 3) := by decide +kernel
theorem dX5_fillDuel_32 : decode cX5_fillDuel 32 = .ok (.aload_n 0, 1) := by decide +kernel
theorem dX5_fillDuel_33 : decode cX5_fillDuel 33 = .ok (.getfield 10, 3) := by decide +kernel
theorem dX5_fillDuel_36 : decode cX5_fillDuel 36 = .ok (.invokevirtual 181, 3) := by decide +kernel
theorem dX5_fillDuel_39 : decode cX5_fillDuel 39 = .ok (.aload_n 0, 1) := by decide +kernel
theorem dX5_fillDuel_40 : decode cX5_fillDuel 40 = .ok (.getfield 36, 3) := by decide +kernel
theorem dX5_fillDuel_43 : decode cX5_fillDuel 43 = .ok (.getfield 187, 3) := by decide +kernel
theorem dX5_fillDuel_46 : decode cX5_fillDuel 46 = .ok (.getfield 107, 3) := by decide +kernel
theorem dX5_fillDuel_49 : decode cX5_fillDuel 49 = .ok (.iload_n 1, 1) := by decide +kernel
theorem dX5_fillDuel_50 : decode cX5_fillDuel 50 = .ok (.iconst 1, 1) := by decide +kernel
theorem dX5_fillDuel_51 : decode cX5_fillDuel 51 = .ok (.iload_n 3, 1) := by decide +kernel
theorem dX5_fillDuel_52 : decode cX5_fillDuel 52 = .ok (.ishl, 1) := by decide +kernel
theorem dX5_fillDuel_53 : decode cX5_fillDuel 53 = .ok (.iconst 1, 1) := by decide +kernel
theorem dX5_fillDuel_54 : decode cX5_fillDuel 54 = .ok (.ishr, 1) := by decide +kernel
theorem dX5_fillDuel_55 : decode cX5_fillDuel 55 = .ok (.iastore, 1) := by decide +kernel
theorem dX5_fillDuel_56 : decode cX5_fillDuel 56 = .ok (.aload_n 0, 1) := by decide +kernel
theorem dX5_fillDuel_57 : decode cX5_fillDuel 57 = .ok (.getfield 36, 3) := by decide +kernel
theorem dX5_fillDuel_60 : decode cX5_fillDuel 60 = .ok (.getfield 187, 3) := by decide +kernel
theorem dX5_fillDuel_63 : decode cX5_fillDuel 63 = .ok (.getfield 107, 3) := by decide +kernel
theorem dX5_fillDuel_66 : decode cX5_fillDuel 66 = .ok (.iload_n 2, 1) := by decide +kernel
theorem dX5_fillDuel_67 : decode cX5_fillDuel 67 = .ok (.iconst 1, 1) := by decide +kernel
theorem dX5_fillDuel_68 : decode cX5_fillDuel 68 = .ok (.iload 4, 2) := by decide +kernel
theorem dX5_fillDuel_70 : decode cX5_fillDuel 70 = .ok (.ishl, 1) := by decide +kernel
theorem dX5_fillDuel_71 : decode cX5_fillDuel 71 = .ok (.iconst 1, 1) := by decide +kernel
theorem dX5_fillDuel_72 : decode cX5_fillDuel 72 = .ok (.ishr, 1) := by decide +kernel
theorem dX5_fillDuel_73 : decode cX5_fillDuel 73 = .ok (.iastore, 1) := by decide +kernel
theorem dX5_fillDuel_74 : decode cX5_fillDuel 74 = .ok (.aload_n 0, 1) := by decide +kernel
theorem dX5_fillDuel_75 : decode cX5_fillDuel 75 = .ok (.getfield 54, 3) := by decide +kernel
theorem dX5_fillDuel_78 : decode cX5_fillDuel 78 = .ok (.iload_n 3, 1) := by decide +kernel
theorem dX5_fillDuel_79 : decode cX5_fillDuel 79 = .ok (.bipush 9, 2) := by decide +kernel
theorem dX5_fillDuel_81 : decode cX5_fillDuel 81 = .ok (.imul, 1) := by decide +kernel
theorem dX5_fillDuel_82 : decode cX5_fillDuel 82 = .ok (.iload 4, 2) := by decide +kernel
theorem dX5_fillDuel_84 : decode cX5_fillDuel 84 = .ok (.iadd, 1) := by decide +kernel
theorem dX5_fillDuel_85 : decode cX5_fillDuel 85 = .ok (.aload_n 0, 1) := by decide +kernel
theorem dX5_fillDuel_86 : decode cX5_fillDuel 86 = .ok (.getfield 36, 3) := by decide +kernel
theorem dX5_fillDuel_89 : decode cX5_fillDuel 89 = .ok (.iload_n 1, 1) := by decide +kernel
theorem dX5_fillDuel_90 : decode cX5_fillDuel 90 = .ok (.iconst 0, 1) := by decide +kernel
theorem dX5_fillDuel_91 : decode cX5_fillDuel 91 = .ok (.invokevirtual 184, 3) := by decide +kernel
theorem dX5_fillDuel_94 : decode cX5_fillDuel 94 = .ok (.iastore, 1) := by decide +kernel
theorem dX5_fillDuel_95 : decode cX5_fillDuel 95 = .ok (.aload_n 0, 1) := by decide +kernel
theorem dX5_fillDuel_96 : decode cX5_fillDuel 96 = .ok (.getfield 58, 3) := by decide +kernel
theorem dX5_fillDuel_99 : decode cX5_fillDuel 99 = .ok (.iload_n 3, 1) := by decide +kernel
theorem dX5_fillDuel_100 : decode cX5_fillDuel 100 = .ok (.bipush 9, 2) := by decide +kernel
theorem dX5_fillDuel_102 : decode cX5_fillDuel 102 = .ok (.imul, 1) := by decide +kernel
theorem dX5_fillDuel_103 : decode cX5_fillDuel 103 = .ok (.iload 4, 2) := by decide +kernel
theorem dX5_fillDuel_105 : decode cX5_fillDuel 105 = .ok (.iadd, 1) := by decide +kernel
theorem dX5_fillDuel_106 : decode cX5_fillDuel 106 = .ok (.aload_n 0, 1) := by decide +kernel
theorem dX5_fillDuel_107 : decode cX5_fillDuel 107 = .ok (.getfield 36, 3) := by decide +kernel
theorem dX5_fillDuel_110 : decode cX5_fillDuel 110 = .ok (.iload_n 2, 1) := by decide +kernel
theorem dX5_fillDuel_111 : decode cX5_fillDuel 111 = .ok (.iconst 0, 1) := by decide +kernel
theorem dX5_fillDuel_112 : decode cX5_fillDuel 112 = .ok (.invokevirtual 184, 3) := by decide +kernel
theorem dX5_fillDuel_115 : decode cX5_fillDuel 115 = .ok (.iastore, 1) := by decide +kernel
theorem dX5_fillDuel_116 : decode cX5_fillDuel 116 = .ok (.iinc 4 1, 3) := by decide +kernel
theorem dX5_fillDuel_119 : decode cX5_fillDuel 119 = .ok (.goto (-103), 3) := by decide +kernel
theorem dX5_fillDuel_122 : decode cX5_fillDuel 122 = .ok (.iinc 3 1, 3) := by decide +kernel
theorem dX5_fillDuel_125 : decode cX5_fillDuel 125 = .ok (.goto (-123), 3) := by decide +kernel
theorem dX5_fillDuel_128 : decode cX5_fillDuel 128 = .ok (.return_, 1) := by decide +kernel
theorem dX5_isRest_0 : decode cX5_isRest 0 = .ok (.iload_n 1, 1) := by decide +kernel
theorem dX5_isRest_1 : decode cX5_isRest 1 = .ok (.bipush 9, 2) := by decide +kernel
theorem dX5_isRest_3 : decode cX5_isRest 3 = .ok (.imul, 1) := by decide +kernel
theorem dX5_isRest_4 : decode cX5_isRest 4 = .ok (.iload_n 2, 1) := by decide +kernel
theorem dX5_isRest_5 : decode cX5_isRest 5 = .ok (.iadd, 1) := by decide +kernel
theorem dX5_isRest_6 : decode cX5_isRest 6 = .ok (.istore_n 3, 1) := by decide +kernel
theorem dX5_isRest_7 : decode cX5_isRest 7 = .ok (.iconst 0, 1) := by decide +kernel
theorem dX5_isRest_8 : decode cX5_isRest 8 = .ok (.istore 4, 2) := by decide +kernel
theorem dX5_isRest_10 : decode cX5_isRest 10 = .ok (.iload 4, 2) := by decide +kernel
theorem dX5_isRest_12 : decode cX5_isRest 12 = .ok (.aload_n 0, 1) := by decide +kernel
theorem dX5_isRest_13 : decode cX5_isRest 13 = .ok (.getfield 10, 3) := by decide +kernel
theorem dX5_isRest_16 : decode cX5_isRest 16 = .ok (.getfield 65, 3) := by decide +kernel
theorem dX5_isRest_19 : decode cX5_isRest 19 = .ok (.if_icmp .gt 53, 3) := by decide +kernel
theorem dX5_isRest_22 : decode cX5_isRest 22 = .ok (.aload_n 0, 1) := by decide +kernel
theorem dX5_isRest_23 : decode cX5_isRest 23 = .ok (.getfield 54, 3) := by decide +kernel
theorem dX5_isRest_26 : decode cX5_isRest 26 = .ok (.iload 4, 2) := by decide +kernel
theorem dX5_isRest_28 : decode cX5_isRest 28 = .ok (.bipush 9, 2) := by decide +kernel
theorem dX5_isRest_30 : decode cX5_isRest 30 = .ok (.imul, 1) := by decide +kernel
theorem dX5_isRest_31 : decode cX5_isRest 31 = .ok (.iload_n 2, 1) := by decide +kernel
theorem dX5_isRest_32 : decode cX5_isRest 32 = .ok (.iadd, 1) := by decide +kernel
theorem dX5_isRest_33 : decode cX5_isRest 33 = .ok (.iaload, 1) := by decide +kernel
theorem dX5_isRest_34 : decode cX5_isRest 34 = .ok (.aload_n 0, 1) := by decide +kernel
theorem dX5_isRest_35 : decode cX5_isRest 35 = .ok (.getfield 54, 3) := by decide +kernel
theorem dX5_isRest_38 : decode cX5_isRest 38 = .ok (.iload_n 3, 1) := by decide +kernel
theorem dX5_isRest_39 : decode cX5_isRest 39 = .ok (.iaload, 1) := by decide +kernel
theorem dX5_isRest_40 : decode cX5_isRest 40 = .ok (.if_icmp .lt 24, 3) := by decide +kernel
theorem dX5_isRest_43 : decode cX5_isRest 43 = .ok (.aload_n 0, 1) := by decide +kernel
theorem dX5_isRest_44 : decode cX5_isRest 44 = .ok (.getfield 58, 3) := by decide +kernel
theorem dX5_isRest_47 : decode cX5_isRest 47 = .ok (.iload_n 1, 1) := by decide +kernel
theorem dX5_isRest_48 : decode cX5_isRest 48 = .ok (.bipush 9, 2) := by decide +kernel
theorem dX5_isRest_50 : decode cX5_isRest 50 = .ok (.imul, 1) := by decide +kernel
theorem dX5_isRest_51 : decode cX5_isRest 51 = .ok (.iload 4, 2) := by decide +kernel
theorem dX5_isRest_53 : decode cX5_isRest 53 = .ok (.iadd, 1) := by decide +kernel
theorem dX5_isRest_54 : decode cX5_isRest 54 = .ok (.iaload, 1) := by decide +kernel
theorem dX5_isRest_55 : decode cX5_isRest 55 = .ok (.aload_n 0, 1) := by decide +kernel
theorem dX5_isRest_56 : decode cX5_isRest 56 = .ok (.getfield 58, 3) := by decide +kernel
theorem dX5_isRest_59 : decode cX5_isRest 59 = .ok (.iload_n 3, 1) := by decide +kernel
theorem dX5_isRest_60 : decode cX5_isRest 60 = .ok (.iaload, 1) := by decide +kernel
theorem dX5_isRest_61 : decode cX5_isRest 61 = .ok (.if_icmp .ge 5, 3) := by decide +kernel
theorem dX5_isRest_64 : decode cX5_isRest 64 = .ok (.iconst 0, 1) := by decide +kernel
theorem dX5_isRest_65 : decode cX5_isRest 65 = .ok (.ireturn, 1) := by decide +kernel
theorem dX5_isRest_66 : decode cX5_isRest 66 = .ok (.iinc 4 1, 3) := by decide +kernel
theorem dX5_isRest_69 : decode cX5_isRest 69 = .ok (.goto (-59), 3) := by decide +kernel
theorem dX5_isRest_72 : decode cX5_isRest 72 = .ok (.iconst 1, 1) := by decide +kernel
theorem dX5_isRest_73 : decode cX5_isRest 73 = .ok (.ireturn, 1) := by decide +kernel
theorem dX5_isFirstWith_0 : decode cX5_isFirstWith 0 = .ok (.aload_n 0, 1) := by decide +kernel
theorem dX5_isFirstWith_1 : decode cX5_isFirstWith 1 = .ok (.getfield 36, 3) := by decide +kernel
theorem dX5_isFirstWith_4 : decode cX5_isFirstWith 4 = .ok (.aload_n 0, 1) := by decide +kernel
theorem dX5_isFirstWith_5 : decode cX5_isFirstWith 5 = .ok (.getfield 10, 3) := by decide +kernel
theorem dX5_isFirstWith_8 : decode cX5_isFirstWith 8 = .ok (.invokevirtual 181, 3) := by decide +kernel
theorem dX5_isFirstWith_11 : decode cX5_isFirstWith 11 = .ok (.aload_n 0, 1) := by decide +kernel
theorem dX5_isFirstWith_12 : decode cX5_isFirstWith 12 = .ok (.getfield 36, 3) := by decide +kernel
theorem dX5_isFirstWith_15 : decode cX5_isFirstWith 15 = .ok (.iload_n 1, 1) := by decide +kernel
theorem dX5_isFirstWith_16 : decode cX5_isFirstWith 16 = .ok (.iload_n 2, 1) := by decide +kernel
theorem dX5_isFirstWith_17 : decode cX5_isFirstWith 17 = .ok (.invokevirtual 184, 3) := by decide +kernel
theorem dX5_isFirstWith_20 : decode cX5_isFirstWith 20 = .ok (.pop, 1) := by decide +kernel
theorem dX5_isFirstWith_21 : decode cX5_isFirstWith 21 = .ok (.aload_n 0, 1) := by decide +kernel
theorem dX5_isFirstWith_22 : decode cX5_isFirstWith 22 = .ok (.getfield 36, 3) := by decide +kernel
theorem dX5_isFirstWith_25 : decode cX5_isFirstWith 25 = .ok (.invokevirtual 193, 3) := by decide +kernel
theorem dX5_isFirstWith_28 : decode cX5_isFirstWith 28 = .ok (.iload_n 1, 1) := by decide +kernel
theorem dX5_isFirstWith_29 : decode cX5_isFirstWith 29 = .ok (.if_icmp .ne 7, 3) := by decide +kernel
theorem dX5_isFirstWith_32 : decode cX5_isFirstWith 32 = .ok (.iconst 1, 1) := by decide +kernel
theorem dX5_isFirstWith_33 : decode cX5_isFirstWith 33 = .ok (.goto 4, 3) := by decide +kernel
theorem dX5_isFirstWith_36 : decode cX5_isFirstWith 36 = .ok (.iconst 0, 1) := by decide +kernel
theorem dX5_isFirstWith_37 : decode cX5_isFirstWith 37 = .ok (.ireturn, 1) := by decide +kernel
theorem dX5_waysOf_0 : decode cX5_waysOf 0 = .ok (.iconst 1, 1) := by decide +kernel
theorem dX5_waysOf_1 : decode cX5_waysOf 1 = .ok (.istore_n 3, 1) := by decide +kernel
theorem dX5_waysOf_2 : decode cX5_waysOf 2 = .ok (.iconst 0, 1) := by decide +kernel
theorem dX5_waysOf_3 : decode cX5_waysOf 3 = .ok (.istore 4, 2) := by decide +kernel
theorem dX5_waysOf_5 : decode cX5_waysOf 5 = .ok (.iload 4, 2) := by decide +kernel
theorem dX5_waysOf_7 : decode cX5_waysOf 7 = .ok (.iload_n 1, 1) := by decide +kernel
theorem dX5_waysOf_8 : decode cX5_waysOf 8 = .ok (.if_icmp .ge 29, 3) := by decide +kernel
theorem dX5_waysOf_11 : decode cX5_waysOf 11 = .ok (.iload_n 3, 1) := by decide +kernel
theorem dX5_waysOf_12 : decode cX5_waysOf 12 = .ok (.iload_n 0, 1) := by decide +kernel
theorem dX5_waysOf_13 : decode cX5_waysOf 13 = .ok (.iload 4, 2) := by decide +kernel
theorem dX5_waysOf_15 : decode cX5_waysOf 15 = .ok (.invokestatic 281, 3) := by decide +kernel
theorem dX5_waysOf_18 : decode cX5_waysOf 18 = .ok (.ifCond .eq 7, 3) := by decide +kernel
theorem dX5_waysOf_21 : decode cX5_waysOf 21 = .ok (.iload_n 2, 1) := by decide +kernel
theorem dX5_waysOf_22 : decode cX5_waysOf 22 = .ok (.goto 7, 3) := by decide +kernel
theorem dX5_waysOf_25 : decode cX5_waysOf 25 = .ok (.bipush 10, 2) := by decide +kernel
theorem dX5_waysOf_27 : decode cX5_waysOf 27 = .ok (.iload_n 2, 1) := by decide +kernel
theorem dX5_waysOf_28 : decode cX5_waysOf 28 = .ok (.isub, 1) := by decide +kernel
theorem dX5_waysOf_29 : decode cX5_waysOf 29 = .ok (.imul, 1) := by decide +kernel
theorem dX5_waysOf_30 : decode cX5_waysOf 30 = .ok (.istore_n 3, 1) := by decide +kernel
theorem dX5_waysOf_31 : decode cX5_waysOf 31 = .ok (.iinc 4 1, 3) := by decide +kernel
theorem dX5_waysOf_34 : decode cX5_waysOf 34 = .ok (.goto (-29), 3) := by decide +kernel
theorem dX5_waysOf_37 : decode cX5_waysOf 37 = .ok (.iload_n 3, 1) := by decide +kernel
theorem dX5_waysOf_38 : decode cX5_waysOf 38 = .ok (.ireturn, 1) := by decide +kernel
theorem dX5_sharedDivisor_0 : decode cX5_sharedDivisor 0 = .ok (.iload_n 0, 1) := by decide +kernel
theorem dX5_sharedDivisor_1 : decode cX5_sharedDivisor 1 = .ok (.istore_n 2, 1) := by decide +kernel
theorem dX5_sharedDivisor_2 : decode cX5_sharedDivisor 2 = .ok (.iload_n 1, 1) := by decide +kernel
theorem dX5_sharedDivisor_3 : decode cX5_sharedDivisor 3 = .ok (.istore_n 3, 1) := by decide +kernel
theorem dX5_sharedDivisor_4 : decode cX5_sharedDivisor 4 = .ok (.iconst 0, 1) := by decide +kernel
theorem dX5_sharedDivisor_5 : decode cX5_sharedDivisor 5 = .ok (.istore 4, 2) := by decide +kernel
theorem dX5_sharedDivisor_7 : decode cX5_sharedDivisor 7 = .ok (.iload 4, 2) := by decide +kernel
theorem dX5_sharedDivisor_9 : decode cX5_sharedDivisor 9 = .ok (.bipush 64, 2) := by decide +kernel
theorem dX5_sharedDivisor_11 : decode cX5_sharedDivisor 11 = .ok (.if_icmp .ge 23, 3) := by decide +kernel
theorem dX5_sharedDivisor_14 : decode cX5_sharedDivisor 14 = .ok (.iload_n 3, 1) := by decide +kernel
theorem dX5_sharedDivisor_15 : decode cX5_sharedDivisor 15 = .ok (.ifCond .eq 19, 3) := by decide +kernel
theorem dX5_sharedDivisor_18 : decode cX5_sharedDivisor 18 = .ok (.iload_n 2, 1) := by decide +kernel
theorem dX5_sharedDivisor_19 : decode cX5_sharedDivisor 19 = .ok (.iload_n 3, 1) := by decide +kernel
theorem dX5_sharedDivisor_20 : decode cX5_sharedDivisor 20 = .ok (.irem, 1) := by decide +kernel
theorem dX5_sharedDivisor_21 : decode cX5_sharedDivisor 21 = .ok (.istore 5, 2) := by decide +kernel
theorem dX5_sharedDivisor_23 : decode cX5_sharedDivisor 23 = .ok (.iload_n 3, 1) := by decide +kernel
theorem dX5_sharedDivisor_24 : decode cX5_sharedDivisor 24 = .ok (.istore_n 2, 1) := by decide +kernel
theorem dX5_sharedDivisor_25 : decode cX5_sharedDivisor 25 = .ok (.iload 5, 2) := by decide +kernel
theorem dX5_sharedDivisor_27 : decode cX5_sharedDivisor 27 = .ok (.istore_n 3, 1) := by decide +kernel
theorem dX5_sharedDivisor_28 : decode cX5_sharedDivisor 28 = .ok (.iinc 4 1, 3) := by decide +kernel
theorem dX5_sharedDivisor_31 : decode cX5_sharedDivisor 31 = .ok (.goto (-24), 3) := by decide +kernel
theorem dX5_sharedDivisor_34 : decode cX5_sharedDivisor 34 = .ok (.iload_n 2, 1) := by decide +kernel
theorem dX5_sharedDivisor_35 : decode cX5_sharedDivisor 35 = .ok (.ireturn, 1) := by decide +kernel
theorem dX5_rowFault_0 : decode cX5_rowFault 0 = .ok (.aload_n 0, 1) := by decide +kernel
theorem dX5_rowFault_1 : decode cX5_rowFault 1 = .ok (.iload_n 1, 1) := by decide +kernel
theorem dX5_rowFault_2 : decode cX5_rowFault 2 = .ok (.invokevirtual 91, 3) := by decide +kernel
theorem dX5_rowFault_5 : decode cX5_rowFault 5 = .ok (.ifCond .eq 28, 3) := by decide +kernel
theorem dX5_rowFault_8 : decode cX5_rowFault 8 = .ok (.iload_n 2, 1) := by decide +kernel
theorem dX5_rowFault_9 : decode cX5_rowFault 9 = .ok (.invokestatic 238, 3) := by decide +kernel
theorem dX5_rowFault_12 : decode cX5_rowFault 12 = .ok (.ifCond .eq 21, 3) := by decide +kernel
theorem dX5_rowFault_15 : decode cX5_rowFault 15 = .ok (.iload_n 3, 1) := by decide +kernel
theorem dX5_rowFault_16 : decode cX5_rowFault 16 = .ok (.invokestatic 241, 3) := by decide +kernel
theorem dX5_rowFault_19 : decode cX5_rowFault 19 = .ok (.ifCond .eq 14, 3) := by decide +kernel
theorem dX5_rowFault_22 : decode cX5_rowFault 22 = .ok (.iload 5, 2) := by decide +kernel
theorem dX5_rowFault_24 : decode cX5_rowFault 24 = .ok (.iconst 1, 1) := by decide +kernel
theorem dX5_rowFault_25 : decode cX5_rowFault 25 = .ok (.bipush 8, 2) := by decide +kernel
theorem dX5_rowFault_27 : decode cX5_rowFault 27 = .ok (.invokestatic 61, 3) := by decide +kernel
theorem dX5_rowFault_30 : decode cX5_rowFault 30 = .ok (.ifCond .ne 5, 3) := by decide +kernel
theorem dX5_rowFault_33 : decode cX5_rowFault 33 = .ok (.iconst (-1), 1) := by decide +kernel
theorem dX5_rowFault_34 : decode cX5_rowFault 34 = .ok (.ireturn, 1) := by decide +kernel
theorem dX5_rowFault_35 : decode cX5_rowFault 35 = .ok (.aload_n 0, 1) := by decide +kernel
theorem dX5_rowFault_36 : decode cX5_rowFault 36 = .ok (.getfield 50, 3) := by decide +kernel
theorem dX5_rowFault_39 : decode cX5_rowFault 39 = .ok (.iload_n 2, 1) := by decide +kernel
theorem dX5_rowFault_40 : decode cX5_rowFault 40 = .ok (.aaload, 1) := by decide +kernel
theorem dX5_rowFault_41 : decode cX5_rowFault 41 = .ok (.iload_n 3, 1) := by decide +kernel
theorem dX5_rowFault_42 : decode cX5_rowFault 42 = .ok (.iload 4, 2) := by decide +kernel
theorem dX5_rowFault_44 : decode cX5_rowFault 44 = .ok (.iload 5, 2) := by decide +kernel
theorem dX5_rowFault_46 : decode cX5_rowFault 46 = .ok (.invokevirtual 253, 3) := by decide +kernel
theorem dX5_rowFault_49 : decode cX5_rowFault 49 = .ok (.istore 6, 2) := by decide +kernel
theorem dX5_rowFault_51 : decode cX5_rowFault 51 = .ok (.iload 6, 2) := by decide +kernel
theorem dX5_rowFault_53 : decode cX5_rowFault 53 = .ok (.ifCond .ge 6, 3) := by decide +kernel
theorem dX5_rowFault_56 : decode cX5_rowFault 56 = .ok (.iload 6, 2) := by decide +kernel
theorem dX5_rowFault_58 : decode cX5_rowFault 58 = .ok (.ireturn, 1) := by decide +kernel
theorem dX5_rowFault_59 : decode cX5_rowFault 59 = .ok (.iload 5, 2) := by decide +kernel
theorem dX5_rowFault_61 : decode cX5_rowFault 61 = .ok (.aload_n 0, 1) := by decide +kernel
theorem dX5_rowFault_62 : decode cX5_rowFault 62 = .ok (.getfield 10, 3) := by decide +kernel
theorem dX5_rowFault_65 : decode cX5_rowFault 65 = .ok (.getfield 65, 3) := by decide +kernel
theorem dX5_rowFault_68 : decode cX5_rowFault 68 = .ok (.aload_n 0, 1) := by decide +kernel
theorem dX5_rowFault_69 : decode cX5_rowFault 69 = .ok (.getfield 10, 3) := by decide +kernel
theorem dX5_rowFault_72 : decode cX5_rowFault 72 = .ok (.getfield 98, 3) := by decide +kernel
theorem dX5_rowFault_75 : decode cX5_rowFault 75 = .ok (.iload_n 1, 1) := by decide +kernel
theorem dX5_rowFault_76 : decode cX5_rowFault 76 = .ok (.iaload, 1) := by decide +kernel
theorem dX5_rowFault_77 : decode cX5_rowFault 77 = .ok (.isub, 1) := by decide +kernel
theorem dX5_rowFault_78 : decode cX5_rowFault 78 = .ok (.if_icmp .le 8, 3) := by decide +kernel
theorem dX5_rowFault_81 : decode cX5_rowFault 81 = .ok (.bipush (-2), 2) := by decide +kernel
theorem dX5_rowFault_83 : decode cX5_rowFault 83 = .ok (.goto 4, 3) := by decide +kernel
theorem dX5_rowFault_86 : decode cX5_rowFault 86 = .ok (.iconst 0, 1) := by decide +kernel
theorem dX5_rowFault_87 : decode cX5_rowFault 87 = .ok (.ireturn, 1) := by decide +kernel
theorem dX5_isTold_0 : decode cX5_isTold 0 = .ok (.aload_n 0, 1) := by decide +kernel
theorem dX5_isTold_1 : decode cX5_isTold 1 = .ok (.getfield 10, 3) := by decide +kernel
theorem dX5_isTold_4 : decode cX5_isTold 4 = .ok (.getfield 98, 3) := by decide +kernel
theorem dX5_isTold_7 : decode cX5_isTold 7 = .ok (.iload_n 1, 1) := by decide +kernel
theorem dX5_isTold_8 : decode cX5_isTold 8 = .ok (.iaload, 1) := by decide +kernel
theorem dX5_isTold_9 : decode cX5_isTold 9 = .ok (.iconst 1, 1) := by decide +kernel
theorem dX5_isTold_10 : decode cX5_isTold 10 = .ok (.iadd, 1) := by decide +kernel
theorem dX5_isTold_11 : decode cX5_isTold 11 = .ok (.istore 5, 2) := by decide +kernel
theorem dX5_isTold_13 : decode cX5_isTold 13 = .ok (.iconst 0, 1) := by decide +kernel
theorem dX5_isTold_14 : decode cX5_isTold 14 = .ok (.istore 6, 2) := by decide +kernel
theorem dX5_isTold_16 : decode cX5_isTold 16 = .ok (.iload 6, 2) := by decide +kernel
theorem dX5_isTold_18 : decode cX5_isTold 18 = .ok (.iload 4, 2) := by decide +kernel
theorem dX5_isTold_20 : decode cX5_isTold 20 = .ok (.if_icmp .ge 38, 3) := by decide +kernel
theorem dX5_isTold_23 : decode cX5_isTold 23 = .ok (.aload_n 2, 1) := by decide +kernel
theorem dX5_isTold_24 : decode cX5_isTold 24 = .ok (.getfield 262, 3) := by decide +kernel
theorem dX5_isTold_27 : decode cX5_isTold 27 = .ok (.iload_n 3, 1) := by decide +kernel
theorem dX5_isTold_28 : decode cX5_isTold 28 = .ok (.iload 6, 2) := by decide +kernel
theorem dX5_isTold_30 : decode cX5_isTold 30 = .ok (.iadd, 1) := by decide +kernel
theorem dX5_isTold_31 : decode cX5_isTold 31 = .ok (.laload, 1) := by decide +kernel
theorem dX5_isTold_32 : decode cX5_isTold 32 = .ok (.aload_n 0, 1) := by decide +kernel
theorem dX5_isTold_33 : decode cX5_isTold 33 = .ok (.getfield 36, 3) := by decide +kernel
theorem dX5_isTold_36 : decode cX5_isTold 36 = .ok (.iload_n 1, 1) := by decide +kernel
theorem dX5_isTold_37 : decode cX5_isTold 37 = .ok (.iload 5, 2) := by decide +kernel
theorem dX5_isTold_39 : decode cX5_isTold 39 = .ok (.iload 6, 2) := by decide +kernel
theorem dX5_isTold_41 : decode cX5_isTold 41 = .ok (.iadd, 1) := by decide +kernel
theorem dX5_isTold_42 : decode cX5_isTold 42 = .ok (.invokevirtual 190, 3) := by decide +kernel
theorem dX5_isTold_45 : decode cX5_isTold 45 = .ok (.i2l, 1) := by decide +kernel
theorem dX5_isTold_46 : decode cX5_isTold 46 = .ok (.lcmp, 1) := by decide +kernel
theorem dX5_isTold_47 : decode cX5_isTold 47 = .ok (.ifCond .eq 5, 3) := by decide +kernel
theorem dX5_isTold_50 : decode cX5_isTold 50 = .ok (.iconst 0, 1) := by decide +kernel
theorem dX5_isTold_51 : decode cX5_isTold 51 = .ok (.ireturn, 1) := by decide +kernel
theorem dX5_isTold_52 : decode cX5_isTold 52 = .ok (.iinc 6 1, 3) := by decide +kernel
theorem dX5_isTold_55 : decode cX5_isTold 55 = .ok (.goto (-39), 3) := by decide +kernel
theorem dX5_isTold_58 : decode cX5_isTold 58 = .ok (.iconst 1, 1) := by decide +kernel
theorem dX5_isTold_59 : decode cX5_isTold 59 = .ok (.ireturn, 1) := by decide +kernel
