theorem dX0_init_0 : decode cX0_init 0 = .ok (.aload_n 0, 1) := by decide +kernel
theorem dX0_init_1 : decode cX0_init 1 = .ok (.invokespecial 3, 3) := by decide +kernel
theorem dX0_init_4 : decode cX0_init 4 = .ok (.aload_n 0, 1) := by decide +kernel
theorem dX0_init_5 : decode cX0_init 5 = .ok (.new 9, 3) := by decide +kernel
theorem dX0_init_8 : decode cX0_init 8 = .ok (.dup, 1) := by decide +kernel
theorem dX0_init_9 : decode cX0_init 9 = .ok (.invokespecial 11, 3) := by decide +kernel
theorem dX0_init_12 : decode cX0_init 12 = .ok (.putfield 12, 3) := by decide +kernel
theorem dX0_init_15 : decode cX0_init 15 = .ok (.aload_n 0, 1) := by decide +kernel
theorem dX0_init_16 : decode cX0_init 16 = .ok (.bipush 36, 2) := by decide +kernel
theorem dX0_init_18 : decode cX0_init 18 = .ok (.newarray .int, 2) := by decide +kernel
theorem dX0_init_20 : decode cX0_init 20 = .ok (.putfield 18, 3) := by decide +kernel
theorem dX0_init_23 : decode cX0_init 23 = .ok (.return_, 1) := by decide +kernel
theorem dX0_begin_0 : decode cX0_begin 0 = .ok (.aload_n 0, 1) := by decide +kernel
theorem dX0_begin_1 : decode cX0_begin 1 = .ok (.getfield 12, 3) := by decide +kernel
theorem dX0_begin_4 : decode cX0_begin 4 = .ok (.aload_n 1, 1) := by decide +kernel
theorem dX0_begin_5 : decode cX0_begin 5 = .ok (.invokevirtual 22, 3) := by decide +kernel
theorem dX0_begin_8 : decode cX0_begin 8 = .ok (.iconst 0, 1) := by decide +kernel
theorem dX0_begin_9 : decode cX0_begin 9 = .ok (.istore_n 2, 1) := by decide +kernel
theorem dX0_begin_10 : decode cX0_begin 10 = .ok (.iload_n 2, 1) := by decide +kernel
theorem dX0_begin_11 : decode cX0_begin 11 = .ok (.aload_n 0, 1) := by decide +kernel
theorem dX0_begin_12 : decode cX0_begin 12 = .ok (.getfield 12, 3) := by decide +kernel
theorem dX0_begin_15 : decode cX0_begin 15 = .ok (.getfield 26, 3) := by decide +kernel
theorem dX0_begin_18 : decode cX0_begin 18 = .ok (.if_icmp .ge 14, 3) := by decide +kernel
theorem dX0_begin_21 : decode cX0_begin 21 = .ok (.aload_n 0, 1) := by decide +kernel
theorem dX0_begin_22 : decode cX0_begin 22 = .ok (.iload_n 2, 1) := by decide +kernel
theorem dX0_begin_23 : decode cX0_begin 23 = .ok (.invokevirtual 30, 3) := by decide +kernel
theorem dX0_begin_26 : decode cX0_begin 26 = .ok (.iinc 2 1, 3) := by decide +kernel
theorem dX0_begin_29 : decode cX0_begin 29 = .ok (.goto (-19), 3) := by decide +kernel
theorem dX0_begin_32 : decode cX0_begin 32 = .ok (.return_, 1) := by decide +kernel
theorem dX0_rideToForge_0 : decode cX0_rideToForge 0 = .ok (.iconst 0, 1) := by decide +kernel
theorem dX0_rideToForge_1 : decode cX0_rideToForge 1 = .ok (.istore_n 3, 1) := by decide +kernel
theorem dX0_rideToForge_2 : decode cX0_rideToForge 2 = .ok (.iload_n 3, 1) := by decide +kernel
theorem dX0_rideToForge_3 : decode cX0_rideToForge 3 = .ok (.bipush 32, 2) := by decide +kernel
theorem dX0_rideToForge_5 : decode cX0_rideToForge 5 = .ok (.if_icmp .ge 93, 3) := by decide +kernel
theorem dX0_rideToForge_8 : decode cX0_rideToForge 8 = .ok (.aload_n 0, 1) := by decide +kernel
theorem dX0_rideToForge_9 : decode cX0_rideToForge 9 = .ok (.getfield 12, 3) := by decide +kernel
theorem dX0_rideToForge_12 : decode cX0_rideToForge 12 = .ok (.iload_n 1, 1) := by decide +kernel
theorem dX0_rideToForge_13 : decode cX0_rideToForge 13 = .ok (.invokevirtual 34, 3) := by decide +kernel
theorem dX0_rideToForge_16 : decode cX0_rideToForge 16 = .ok (.ifCond .ne 82, 3) := by decide +kernel
theorem dX0_rideToForge_19 : decode cX0_rideToForge 19 = .ok (.aload_n 0, 1) := by decide +kernel
theorem dX0_rideToForge_20 : decode cX0_rideToForge 20 = .ok (.getfield 12, 3) := by decide +kernel
theorem dX0_rideToForge_23 : decode cX0_rideToForge 23 = .ok (.invokevirtual 38, 3) := by decide +kernel
theorem dX0_rideToForge_26 : decode cX0_rideToForge 26 = .ok (.istore 4, 2) := by decide +kernel
theorem dX0_rideToForge_28 : decode cX0_rideToForge 28 = .ok (.iload 4, 2) := by decide +kernel
theorem dX0_rideToForge_30 : decode cX0_rideToForge 30 = .ok (.ifCond .ge 6, 3) := by decide +kernel
theorem dX0_rideToForge_33 : decode cX0_rideToForge 33 = .ok (.goto 65, 3) := by decide +kernel
theorem dX0_rideToForge_36 : decode cX0_rideToForge 36 = .ok (.iload 4, 2) := by decide +kernel
theorem dX0_rideToForge_38 : decode cX0_rideToForge 38 = .ok (.iload_n 1, 1) := by decide +kernel
theorem dX0_rideToForge_39 : decode cX0_rideToForge 39 = .ok (.if_icmp .ne 24, 3) := by decide +kernel
theorem dX0_rideToForge_42 : decode cX0_rideToForge 42 = .ok (.iload_n 2, 1) := by decide +kernel
theorem dX0_rideToForge_43 : decode cX0_rideToForge 43 = .ok (.aload_n 0, 1) := by decide +kernel
theorem dX0_rideToForge_44 : decode cX0_rideToForge 44 = .ok (.getfield 12, 3) := by decide +kernel
theorem dX0_rideToForge_47 : decode cX0_rideToForge 47 = .ok (.getfield 42, 3) := by decide +kernel
theorem dX0_rideToForge_50 : decode cX0_rideToForge 50 = .ok (.iload 4, 2) := by decide +kernel
theorem dX0_rideToForge_52 : decode cX0_rideToForge 52 = .ok (.iaload, 1) := by decide +kernel
theorem dX0_rideToForge_53 : decode cX0_rideToForge 53 = .ok (.invokestatic 45, 3) := by decide +kernel
theorem dX0_rideToForge_56 : decode cX0_rideToForge 56 = .ok (.ifCond .eq 7, 3) := by decide +kernel
theorem dX0_rideToForge_59 : decode cX0_rideToForge 59 = .ok (.iconst 1, 1) := by decide +kernel
theorem dX0_rideToForge_60 : decode cX0_rideToForge 60 = .ok (.goto 4, 3) := by decide +kernel
theorem dX0_rideToForge_63 : decode cX0_rideToForge 63 = .ok (.iconst 0, 1) := by decide +kernel
theorem dX0_rideToForge_64 : decode cX0_rideToForge 64 = .ok (.istore 5, 2) := by decide +kernel
theorem dX0_rideToForge_66 : decode cX0_rideToForge 66 = .ok (.aload_n 0, 1) := by decide +kernel
theorem dX0_rideToForge_67 : decode cX0_rideToForge 67 = .ok (.getfield 12, 3) := by decide +kernel
theorem dX0_rideToForge_70 : decode cX0_rideToForge 70 = .ok (.iload 4, 2) := by decide +kernel
theorem dX0_rideToForge_72 : decode cX0_rideToForge 72 = .ok (.iload 5, 2) := by decide +kernel
theorem dX0_rideToForge_74 : decode cX0_rideToForge 74 = .ok (.ifCond .eq 8, 3) := by decide +kernel
theorem dX0_rideToForge_77 : decode cX0_rideToForge 77 = .ok (.bipush 30, 2) := by decide +kernel
theorem dX0_rideToForge_79 : decode cX0_rideToForge 79 = .ok (.goto 4, 3) := by decide +kernel
theorem dX0_rideToForge_82 : decode cX0_rideToForge 82 = .ok (.iconst 0, 1) := by decide +kernel
theorem dX0_rideToForge_83 : decode cX0_rideToForge 83 = .ok (.invokevirtual 49, 3) := by decide +kernel
theorem dX0_rideToForge_86 : decode cX0_rideToForge 86 = .ok (.aload_n 0, 1) := by decide +kernel
theorem dX0_rideToForge_87 : decode cX0_rideToForge 87 = .ok (.iload 4, 2) := by decide +kernel
theorem dX0_rideToForge_89 : decode cX0_rideToForge 89 = .ok (.invokevirtual 30, 3) := by decide +kernel
theorem dX0_rideToForge_92 : decode cX0_rideToForge 92 = .ok (.iinc 3 1, 3) := by decide +kernel
theorem dX0_rideToForge_95 : decode cX0_rideToForge 95 = .ok (.goto (-93), 3) := by decide +kernel
theorem dX0_rideToForge_98 : decode cX0_rideToForge 98 = .ok (.aload_n 0, 1) := by decide +kernel
theorem dX0_rideToForge_99 : decode cX0_rideToForge 99 = .ok (.getfield 12, 3) := by decide +kernel
theorem dX0_rideToForge_102 : decode cX0_rideToForge 102 = .ok (.getfield 53, 3) := by decide +kernel
theorem dX0_rideToForge_105 : decode cX0_rideToForge 105 = .ok (.iload_n 1, 1) := by decide +kernel
theorem dX0_rideToForge_106 : decode cX0_rideToForge 106 = .ok (.iaload, 1) := by decide +kernel
theorem dX0_rideToForge_107 : decode cX0_rideToForge 107 = .ok (.ireturn, 1) := by decide +kernel
theorem dX0_whoIsFirst_0 : decode cX0_whoIsFirst 0 = .ok (.bipush (-4), 2) := by decide +kernel
theorem dX0_whoIsFirst_2 : decode cX0_whoIsFirst 2 = .ok (.istore_n 1, 1) := by decide +kernel
theorem dX0_whoIsFirst_3 : decode cX0_whoIsFirst 3 = .ok (.iconst 0, 1) := by decide +kernel
theorem dX0_whoIsFirst_4 : decode cX0_whoIsFirst 4 = .ok (.istore_n 2, 1) := by decide +kernel
theorem dX0_whoIsFirst_5 : decode cX0_whoIsFirst 5 = .ok (.iconst 0, 1) := by decide +kernel
theorem dX0_whoIsFirst_6 : decode cX0_whoIsFirst 6 = .ok (.istore_n 3, 1) := by decide +kernel
theorem dX0_whoIsFirst_7 : decode cX0_whoIsFirst 7 = .ok (.iload_n 3, 1) := by decide +kernel
theorem dX0_whoIsFirst_8 : decode cX0_whoIsFirst 8 = .ok (.aload_n 0, 1) := by decide +kernel
theorem dX0_whoIsFirst_9 : decode cX0_whoIsFirst 9 = .ok (.getfield 12, 3) := by decide +kernel
theorem dX0_whoIsFirst_12 : decode cX0_whoIsFirst 12 = .ok (.getfield 26, 3) := by decide +kernel
theorem dX0_whoIsFirst_15 : decode cX0_whoIsFirst 15 = .ok (.if_icmp .ge 32, 3) := by decide +kernel
theorem dX0_whoIsFirst_18 : decode cX0_whoIsFirst 18 = .ok (.aload_n 0, 1) := by decide +kernel
theorem dX0_whoIsFirst_19 : decode cX0_whoIsFirst 19 = .ok (.iload_n 3, 1) := by decide +kernel
theorem dX0_whoIsFirst_20 : decode cX0_whoIsFirst 20 = .ok (.iconst 0, 1) := by decide +kernel
theorem dX0_whoIsFirst_21 : decode cX0_whoIsFirst 21 = .ok (.invokevirtual 56, 3) := by decide +kernel
theorem dX0_whoIsFirst_24 : decode cX0_whoIsFirst 24 = .ok (.istore 4, 2) := by decide +kernel
theorem dX0_whoIsFirst_26 : decode cX0_whoIsFirst 26 = .ok (.iload_n 1, 1) := by decide +kernel
theorem dX0_whoIsFirst_27 : decode cX0_whoIsFirst 27 = .ok (.ifCond .lt 9, 3) := by decide +kernel
theorem dX0_whoIsFirst_30 : decode cX0_whoIsFirst 30 = .ok (.iload 4, 2) := by decide +kernel
theorem dX0_whoIsFirst_32 : decode cX0_whoIsFirst 32 = .ok (.iload_n 2, 1) := by decide +kernel
theorem dX0_whoIsFirst_33 : decode cX0_whoIsFirst 33 = .ok (.if_icmp .ge 8, 3) := by decide +kernel
theorem dX0_whoIsFirst_36 : decode cX0_whoIsFirst 36 = .ok (.iload_n 3, 1) := by decide +kernel
theorem dX0_whoIsFirst_37 : decode cX0_whoIsFirst 37 = .ok (.istore_n 1, 1) := by decide +kernel
theorem dX0_whoIsFirst_38 : decode cX0_whoIsFirst 38 = .ok (.iload 4, 2) := by decide +kernel
theorem dX0_whoIsFirst_40 : decode cX0_whoIsFirst 40 = .ok (.istore_n 2, 1) := by decide +kernel
theorem dX0_whoIsFirst_41 : decode cX0_whoIsFirst 41 = .ok (.iinc 3 1, 3) := by decide +kernel
theorem dX0_whoIsFirst_44 : decode cX0_whoIsFirst 44 = .ok (.goto (-37), 3) := by decide +kernel
theorem dX0_whoIsFirst_47 : decode cX0_whoIsFirst 47 = .ok (.iload_n 1, 1) := by decide +kernel
theorem dX0_whoIsFirst_48 : decode cX0_whoIsFirst 48 = .ok (.ireturn, 1) := by decide +kernel
theorem dX0_cameTo_0 : decode cX0_cameTo 0 = .ok (.aload_n 0, 1) := by decide +kernel
theorem dX0_cameTo_1 : decode cX0_cameTo 1 = .ok (.getfield 18, 3) := by decide +kernel
theorem dX0_cameTo_4 : decode cX0_cameTo 4 = .ok (.iload_n 1, 1) := by decide +kernel
theorem dX0_cameTo_5 : decode cX0_cameTo 5 = .ok (.bipush 9, 2) := by decide +kernel
theorem dX0_cameTo_7 : decode cX0_cameTo 7 = .ok (.imul, 1) := by decide +kernel
theorem dX0_cameTo_8 : decode cX0_cameTo 8 = .ok (.iload_n 2, 1) := by decide +kernel
theorem dX0_cameTo_9 : decode cX0_cameTo 9 = .ok (.iadd, 1) := by decide +kernel
theorem dX0_cameTo_10 : decode cX0_cameTo 10 = .ok (.iaload, 1) := by decide +kernel
theorem dX0_cameTo_11 : decode cX0_cameTo 11 = .ok (.ireturn, 1) := by decide +kernel
theorem dX0_noteWhere_0 : decode cX0_noteWhere 0 = .ok (.aload_n 0, 1) := by decide +kernel
theorem dX0_noteWhere_1 : decode cX0_noteWhere 1 = .ok (.getfield 18, 3) := by decide +kernel
theorem dX0_noteWhere_4 : decode cX0_noteWhere 4 = .ok (.iload_n 1, 1) := by decide +kernel
theorem dX0_noteWhere_5 : decode cX0_noteWhere 5 = .ok (.bipush 9, 2) := by decide +kernel
theorem dX0_noteWhere_7 : decode cX0_noteWhere 7 = .ok (.imul, 1) := by decide +kernel
theorem dX0_noteWhere_8 : decode cX0_noteWhere 8 = .ok (.aload_n 0, 1) := by decide +kernel
theorem dX0_noteWhere_9 : decode cX0_noteWhere 9 = .ok (.getfield 12, 3) := by decide +kernel
theorem dX0_noteWhere_12 : decode cX0_noteWhere 12 = .ok (.getfield 42, 3) := by decide +kernel
theorem dX0_noteWhere_15 : decode cX0_noteWhere 15 = .ok (.iload_n 1, 1) := by decide +kernel
theorem dX0_noteWhere_16 : decode cX0_noteWhere 16 = .ok (.iaload, 1) := by decide +kernel
theorem dX0_noteWhere_17 : decode cX0_noteWhere 17 = .ok (.iadd, 1) := by decide +kernel
theorem dX0_noteWhere_18 : decode cX0_noteWhere 18 = .ok (.aload_n 0, 1) := by decide +kernel
theorem dX0_noteWhere_19 : decode cX0_noteWhere 19 = .ok (.getfield 12, 3) := by decide +kernel
theorem dX0_noteWhere_22 : decode cX0_noteWhere 22 = .ok (.getfield 53, 3) := by decide +kernel
theorem dX0_noteWhere_25 : decode cX0_noteWhere 25 = .ok (.iload_n 1, 1) := by decide +kernel
theorem dX0_noteWhere_26 : decode cX0_noteWhere 26 = .ok (.iaload, 1) := by decide +kernel
theorem dX0_noteWhere_27 : decode cX0_noteWhere 27 = .ok (.iastore, 1) := by decide +kernel
theorem dX0_noteWhere_28 : decode cX0_noteWhere 28 = .ok (.return_, 1) := by decide +kernel
theorem dX1_init_0 : decode cX1_init 0 = .ok (.aload_n 0, 1) := by decide +kernel
theorem dX1_init_1 : decode cX1_init 1 = .ok (.invokespecial 3, 3) := by decide +kernel
theorem dX1_init_4 : decode cX1_init 4 = .ok (.aload_n 0, 1) := by decide +kernel
theorem dX1_init_5 : decode cX1_init 5 = .ok (.iconst (-1), 1) := by decide +kernel
theorem dX1_init_6 : decode cX1_init 6 = .ok (.putfield 11, 3) := by decide +kernel
theorem dX1_init_9 : decode cX1_init 9 = .ok (.aload_n 0, 1) := by decide +kernel
theorem dX1_init_10 : decode cX1_init 10 = .ok (.iconst 0, 1) := by decide +kernel
theorem dX1_init_11 : decode cX1_init 11 = .ok (.putfield 15, 3) := by decide +kernel
theorem dX1_init_14 : decode cX1_init 14 = .ok (.aload_n 0, 1) := by decide +kernel
theorem dX1_init_15 : decode cX1_init 15 = .ok (.bipush 24, 2) := by decide +kernel
theorem dX1_init_17 : decode cX1_init 17 = .ok (.newarray .long, 2) := by decide +kernel
theorem dX1_init_19 : decode cX1_init 19 = .ok (.putfield 18, 3) := by decide +kernel
theorem dX1_init_22 : decode cX1_init 22 = .ok (.return_, 1) := by decide +kernel
theorem dX1_isMissing_0 : decode cX1_isMissing 0 = .ok (.aload_n 0, 1) := by decide +kernel
theorem dX1_isMissing_1 : decode cX1_isMissing 1 = .ok (.getfield 11, 3) := by decide +kernel
theorem dX1_isMissing_4 : decode cX1_isMissing 4 = .ok (.iconst (-1), 1) := by decide +kernel
theorem dX1_isMissing_5 : decode cX1_isMissing 5 = .ok (.if_icmp .ne 7, 3) := by decide +kernel
theorem dX1_isMissing_8 : decode cX1_isMissing 8 = .ok (.iconst 1, 1) := by decide +kernel
theorem dX1_isMissing_9 : decode cX1_isMissing 9 = .ok (.goto 4, 3) := by decide +kernel
theorem dX1_isMissing_12 : decode cX1_isMissing 12 = .ok (.iconst 0, 1) := by decide +kernel
theorem dX1_isMissing_13 : decode cX1_isMissing 13 = .ok (.ireturn, 1) := by decide +kernel
theorem dX1_lay_0 : decode cX1_lay 0 = .ok (.aload_n 0, 1) := by decide +kernel
theorem dX1_lay_1 : decode cX1_lay 1 = .ok (.iload_n 1, 1) := by decide +kernel
theorem dX1_lay_2 : decode cX1_lay 2 = .ok (.putfield 11, 3) := by decide +kernel
theorem dX1_lay_5 : decode cX1_lay 5 = .ok (.aload_n 0, 1) := by decide +kernel
theorem dX1_lay_6 : decode cX1_lay 6 = .ok (.iload_n 2, 1) := by decide +kernel
theorem dX1_lay_7 : decode cX1_lay 7 = .ok (.putfield 15, 3) := by decide +kernel
theorem dX1_lay_10 : decode cX1_lay 10 = .ok (.iconst 0, 1) := by decide +kernel
theorem dX1_lay_11 : decode cX1_lay 11 = .ok (.istore_n 3, 1) := by decide +kernel
theorem dX1_lay_12 : decode cX1_lay 12 = .ok (.iload_n 3, 1) := by decide +kernel
theorem dX1_lay_13 : decode cX1_lay 13 = .ok (.bipush 24, 2) := by decide +kernel
theorem dX1_lay_15 : decode cX1_lay 15 = .ok (.if_icmp .ge 16, 3) := by decide +kernel
theorem dX1_lay_18 : decode cX1_lay 18 = .ok (.aload_n 0, 1) := by decide +kernel
theorem dX1_lay_19 : decode cX1_lay 19 = .ok (.getfield 18, 3) := by decide +kernel
theorem dX1_lay_22 : decode cX1_lay 22 = .ok (.iload_n 3, 1) := by decide +kernel
theorem dX1_lay_23 : decode cX1_lay 23 = .ok (.lconst 0, 1) := by decide +kernel
theorem dX1_lay_24 : decode cX1_lay 24 = .ok (.lastore, 1) := by decide +kernel
theorem dX1_lay_25 : decode cX1_lay 25 = .ok (.iinc 3 1, 3) := by decide +kernel
theorem dX1_lay_28 : decode cX1_lay 28 = .ok (.goto (-16), 3) := by decide +kernel
theorem dX1_lay_31 : decode cX1_lay 31 = .ok (.return_, 1) := by decide +kernel
theorem dX1_clear_0 : decode cX1_clear 0 = .ok (.aload_n 0, 1) := by decide +kernel
theorem dX1_clear_1 : decode cX1_clear 1 = .ok (.iconst (-1), 1) := by decide +kernel
theorem dX1_clear_2 : decode cX1_clear 2 = .ok (.putfield 11, 3) := by decide +kernel
theorem dX1_clear_5 : decode cX1_clear 5 = .ok (.aload_n 0, 1) := by decide +kernel
theorem dX1_clear_6 : decode cX1_clear 6 = .ok (.getfield 15, 3) := by decide +kernel
theorem dX1_clear_9 : decode cX1_clear 9 = .ok (.ireturn, 1) := by decide +kernel
theorem dX1_holds_0 : decode cX1_holds 0 = .ok (.iload_n 1, 1) := by decide +kernel
theorem dX1_holds_1 : decode cX1_holds 1 = .ok (.ifCond .lt 21, 3) := by decide +kernel
theorem dX1_holds_4 : decode cX1_holds 4 = .ok (.iload_n 2, 1) := by decide +kernel
theorem dX1_holds_5 : decode cX1_holds 5 = .ok (.ifCond .lt 17, 3) := by decide +kernel
theorem dX1_holds_8 : decode cX1_holds 8 = .ok (.iload_n 2, 1) := by decide +kernel
theorem dX1_holds_9 : decode cX1_holds 9 = .ok (.aload_n 0, 1) := by decide +kernel
theorem dX1_holds_10 : decode cX1_holds 10 = .ok (.getfield 15, 3) := by decide +kernel
theorem dX1_holds_13 : decode cX1_holds 13 = .ok (.iload_n 1, 1) := by decide +kernel
theorem dX1_holds_14 : decode cX1_holds 14 = .ok (.isub, 1) := by decide +kernel
theorem dX1_holds_15 : decode cX1_holds 15 = .ok (.if_icmp .gt 7, 3) := by decide +kernel
theorem dX1_holds_18 : decode cX1_holds 18 = .ok (.iconst 1, 1) := by decide +kernel
theorem dX1_holds_19 : decode cX1_holds 19 = .ok (.goto 4, 3) := by decide +kernel
theorem dX1_holds_22 : decode cX1_holds 22 = .ok (.iconst 0, 1) := by decide +kernel
theorem dX1_holds_23 : decode cX1_holds 23 = .ok (.ireturn, 1) := by decide +kernel
theorem dX1_faultOf_0 : decode cX1_faultOf 0 = .ok (.aload_n 0, 1) := by decide +kernel
theorem dX1_faultOf_1 : decode cX1_faultOf 1 = .ok (.invokevirtual 22, 3) := by decide +kernel
theorem dX1_faultOf_4 : decode cX1_faultOf 4 = .ok (.ifCond .eq 6, 3) := by decide +kernel
theorem dX1_faultOf_7 : decode cX1_faultOf 7 = .ok (.bipush (-11), 2) := by decide +kernel
theorem dX1_faultOf_9 : decode cX1_faultOf 9 = .ok (.ireturn, 1) := by decide +kernel
theorem dX1_faultOf_10 : decode cX1_faultOf 10 = .ok (.aload_n 0, 1) := by decide +kernel
theorem dX1_faultOf_11 : decode cX1_faultOf 11 = .ok (.getfield 11, 3) := by decide +kernel
theorem dX1_faultOf_14 : decode cX1_faultOf 14 = .ok (.iload_n 1, 1) := by decide +kernel
theorem dX1_faultOf_15 : decode cX1_faultOf 15 = .ok (.if_icmp .eq 6, 3) := by decide +kernel
theorem dX1_faultOf_18 : decode cX1_faultOf 18 = .ok (.bipush (-12), 2) := by decide +kernel
theorem dX1_faultOf_20 : decode cX1_faultOf 20 = .ok (.ireturn, 1) := by decide +kernel
theorem dX1_faultOf_21 : decode cX1_faultOf 21 = .ok (.aload_n 0, 1) := by decide +kernel
theorem dX1_faultOf_22 : decode cX1_faultOf 22 = .ok (.iload_n 2, 1) := by decide +kernel
theorem dX1_faultOf_23 : decode cX1_faultOf 23 = .ok (.iload_n 3, 1) := by decide +kernel
theorem dX1_faultOf_24 : decode cX1_faultOf 24 = .ok (.invokevirtual 26, 3) := by decide +kernel
theorem dX1_faultOf_27 : decode cX1_faultOf 27 = .ok (.ifCond .eq 7, 3) := by decide +kernel
theorem dX1_faultOf_30 : decode cX1_faultOf 30 = .ok (.iconst 0, 1) := by decide +kernel
theorem dX1_faultOf_31 : decode cX1_faultOf 31 = .ok (.goto 5, 3) := by decide +kernel
theorem dX1_faultOf_34 : decode cX1_faultOf 34 = .ok (.bipush (-13), 2) := by decide +kernel
theorem dX1_faultOf_36 : decode cX1_faultOf 36 = .ok (.ireturn, 1) := by decide +kernel
theorem dX1_put_0 : decode cX1_put 0 = .ok (.aload_n 0, 1) := by decide +kernel
theorem dX1_put_1 : decode cX1_put 1 = .ok (.getfield 11, 3) := by decide +kernel
theorem dX1_put_4 : decode cX1_put 4 = .ok (.tableswitch 66 0 2 #[28, 41, 54], 28) := by decide +kernel
theorem dX1_put_32 : decode cX1_put 32 = .ok (.aload_n 0, 1) := by decide +kernel
theorem dX1_put_33 : decode cX1_put 33 = .ok (.getfield 18, 3) := by decide +kernel
theorem dX1_put_36 : decode cX1_put 36 = .ok (.iload_n 1, 1) := by decide +kernel
theorem dX1_put_37 : decode cX1_put 37 = .ok (.lload_n 2, 1) := by decide +kernel
theorem dX1_put_38 : decode cX1_put 38 = .ok (.l2i, 1) := by decide +kernel
theorem dX1_put_39 : decode cX1_put 39 = .ok (.i2b, 1) := by decide +kernel
theorem dX1_put_40 : decode cX1_put 40 = .ok (.i2l, 1) := by decide +kernel
theorem dX1_put_41 : decode cX1_put 41 = .ok (.lastore, 1) := by decide +kernel
theorem dX1_put_42 : decode cX1_put 42 = .ok (.goto 35, 3) := by decide +kernel
theorem dX1_put_45 : decode cX1_put 45 = .ok (.aload_n 0, 1) := by decide +kernel
theorem dX1_put_46 : decode cX1_put 46 = .ok (.getfield 18, 3) := by decide +kernel
theorem dX1_put_49 : decode cX1_put 49 = .ok (.iload_n 1, 1) := by decide +kernel
theorem dX1_put_50 : decode cX1_put 50 = .ok (.lload_n 2, 1) := by decide +kernel
theorem dX1_put_51 : decode cX1_put 51 = .ok (.l2i, 1) := by decide +kernel
theorem dX1_put_52 : decode cX1_put 52 = .ok (.i2s, 1) := by decide +kernel
theorem dX1_put_53 : decode cX1_put 53 = .ok (.i2l, 1) := by decide +kernel
theorem dX1_put_54 : decode cX1_put 54 = .ok (.lastore, 1) := by decide +kernel
theorem dX1_put_55 : decode cX1_put 55 = .ok (.goto 22, 3) := by decide +kernel
theorem dX1_put_58 : decode cX1_put 58 = .ok (.aload_n 0, 1) := by decide +kernel
theorem dX1_put_59 : decode cX1_put 59 = .ok (.getfield 18, 3) := by decide +kernel
theorem dX1_put_62 : decode cX1_put 62 = .ok (.iload_n 1, 1) := by decide +kernel
theorem dX1_put_63 : decode cX1_put 63 = .ok (.lload_n 2, 1) := by decide +kernel
theorem dX1_put_64 : decode cX1_put 64 = .ok (.l2i, 1) := by decide +kernel
theorem dX1_put_65 : decode cX1_put 65 = .ok (.i2l, 1) := by decide +kernel
theorem dX1_put_66 : decode cX1_put 66 = .ok (.lastore, 1) := by decide +kernel
theorem dX1_put_67 : decode cX1_put 67 = .ok (.goto 10, 3) := by decide +kernel
theorem dX1_put_70 : decode cX1_put 70 = .ok (.aload_n 0, 1) := by decide +kernel
theorem dX1_put_71 : decode cX1_put 71 = .ok (.getfield 18, 3) := by decide +kernel
theorem dX1_put_74 : decode cX1_put 74 = .ok (.iload_n 1, 1) := by decide +kernel
theorem dX1_put_75 : decode cX1_put 75 = .ok (.lload_n 2, 1) := by decide +kernel
theorem dX1_put_76 : decode cX1_put 76 = .ok (.lastore, 1) := by decide +kernel
theorem dX1_put_77 : decode cX1_put 77 = .ok (.return_, 1) := by decide +kernel
theorem dX2_init_0 : decode cX2_init 0 = .ok (.aload_n 0, 1) := by decide +kernel
theorem dX2_init_1 : decode cX2_init 1 = .ok (.invokespecial 1, 3) := by decide +kernel
theorem dX2_init_4 : decode cX2_init 4 = .ok (.aload_n 0, 1) := by decide +kernel
theorem dX2_init_5 : decode cX2_init 5 = .ok (.iconst 0, 1) := by decide +kernel
theorem dX2_init_6 : decode cX2_init 6 = .ok (.putfield 7, 3) := by decide +kernel
theorem dX2_init_9 : decode cX2_init 9 = .ok (.aload_n 0, 1) := by decide +kernel
theorem dX2_init_10 : decode cX2_init 10 = .ok (.iconst 0, 1) := by decide +kernel
theorem dX2_init_11 : decode cX2_init 11 = .ok (.putfield 13, 3) := by decide +kernel
theorem dX2_init_14 : decode cX2_init 14 = .ok (.aload_n 0, 1) := by decide +kernel
theorem dX2_init_15 : decode cX2_init 15 = .ok (.sipush 168, 3) := by decide +kernel
theorem dX2_init_18 : decode cX2_init 18 = .ok (.newarray .int, 2) := by decide +kernel
theorem dX2_init_20 : decode cX2_init 20 = .ok (.putfield 18, 3) := by decide +kernel
theorem dX2_init_23 : decode cX2_init 23 = .ok (.return_, 1) := by decide +kernel
theorem dX2_forget_0 : decode cX2_forget 0 = .ok (.aload_n 0, 1) := by decide +kernel
theorem dX2_forget_1 : decode cX2_forget 1 = .ok (.iconst 0, 1) := by decide +kernel
theorem dX2_forget_2 : decode cX2_forget 2 = .ok (.putfield 7, 3) := by decide +kernel
theorem dX2_forget_5 : decode cX2_forget 5 = .ok (.return_, 1) := by decide +kernel
theorem dX2_mark_0 : decode cX2_mark 0 = .ok (.aload_n 1, 1) := by decide +kernel
theorem dX2_mark_1 : decode cX2_mark 1 = .ok (.aload_n 0, 1) := by decide +kernel
theorem dX2_mark_2 : decode cX2_mark 2 = .ok (.getfield 18, 3) := by decide +kernel
theorem dX2_mark_5 : decode cX2_mark 5 = .ok (.aload_n 0, 1) := by decide +kernel
theorem dX2_mark_6 : decode cX2_mark 6 = .ok (.getfield 13, 3) := by decide +kernel
theorem dX2_mark_9 : decode cX2_mark 9 = .ok (.bipush 21, 2) := by decide +kernel
theorem dX2_mark_11 : decode cX2_mark 11 = .ok (.imul, 1) := by decide +kernel
theorem dX2_mark_12 : decode cX2_mark 12 = .ok (.invokevirtual 22, 3) := by decide +kernel
theorem dX2_mark_15 : decode cX2_mark 15 = .ok (.aload_n 0, 1) := by decide +kernel
theorem dX2_mark_16 : decode cX2_mark 16 = .ok (.aload_n 0, 1) := by decide +kernel
theorem dX2_mark_17 : decode cX2_mark 17 = .ok (.getfield 13, 3) := by decide +kernel
theorem dX2_mark_20 : decode cX2_mark 20 = .ok (.iconst 1, 1) := by decide +kernel
theorem dX2_mark_21 : decode cX2_mark 21 = .ok (.iadd, 1) := by decide +kernel
theorem dX2_mark_22 : decode cX2_mark 22 = .ok (.bipush 8, 2) := by decide +kernel
theorem dX2_mark_24 : decode cX2_mark 24 = .ok (.irem, 1) := by decide +kernel
theorem dX2_mark_25 : decode cX2_mark 25 = .ok (.putfield 13, 3) := by decide +kernel
theorem dX2_mark_28 : decode cX2_mark 28 = .ok (.aload_n 0, 1) := by decide +kernel
theorem dX2_mark_29 : decode cX2_mark 29 = .ok (.bipush 8, 2) := by decide +kernel
theorem dX2_mark_31 : decode cX2_mark 31 = .ok (.aload_n 0, 1) := by decide +kernel
theorem dX2_mark_32 : decode cX2_mark 32 = .ok (.getfield 7, 3) := by decide +kernel
theorem dX2_mark_35 : decode cX2_mark 35 = .ok (.iconst 1, 1) := by decide +kernel
theorem dX2_mark_36 : decode cX2_mark 36 = .ok (.iadd, 1) := by decide +kernel
theorem dX2_mark_37 : decode cX2_mark 37 = .ok (.invokestatic 26, 3) := by decide +kernel
theorem dX2_mark_40 : decode cX2_mark 40 = .ok (.putfield 7, 3) := by decide +kernel
theorem dX2_mark_43 : decode cX2_mark 43 = .ok (.return_, 1) := by decide +kernel
theorem dX2_goBack_0 : decode cX2_goBack 0 = .ok (.aload_n 0, 1) := by decide +kernel
theorem dX2_goBack_1 : decode cX2_goBack 1 = .ok (.aload_n 0, 1) := by decide +kernel
theorem dX2_goBack_2 : decode cX2_goBack 2 = .ok (.getfield 13, 3) := by decide +kernel
theorem dX2_goBack_5 : decode cX2_goBack 5 = .ok (.bipush 8, 2) := by decide +kernel
theorem dX2_goBack_7 : decode cX2_goBack 7 = .ok (.iadd, 1) := by decide +kernel
theorem dX2_goBack_8 : decode cX2_goBack 8 = .ok (.iconst 1, 1) := by decide +kernel
theorem dX2_goBack_9 : decode cX2_goBack 9 = .ok (.isub, 1) := by decide +kernel
theorem dX2_goBack_10 : decode cX2_goBack 10 = .ok (.bipush 8, 2) := by decide +kernel
theorem dX2_goBack_12 : decode cX2_goBack 12 = .ok (.irem, 1) := by decide +kernel
theorem dX2_goBack_13 : decode cX2_goBack 13 = .ok (.putfield 13, 3) := by decide +kernel
theorem dX2_goBack_16 : decode cX2_goBack 16 = .ok (.aload_n 0, 1) := by decide +kernel
theorem dX2_goBack_17 : decode cX2_goBack 17 = .ok (.dup, 1) := by decide +kernel
theorem dX2_goBack_18 : decode cX2_goBack 18 = .ok (.getfield 7, 3) := by decide +kernel
theorem dX2_goBack_21 : decode cX2_goBack 21 = .ok (.iconst 1, 1) := by decide +kernel
theorem dX2_goBack_22 : decode cX2_goBack 22 = .ok (.isub, 1) := by decide +kernel
theorem dX2_goBack_23 : decode cX2_goBack 23 = .ok (.putfield 7, 3) := by decide +kernel
theorem dX2_goBack_26 : decode cX2_goBack 26 = .ok (.aload_n 1, 1) := by decide +kernel
theorem dX2_goBack_27 : decode cX2_goBack 27 = .ok (.aload_n 0, 1) := by decide +kernel
theorem dX2_goBack_28 : decode cX2_goBack 28 = .ok (.getfield 18, 3) := by decide +kernel
theorem dX2_goBack_31 : decode cX2_goBack 31 = .ok (.aload_n 0, 1) := by decide +kernel
theorem dX2_goBack_32 : decode cX2_goBack 32 = .ok (.getfield 13, 3) := by decide +kernel
theorem dX2_goBack_35 : decode cX2_goBack 35 = .ok (.bipush 21, 2) := by decide +kernel
theorem dX2_goBack_37 : decode cX2_goBack 37 = .ok (.imul, 1) := by decide +kernel
theorem dX2_goBack_38 : decode cX2_goBack 38 = .ok (.invokevirtual 32, 3) := by decide +kernel
theorem dX2_goBack_41 : decode cX2_goBack 41 = .ok (.return_, 1) := by decide +kernel
theorem dX2_takeAll_0 : decode cX2_takeAll 0 = .ok (.aload_n 0, 1) := by decide +kernel
theorem dX2_takeAll_1 : decode cX2_takeAll 1 = .ok (.aload_n 1, 1) := by decide +kernel
theorem dX2_takeAll_2 : decode cX2_takeAll 2 = .ok (.getfield 7, 3) := by decide +kernel
theorem dX2_takeAll_5 : decode cX2_takeAll 5 = .ok (.putfield 7, 3) := by decide +kernel
theorem dX2_takeAll_8 : decode cX2_takeAll 8 = .ok (.aload_n 0, 1) := by decide +kernel
theorem dX2_takeAll_9 : decode cX2_takeAll 9 = .ok (.aload_n 1, 1) := by decide +kernel
theorem dX2_takeAll_10 : decode cX2_takeAll 10 = .ok (.getfield 13, 3) := by decide +kernel
theorem dX2_takeAll_13 : decode cX2_takeAll 13 = .ok (.putfield 13, 3) := by decide +kernel
theorem dX2_takeAll_16 : decode cX2_takeAll 16 = .ok (.aload_n 1, 1) := by decide +kernel
theorem dX2_takeAll_17 : decode cX2_takeAll 17 = .ok (.getfield 18, 3) := by decide +kernel
theorem dX2_takeAll_20 : decode cX2_takeAll 20 = .ok (.iconst 0, 1) := by decide +kernel
theorem dX2_takeAll_21 : decode cX2_takeAll 21 = .ok (.aload_n 0, 1) := by decide +kernel
theorem dX2_takeAll_22 : decode cX2_takeAll 22 = .ok (.getfield 18, 3) := by decide +kernel
theorem dX2_takeAll_25 : decode cX2_takeAll 25 = .ok (.iconst 0, 1) := by decide +kernel
theorem dX2_takeAll_26 : decode cX2_takeAll 26 = .ok (.aload_n 0, 1) := by decide +kernel
theorem dX2_takeAll_27 : decode cX2_takeAll 27 = .ok (.getfield 18, 3) := by decide +kernel
theorem dX2_takeAll_30 : decode cX2_takeAll 30 = .ok (.arraylength, 1) := by decide +kernel
theorem dX2_takeAll_31 : decode cX2_takeAll 31 = .ok (.invokestatic 35, 3) := by decide +kernel
theorem dX2_takeAll_34 : decode cX2_takeAll 34 = .ok (.return_, 1) := by decide +kernel
theorem dX3_init_0 : decode cX3_init 0 = .ok (.aload_n 0, 1) := by decide +kernel
theorem dX3_init_1 : decode cX3_init 1 = .ok (.invokespecial 3, 3) := by decide +kernel
theorem dX3_init_4 : decode cX3_init 4 = .ok (.aload_n 0, 1) := by decide +kernel
theorem dX3_init_5 : decode cX3_init 5 = .ok (.iconst 0, 1) := by decide +kernel
theorem dX3_init_6 : decode cX3_init 6 = .ok (.putfield 9, 3) := by decide +kernel
theorem dX3_init_9 : decode cX3_init 9 = .ok (.aload_n 0, 1) := by decide +kernel
theorem dX3_init_10 : decode cX3_init 10 = .ok (.iconst 0, 1) := by decide +kernel
theorem dX3_init_11 : decode cX3_init 11 = .ok (.putfield 15, 3) := by decide +kernel
theorem dX3_init_14 : decode cX3_init 14 = .ok (.aload_n 0, 1) := by decide +kernel
theorem dX3_init_15 : decode cX3_init 15 = .ok (.iconst 3, 1) := by decide +kernel
theorem dX3_init_16 : decode cX3_init 16 = .ok (.putfield 18, 3) := by decide +kernel
theorem dX3_init_19 : decode cX3_init 19 = .ok (.aload_n 0, 1) := by decide +kernel
theorem dX3_init_20 : decode cX3_init 20 = .ok (.iconst 1, 1) := by decide +kernel
theorem dX3_init_21 : decode cX3_init 21 = .ok (.putfield 21, 3) := by decide +kernel
theorem dX3_init_24 : decode cX3_init 24 = .ok (.aload_n 0, 1) := by decide +kernel
theorem dX3_init_25 : decode cX3_init 25 = .ok (.bipush 8, 2) := by decide +kernel
theorem dX3_init_27 : decode cX3_init 27 = .ok (.newarray .int, 2) := by decide +kernel
theorem dX3_init_29 : decode cX3_init 29 = .ok (.putfield 24, 3) := by decide +kernel
theorem dX3_init_32 : decode cX3_init 32 = .ok (.aload_n 0, 1) := by decide +kernel
theorem dX3_init_33 : decode cX3_init 33 = .ok (.bipush 8, 2) := by decide +kernel
theorem dX3_init_35 : decode cX3_init 35 = .ok (.newarray .int, 2) := by decide +kernel
theorem dX3_init_37 : decode cX3_init 37 = .ok (.putfield 28, 3) := by decide +kernel
theorem dX3_init_40 : decode cX3_init 40 = .ok (.aload_n 0, 1) := by decide +kernel
theorem dX3_init_41 : decode cX3_init 41 = .ok (.bipush 8, 2) := by decide +kernel
theorem dX3_init_43 : decode cX3_init 43 = .ok (.newarray .int, 2) := by decide +kernel
theorem dX3_init_45 : decode cX3_init 45 = .ok (.putfield 31, 3) := by decide +kernel
theorem dX3_init_48 : decode cX3_init 48 = .ok (.aload_n 0, 1) := by decide +kernel
theorem dX3_init_49 : decode cX3_init 49 = .ok (.iconst 4, 1) := by decide +kernel
theorem dX3_init_50 : decode cX3_init 50 = .ok (.newarray .int, 2) := by decide +kernel
theorem dX3_init_52 : decode cX3_init 52 = .ok (.putfield 34, 3) := by decide +kernel
theorem dX3_init_55 : decode cX3_init 55 = .ok (.aload_n 0, 1) := by decide +kernel
theorem dX3_init_56 : decode cX3_init 56 = .ok (.iconst 4, 1) := by decide +kernel
theorem dX3_init_57 : decode cX3_init 57 = .ok (.newarray .int, 2) := by decide +kernel
theorem dX3_init_59 : decode cX3_init 59 = .ok (.putfield 37, 3) := by decide +kernel
theorem dX3_init_62 : decode cX3_init 62 = .ok (.aload_n 0, 1) := by decide +kernel
theorem dX3_init_63 : decode cX3_init 63 = .ok (.iconst 4, 1) := by decide +kernel
theorem dX3_init_64 : decode cX3_init 64 = .ok (.newarray .int, 2) := by decide +kernel
theorem dX3_init_66 : decode cX3_init 66 = .ok (.putfield 40, 3) := by decide +kernel
theorem dX3_init_69 : decode cX3_init 69 = .ok (.aload_n 0, 1) := by decide +kernel
theorem dX3_init_70 : decode cX3_init 70 = .ok (.iconst 4, 1) := by decide +kernel
theorem dX3_init_71 : decode cX3_init 71 = .ok (.newarray .int, 2) := by decide +kernel
theorem dX3_init_73 : decode cX3_init 73 = .ok (.putfield 43, 3) := by decide +kernel
theorem dX3_init_76 : decode cX3_init 76 = .ok (.aload_n 0, 1) := by decide +kernel
theorem dX3_init_77 : decode cX3_init 77 = .ok (.iconst 4, 1) := by decide +kernel
theorem dX3_init_78 : decode cX3_init 78 = .ok (.newarray .int, 2) := by decide +kernel
theorem dX3_init_80 : decode cX3_init 80 = .ok (.putfield 46, 3) := by decide +kernel
theorem dX3_init_83 : decode cX3_init 83 = .ok (.return_, 1) := by decide +kernel
theorem dX3_takeAll_0 : decode cX3_takeAll 0 = .ok (.aload_n 0, 1) := by decide +kernel
theorem dX3_takeAll_1 : decode cX3_takeAll 1 = .ok (.aload_n 1, 1) := by decide +kernel
theorem dX3_takeAll_2 : decode cX3_takeAll 2 = .ok (.invokevirtual 49, 3) := by decide +kernel
theorem dX3_takeAll_5 : decode cX3_takeAll 5 = .ok (.aload_n 0, 1) := by decide +kernel
theorem dX3_takeAll_6 : decode cX3_takeAll 6 = .ok (.aload_n 1, 1) := by decide +kernel
theorem dX3_takeAll_7 : decode cX3_takeAll 7 = .ok (.getfield 18, 3) := by decide +kernel
theorem dX3_takeAll_10 : decode cX3_takeAll 10 = .ok (.putfield 18, 3) := by decide +kernel
theorem dX3_takeAll_13 : decode cX3_takeAll 13 = .ok (.aload_n 0, 1) := by decide +kernel
theorem dX3_takeAll_14 : decode cX3_takeAll 14 = .ok (.aload_n 1, 1) := by decide +kernel
theorem dX3_takeAll_15 : decode cX3_takeAll 15 = .ok (.getfield 21, 3) := by decide +kernel
theorem dX3_takeAll_18 : decode cX3_takeAll 18 = .ok (.putfield 21, 3) := by decide +kernel
theorem dX3_takeAll_21 : decode cX3_takeAll 21 = .ok (.return_, 1) := by decide +kernel
theorem dX3_takeRoad_0 : decode cX3_takeRoad 0 = .ok (.aload_n 0, 1) := by decide +kernel
theorem dX3_takeRoad_1 : decode cX3_takeRoad 1 = .ok (.aload_n 1, 1) := by decide +kernel
theorem dX3_takeRoad_2 : decode cX3_takeRoad 2 = .ok (.getfield 9, 3) := by decide +kernel
theorem dX3_takeRoad_5 : decode cX3_takeRoad 5 = .ok (.putfield 9, 3) := by decide +kernel
theorem dX3_takeRoad_8 : decode cX3_takeRoad 8 = .ok (.aload_n 0, 1) := by decide +kernel
theorem dX3_takeRoad_9 : decode cX3_takeRoad 9 = .ok (.aload_n 1, 1) := by decide +kernel
theorem dX3_takeRoad_10 : decode cX3_takeRoad 10 = .ok (.getfield 15, 3) := by decide +kernel
theorem dX3_takeRoad_13 : decode cX3_takeRoad 13 = .ok (.putfield 15, 3) := by decide +kernel
theorem dX3_takeRoad_16 : decode cX3_takeRoad 16 = .ok (.aload_n 1, 1) := by decide +kernel
theorem dX3_takeRoad_17 : decode cX3_takeRoad 17 = .ok (.getfield 24, 3) := by decide +kernel
theorem dX3_takeRoad_20 : decode cX3_takeRoad 20 = .ok (.iconst 0, 1) := by decide +kernel
theorem dX3_takeRoad_21 : decode cX3_takeRoad 21 = .ok (.aload_n 0, 1) := by decide +kernel
theorem dX3_takeRoad_22 : decode cX3_takeRoad 22 = .ok (.getfield 24, 3) := by decide +kernel
theorem dX3_takeRoad_25 : decode cX3_takeRoad 25 = .ok (.iconst 0, 1) := by decide +kernel
theorem dX3_takeRoad_26 : decode cX3_takeRoad 26 = .ok (.bipush 8, 2) := by decide +kernel
theorem dX3_takeRoad_28 : decode cX3_takeRoad 28 = .ok (.invokestatic 53, 3) := by decide +kernel
theorem dX3_takeRoad_31 : decode cX3_takeRoad 31 = .ok (.aload_n 1, 1) := by decide +kernel
theorem dX3_takeRoad_32 : decode cX3_takeRoad 32 = .ok (.getfield 28, 3) := by decide +kernel
theorem dX3_takeRoad_35 : decode cX3_takeRoad 35 = .ok (.iconst 0, 1) := by decide +kernel
theorem dX3_takeRoad_36 : decode cX3_takeRoad 36 = .ok (.aload_n 0, 1) := by decide +kernel
theorem dX3_takeRoad_37 : decode cX3_takeRoad 37 = .ok (.getfield 28, 3) := by decide +kernel
theorem dX3_takeRoad_40 : decode cX3_takeRoad 40 = .ok (.iconst 0, 1) := by decide +kernel
theorem dX3_takeRoad_41 : decode cX3_takeRoad 41 = .ok (.bipush 8, 2) := by decide +kernel
theorem dX3_takeRoad_43 : decode cX3_takeRoad 43 = .ok (.invokestatic 53, 3) := by decide +kernel
theorem dX3_takeRoad_46 : decode cX3_takeRoad 46 = .ok (.aload_n 1, 1) := by decide +kernel
theorem dX3_takeRoad_47 : decode cX3_takeRoad 47 = .ok (.getfield 31, 3) := by decide +kernel
theorem dX3_takeRoad_50 : decode cX3_takeRoad 50 = .ok (.iconst 0, 1) := by decide +kernel
theorem dX3_takeRoad_51 : decode cX3_takeRoad 51 = .ok (.aload_n 0, 1) := by decide +kernel
theorem dX3_takeRoad_52 : decode cX3_takeRoad 52 = .ok (.getfield 31, 3) := by decide +kernel
theorem dX3_takeRoad_55 : decode cX3_takeRoad 55 = .ok (.iconst 0, 1) := by decide +kernel
theorem dX3_takeRoad_56 : decode cX3_takeRoad 56 = .ok (.bipush 8, 2) := by decide +kernel
theorem dX3_takeRoad_58 : decode cX3_takeRoad 58 = .ok (.invokestatic 53, 3) := by decide +kernel
theorem dX3_takeRoad_61 : decode cX3_takeRoad 61 = .ok (.aload_n 1, 1) := by decide +kernel
theorem dX3_takeRoad_62 : decode cX3_takeRoad 62 = .ok (.getfield 34, 3) := by decide +kernel
theorem dX3_takeRoad_65 : decode cX3_takeRoad 65 = .ok (.iconst 0, 1) := by decide +kernel
theorem dX3_takeRoad_66 : decode cX3_takeRoad 66 = .ok (.aload_n 0, 1) := by decide +kernel
theorem dX3_takeRoad_67 : decode cX3_takeRoad 67 = .ok (.getfield 34, 3) := by decide +kernel
theorem dX3_takeRoad_70 : decode cX3_takeRoad 70 = .ok (.iconst 0, 1) := by decide +kernel
theorem dX3_takeRoad_71 : decode cX3_takeRoad 71 = .ok (.iconst 4, 1) := by decide +kernel
theorem dX3_takeRoad_72 : decode cX3_takeRoad 72 = .ok (.invokestatic 53, 3) := by decide +kernel
theorem dX3_takeRoad_75 : decode cX3_takeRoad 75 = .ok (.aload_n 1, 1) := by decide +kernel
theorem dX3_takeRoad_76 : decode cX3_takeRoad 76 = .ok (.getfield 37, 3) := by decide +kernel
theorem dX3_takeRoad_79 : decode cX3_takeRoad 79 = .ok (.iconst 0, 1) := by decide +kernel
theorem dX3_takeRoad_80 : decode cX3_takeRoad 80 = .ok (.aload_n 0, 1) := by decide +kernel
theorem dX3_takeRoad_81 : decode cX3_takeRoad 81 = .ok (.getfield 37, 3) := by decide +kernel
theorem dX3_takeRoad_84 : decode cX3_takeRoad 84 = .ok (.iconst 0, 1) := by decide +kernel
theorem dX3_takeRoad_85 : decode cX3_takeRoad 85 = .ok (.iconst 4, 1) := by decide +kernel
theorem dX3_takeRoad_86 : decode cX3_takeRoad 86 = .ok (.invokestatic 53, 3) := by decide +kernel
theorem dX3_takeRoad_89 : decode cX3_takeRoad 89 = .ok (.aload_n 1, 1) := by decide +kernel
theorem dX3_takeRoad_90 : decode cX3_takeRoad 90 = .ok (.getfield 40, 3) := by decide +kernel
theorem dX3_takeRoad_93 : decode cX3_takeRoad 93 = .ok (.iconst 0, 1) := by decide +kernel
theorem dX3_takeRoad_94 : decode cX3_takeRoad 94 = .ok (.aload_n 0, 1) := by decide +kernel
theorem dX3_takeRoad_95 : decode cX3_takeRoad 95 = .ok (.getfield 40, 3) := by decide +kernel
theorem dX3_takeRoad_98 : decode cX3_takeRoad 98 = .ok (.iconst 0, 1) := by decide +kernel
theorem dX3_takeRoad_99 : decode cX3_takeRoad 99 = .ok (.iconst 4, 1) := by decide +kernel
theorem dX3_takeRoad_100 : decode cX3_takeRoad 100 = .ok (.invokestatic 53, 3) := by decide +kernel
theorem dX3_takeRoad_103 : decode cX3_takeRoad 103 = .ok (.aload_n 1, 1) := by decide +kernel
theorem dX3_takeRoad_104 : decode cX3_takeRoad 104 = .ok (.getfield 43, 3) := by decide +kernel
theorem dX3_takeRoad_107 : decode cX3_takeRoad 107 = .ok (.iconst 0, 1) := by decide +kernel
theorem dX3_takeRoad_108 : decode cX3_takeRoad 108 = .ok (.aload_n 0, 1) := by decide +kernel
theorem dX3_takeRoad_109 : decode cX3_takeRoad 109 = .ok (.getfield 43, 3) := by decide +kernel
theorem dX3_takeRoad_112 : decode cX3_takeRoad 112 = .ok (.iconst 0, 1) := by decide +kernel
theorem dX3_takeRoad_113 : decode cX3_takeRoad 113 = .ok (.iconst 4, 1) := by decide +kernel
theorem dX3_takeRoad_114 : decode cX3_takeRoad 114 = .ok (.invokestatic 53, 3) := by decide +kernel
theorem dX3_takeRoad_117 : decode cX3_takeRoad 117 = .ok (.aload_n 1, 1) := by decide +kernel
theorem dX3_takeRoad_118 : decode cX3_takeRoad 118 = .ok (.getfield 46, 3) := by decide +kernel
theorem dX3_takeRoad_121 : decode cX3_takeRoad 121 = .ok (.iconst 0, 1) := by decide +kernel
theorem dX3_takeRoad_122 : decode cX3_takeRoad 122 = .ok (.aload_n 0, 1) := by decide +kernel
theorem dX3_takeRoad_123 : decode cX3_takeRoad 123 = .ok (.getfield 46, 3) := by decide +kernel
theorem dX3_takeRoad_126 : decode cX3_takeRoad 126 = .ok (.iconst 0, 1) := by decide +kernel
theorem dX3_takeRoad_127 : decode cX3_takeRoad 127 = .ok (.iconst 4, 1) := by decide +kernel
theorem dX3_takeRoad_128 : decode cX3_takeRoad 128 = .ok (.invokestatic 53, 3) := by decide +kernel
theorem dX3_takeRoad_131 : decode cX3_takeRoad 131 = .ok (.return_, 1) := by decide +kernel
theorem dX3_writeMoving_0 : decode cX3_writeMoving 0 = .ok (.aload_n 0, 1) := by decide +kernel
theorem dX3_writeMoving_1 : decode cX3_writeMoving 1 = .ok (.getfield 37, 3) := by decide +kernel
theorem dX3_writeMoving_4 : decode cX3_writeMoving 4 = .ok (.iconst 0, 1) := by decide +kernel
theorem dX3_writeMoving_5 : decode cX3_writeMoving 5 = .ok (.aload_n 1, 1) := by decide +kernel
theorem dX3_writeMoving_6 : decode cX3_writeMoving 6 = .ok (.iload_n 2, 1) := by decide +kernel
theorem dX3_writeMoving_7 : decode cX3_writeMoving 7 = .ok (.iconst 4, 1) := by decide +kernel
theorem dX3_writeMoving_8 : decode cX3_writeMoving 8 = .ok (.invokestatic 53, 3) := by decide +kernel
theorem dX3_writeMoving_11 : decode cX3_writeMoving 11 = .ok (.aload_n 0, 1) := by decide +kernel
theorem dX3_writeMoving_12 : decode cX3_writeMoving 12 = .ok (.getfield 40, 3) := by decide +kernel
theorem dX3_writeMoving_15 : decode cX3_writeMoving 15 = .ok (.iconst 0, 1) := by decide +kernel
theorem dX3_writeMoving_16 : decode cX3_writeMoving 16 = .ok (.aload_n 1, 1) := by decide +kernel
theorem dX3_writeMoving_17 : decode cX3_writeMoving 17 = .ok (.iload_n 2, 1) := by decide +kernel
theorem dX3_writeMoving_18 : decode cX3_writeMoving 18 = .ok (.iconst 4, 1) := by decide +kernel
theorem dX3_writeMoving_19 : decode cX3_writeMoving 19 = .ok (.iadd, 1) := by decide +kernel
theorem dX3_writeMoving_20 : decode cX3_writeMoving 20 = .ok (.iconst 4, 1) := by decide +kernel
theorem dX3_writeMoving_21 : decode cX3_writeMoving 21 = .ok (.invokestatic 53, 3) := by decide +kernel
theorem dX3_writeMoving_24 : decode cX3_writeMoving 24 = .ok (.aload_n 0, 1) := by decide +kernel
theorem dX3_writeMoving_25 : decode cX3_writeMoving 25 = .ok (.getfield 43, 3) := by decide +kernel
theorem dX3_writeMoving_28 : decode cX3_writeMoving 28 = .ok (.iconst 0, 1) := by decide +kernel
theorem dX3_writeMoving_29 : decode cX3_writeMoving 29 = .ok (.aload_n 1, 1) := by decide +kernel
theorem dX3_writeMoving_30 : decode cX3_writeMoving 30 = .ok (.iload_n 2, 1) := by decide +kernel
theorem dX3_writeMoving_31 : decode cX3_writeMoving 31 = .ok (.bipush 8, 2) := by decide +kernel
theorem dX3_writeMoving_33 : decode cX3_writeMoving 33 = .ok (.iadd, 1) := by decide +kernel
theorem dX3_writeMoving_34 : decode cX3_writeMoving 34 = .ok (.iconst 4, 1) := by decide +kernel
theorem dX3_writeMoving_35 : decode cX3_writeMoving 35 = .ok (.invokestatic 53, 3) := by decide +kernel
theorem dX3_writeMoving_38 : decode cX3_writeMoving 38 = .ok (.aload_n 0, 1) := by decide +kernel
theorem dX3_writeMoving_39 : decode cX3_writeMoving 39 = .ok (.getfield 31, 3) := by decide +kernel
theorem dX3_writeMoving_42 : decode cX3_writeMoving 42 = .ok (.iconst 0, 1) := by decide +kernel
theorem dX3_writeMoving_43 : decode cX3_writeMoving 43 = .ok (.aload_n 1, 1) := by decide +kernel
theorem dX3_writeMoving_44 : decode cX3_writeMoving 44 = .ok (.iload_n 2, 1) := by decide +kernel
theorem dX3_writeMoving_45 : decode cX3_writeMoving 45 = .ok (.bipush 12, 2) := by decide +kernel
theorem dX3_writeMoving_47 : decode cX3_writeMoving 47 = .ok (.iadd, 1) := by decide +kernel
theorem dX3_writeMoving_48 : decode cX3_writeMoving 48 = .ok (.bipush 8, 2) := by decide +kernel
theorem dX3_writeMoving_50 : decode cX3_writeMoving 50 = .ok (.invokestatic 53, 3) := by decide +kernel
theorem dX3_writeMoving_53 : decode cX3_writeMoving 53 = .ok (.aload_n 1, 1) := by decide +kernel
theorem dX3_writeMoving_54 : decode cX3_writeMoving 54 = .ok (.iload_n 2, 1) := by decide +kernel
theorem dX3_writeMoving_55 : decode cX3_writeMoving 55 = .ok (.bipush 20, 2) := by decide +kernel
theorem dX3_writeMoving_57 : decode cX3_writeMoving 57 = .ok (.iadd, 1) := by decide +kernel
theorem dX3_writeMoving_58 : decode cX3_writeMoving 58 = .ok (.aload_n 0, 1) := by decide +kernel
theorem dX3_writeMoving_59 : decode cX3_writeMoving 59 = .ok (.getfield 21, 3) := by decide +kernel
theorem dX3_writeMoving_62 : decode cX3_writeMoving 62 = .ok (.iastore, 1) := by decide +kernel
theorem dX3_writeMoving_63 : decode cX3_writeMoving 63 = .ok (.return_, 1) := by decide +kernel
theorem dX3_readMoving_0 : decode cX3_readMoving 0 = .ok (.aload_n 1, 1) := by decide +kernel
theorem dX3_readMoving_1 : decode cX3_readMoving 1 = .ok (.iload_n 2, 1) := by decide +kernel
theorem dX3_readMoving_2 : decode cX3_readMoving 2 = .ok (.aload_n 0, 1) := by decide +kernel
theorem dX3_readMoving_3 : decode cX3_readMoving 3 = .ok (.getfield 37, 3) := by decide +kernel
theorem dX3_readMoving_6 : decode cX3_readMoving 6 = .ok (.iconst 0, 1) := by decide +kernel
theorem dX3_readMoving_7 : decode cX3_readMoving 7 = .ok (.iconst 4, 1) := by decide +kernel
theorem dX3_readMoving_8 : decode cX3_readMoving 8 = .ok (.invokestatic 53, 3) := by decide +kernel
theorem dX3_readMoving_11 : decode cX3_readMoving 11 = .ok (.aload_n 1, 1) := by decide +kernel
theorem dX3_readMoving_12 : decode cX3_readMoving 12 = .ok (.iload_n 2, 1) := by decide +kernel
theorem dX3_readMoving_13 : decode cX3_readMoving 13 = .ok (.iconst 4, 1) := by decide +kernel
theorem dX3_readMoving_14 : decode cX3_readMoving 14 = .ok (.iadd, 1) := by decide +kernel
theorem dX3_readMoving_15 : decode cX3_readMoving 15 = .ok (.aload_n 0, 1) := by decide +kernel
theorem dX3_readMoving_16 : decode cX3_readMoving 16 = .ok (.getfield 40, 3) := by decide +kernel
theorem dX3_readMoving_19 : decode cX3_readMoving 19 = .ok (.iconst 0, 1) := by decide +kernel
theorem dX3_readMoving_20 : decode cX3_readMoving 20 = .ok (.iconst 4, 1) := by decide +kernel
theorem dX3_readMoving_21 : decode cX3_readMoving 21 = .ok (.invokestatic 53, 3) := by decide +kernel
theorem dX3_readMoving_24 : decode cX3_readMoving 24 = .ok (.aload_n 1, 1) := by decide +kernel
theorem dX3_readMoving_25 : decode cX3_readMoving 25 = .ok (.iload_n 2, 1) := by decide +kernel
theorem dX3_readMoving_26 : decode cX3_readMoving 26 = .ok (.bipush 8, 2) := by decide +kernel
theorem dX3_readMoving_28 : decode cX3_readMoving 28 = .ok (.iadd, 1) := by decide +kernel
theorem dX3_readMoving_29 : decode cX3_readMoving 29 = .ok (.aload_n 0, 1) := by decide +kernel
theorem dX3_readMoving_30 : decode cX3_readMoving 30 = .ok (.getfield 43, 3) := by decide +kernel
theorem dX3_readMoving_33 : decode cX3_readMoving 33 = .ok (.iconst 0, 1) := by decide +kernel
theorem dX3_readMoving_34 : decode cX3_readMoving 34 = .ok (.iconst 4, 1) := by decide +kernel
theorem dX3_readMoving_35 : decode cX3_readMoving 35 = .ok (.invokestatic 53, 3) := by decide +kernel
theorem dX3_readMoving_38 : decode cX3_readMoving 38 = .ok (.aload_n 1, 1) := by decide +kernel
theorem dX3_readMoving_39 : decode cX3_readMoving 39 = .ok (.iload_n 2, 1) := by decide +kernel
theorem dX3_readMoving_40 : decode cX3_readMoving 40 = .ok (.bipush 12, 2) := by decide +kernel
theorem dX3_readMoving_42 : decode cX3_readMoving 42 = .ok (.iadd, 1) := by decide +kernel
theorem dX3_readMoving_43 : decode cX3_readMoving 43 = .ok (.aload_n 0, 1) := by decide +kernel
theorem dX3_readMoving_44 : decode cX3_readMoving 44 = .ok (.getfield 31, 3) := by decide +kernel
theorem dX3_readMoving_47 : decode cX3_readMoving 47 = .ok (.iconst 0, 1) := by decide +kernel
theorem dX3_readMoving_48 : decode cX3_readMoving 48 = .ok (.bipush 8, 2) := by decide +kernel
theorem dX3_readMoving_50 : decode cX3_readMoving 50 = .ok (.invokestatic 53, 3) := by decide +kernel
theorem dX3_readMoving_53 : decode cX3_readMoving 53 = .ok (.aload_n 0, 1) := by decide +kernel
theorem dX3_readMoving_54 : decode cX3_readMoving 54 = .ok (.aload_n 1, 1) := by decide +kernel
theorem dX3_readMoving_55 : decode cX3_readMoving 55 = .ok (.iload_n 2, 1) := by decide +kernel
theorem dX3_readMoving_56 : decode cX3_readMoving 56 = .ok (.bipush 20, 2) := by decide +kernel
theorem dX3_readMoving_58 : decode cX3_readMoving 58 = .ok (.iadd, 1) := by decide +kernel
theorem dX3_readMoving_59 : decode cX3_readMoving 59 = .ok (.iaload, 1) := by decide +kernel
theorem dX3_readMoving_60 : decode cX3_readMoving 60 = .ok (.putfield 21, 3) := by decide +kernel
theorem dX3_readMoving_63 : decode cX3_readMoving 63 = .ok (.return_, 1) := by decide +kernel
theorem dX3_addStage_0 : decode cX3_addStage 0 = .ok (.aload_n 0, 1) := by decide +kernel
theorem dX3_addStage_1 : decode cX3_addStage 1 = .ok (.getfield 24, 3) := by decide +kernel
theorem dX3_addStage_4 : decode cX3_addStage 4 = .ok (.aload_n 0, 1) := by decide +kernel
theorem dX3_addStage_5 : decode cX3_addStage 5 = .ok (.getfield 9, 3) := by decide +kernel
theorem dX3_addStage_8 : decode cX3_addStage 8 = .ok (.iload_n 1, 1) := by decide +kernel
theorem dX3_addStage_9 : decode cX3_addStage 9 = .ok (.iastore, 1) := by decide +kernel
theorem dX3_addStage_10 : decode cX3_addStage 10 = .ok (.aload_n 0, 1) := by decide +kernel
theorem dX3_addStage_11 : decode cX3_addStage 11 = .ok (.getfield 28, 3) := by decide +kernel
theorem dX3_addStage_14 : decode cX3_addStage 14 = .ok (.aload_n 0, 1) := by decide +kernel
theorem dX3_addStage_15 : decode cX3_addStage 15 = .ok (.getfield 9, 3) := by decide +kernel
theorem dX3_addStage_18 : decode cX3_addStage 18 = .ok (.iload_n 2, 1) := by decide +kernel
theorem dX3_addStage_19 : decode cX3_addStage 19 = .ok (.iastore, 1) := by decide +kernel
theorem dX3_addStage_20 : decode cX3_addStage 20 = .ok (.aload_n 0, 1) := by decide +kernel
theorem dX3_addStage_21 : decode cX3_addStage 21 = .ok (.getfield 31, 3) := by decide +kernel
theorem dX3_addStage_24 : decode cX3_addStage 24 = .ok (.aload_n 0, 1) := by decide +kernel
theorem dX3_addStage_25 : decode cX3_addStage 25 = .ok (.getfield 9, 3) := by decide +kernel
theorem dX3_addStage_28 : decode cX3_addStage 28 = .ok (.iload_n 3, 1) := by decide +kernel
theorem dX3_addStage_29 : decode cX3_addStage 29 = .ok (.iastore, 1) := by decide +kernel
theorem dX3_addStage_30 : decode cX3_addStage 30 = .ok (.aload_n 0, 1) := by decide +kernel
theorem dX3_addStage_31 : decode cX3_addStage 31 = .ok (.dup, 1) := by decide +kernel
theorem dX3_addStage_32 : decode cX3_addStage 32 = .ok (.getfield 9, 3) := by decide +kernel
theorem dX3_addStage_35 : decode cX3_addStage 35 = .ok (.iconst 1, 1) := by decide +kernel
theorem dX3_addStage_36 : decode cX3_addStage 36 = .ok (.iadd, 1) := by decide +kernel
theorem dX3_addStage_37 : decode cX3_addStage 37 = .ok (.putfield 9, 3) := by decide +kernel
theorem dX3_addStage_40 : decode cX3_addStage 40 = .ok (.aload_n 0, 1) := by decide +kernel
theorem dX3_addStage_41 : decode cX3_addStage 41 = .ok (.getfield 9, 3) := by decide +kernel
theorem dX3_addStage_44 : decode cX3_addStage 44 = .ok (.iconst 1, 1) := by decide +kernel
theorem dX3_addStage_45 : decode cX3_addStage 45 = .ok (.isub, 1) := by decide +kernel
theorem dX3_addStage_46 : decode cX3_addStage 46 = .ok (.ireturn, 1) := by decide +kernel
theorem dX3_addRider_0 : decode cX3_addRider 0 = .ok (.aload_n 0, 1) := by decide +kernel
theorem dX3_addRider_1 : decode cX3_addRider 1 = .ok (.getfield 34, 3) := by decide +kernel
theorem dX3_addRider_4 : decode cX3_addRider 4 = .ok (.aload_n 0, 1) := by decide +kernel
theorem dX3_addRider_5 : decode cX3_addRider 5 = .ok (.getfield 15, 3) := by decide +kernel
theorem dX3_addRider_8 : decode cX3_addRider 8 = .ok (.iload_n 1, 1) := by decide +kernel
theorem dX3_addRider_9 : decode cX3_addRider 9 = .ok (.iastore, 1) := by decide +kernel
theorem dX3_addRider_10 : decode cX3_addRider 10 = .ok (.aload_n 0, 1) := by decide +kernel
theorem dX3_addRider_11 : decode cX3_addRider 11 = .ok (.getfield 37, 3) := by decide +kernel
theorem dX3_addRider_14 : decode cX3_addRider 14 = .ok (.aload_n 0, 1) := by decide +kernel
theorem dX3_addRider_15 : decode cX3_addRider 15 = .ok (.getfield 15, 3) := by decide +kernel
theorem dX3_addRider_18 : decode cX3_addRider 18 = .ok (.iconst 0, 1) := by decide +kernel
theorem dX3_addRider_19 : decode cX3_addRider 19 = .ok (.iastore, 1) := by decide +kernel
theorem dX3_addRider_20 : decode cX3_addRider 20 = .ok (.aload_n 0, 1) := by decide +kernel
theorem dX3_addRider_21 : decode cX3_addRider 21 = .ok (.getfield 40, 3) := by decide +kernel
theorem dX3_addRider_24 : decode cX3_addRider 24 = .ok (.aload_n 0, 1) := by decide +kernel
theorem dX3_addRider_25 : decode cX3_addRider 25 = .ok (.getfield 15, 3) := by decide +kernel
theorem dX3_addRider_28 : decode cX3_addRider 28 = .ok (.iload_n 2, 1) := by decide +kernel
theorem dX3_addRider_29 : decode cX3_addRider 29 = .ok (.iastore, 1) := by decide +kernel
theorem dX3_addRider_30 : decode cX3_addRider 30 = .ok (.aload_n 0, 1) := by decide +kernel
theorem dX3_addRider_31 : decode cX3_addRider 31 = .ok (.getfield 43, 3) := by decide +kernel
theorem dX3_addRider_34 : decode cX3_addRider 34 = .ok (.aload_n 0, 1) := by decide +kernel
theorem dX3_addRider_35 : decode cX3_addRider 35 = .ok (.getfield 15, 3) := by decide +kernel
theorem dX3_addRider_38 : decode cX3_addRider 38 = .ok (.iload_n 3, 1) := by decide +kernel
theorem dX3_addRider_39 : decode cX3_addRider 39 = .ok (.iastore, 1) := by decide +kernel
theorem dX3_addRider_40 : decode cX3_addRider 40 = .ok (.aload_n 0, 1) := by decide +kernel
theorem dX3_addRider_41 : decode cX3_addRider 41 = .ok (.getfield 46, 3) := by decide +kernel
theorem dX3_addRider_44 : decode cX3_addRider 44 = .ok (.aload_n 0, 1) := by decide +kernel
theorem dX3_addRider_45 : decode cX3_addRider 45 = .ok (.getfield 15, 3) := by decide +kernel
theorem dX3_addRider_48 : decode cX3_addRider 48 = .ok (.iconst 0, 1) := by decide +kernel
theorem dX3_addRider_49 : decode cX3_addRider 49 = .ok (.iastore, 1) := by decide +kernel
theorem dX3_addRider_50 : decode cX3_addRider 50 = .ok (.aload_n 0, 1) := by decide +kernel
theorem dX3_addRider_51 : decode cX3_addRider 51 = .ok (.dup, 1) := by decide +kernel
theorem dX3_addRider_52 : decode cX3_addRider 52 = .ok (.getfield 15, 3) := by decide +kernel
theorem dX3_addRider_55 : decode cX3_addRider 55 = .ok (.iconst 1, 1) := by decide +kernel
theorem dX3_addRider_56 : decode cX3_addRider 56 = .ok (.iadd, 1) := by decide +kernel
theorem dX3_addRider_57 : decode cX3_addRider 57 = .ok (.putfield 15, 3) := by decide +kernel
theorem dX3_addRider_60 : decode cX3_addRider 60 = .ok (.aload_n 0, 1) := by decide +kernel
theorem dX3_addRider_61 : decode cX3_addRider 61 = .ok (.getfield 15, 3) := by decide +kernel
theorem dX3_addRider_64 : decode cX3_addRider 64 = .ok (.iconst 1, 1) := by decide +kernel
theorem dX3_addRider_65 : decode cX3_addRider 65 = .ok (.isub, 1) := by decide +kernel
theorem dX3_addRider_66 : decode cX3_addRider 66 = .ok (.ireturn, 1) := by decide +kernel
theorem dX3_isThere_0 : decode cX3_isThere 0 = .ok (.aload_n 0, 1) := by decide +kernel
theorem dX3_isThere_1 : decode cX3_isThere 1 = .ok (.getfield 37, 3) := by decide +kernel
theorem dX3_isThere_4 : decode cX3_isThere 4 = .ok (.iload_n 1, 1) := by decide +kernel
theorem dX3_isThere_5 : decode cX3_isThere 5 = .ok (.iaload, 1) := by decide +kernel
theorem dX3_isThere_6 : decode cX3_isThere 6 = .ok (.aload_n 0, 1) := by decide +kernel
theorem dX3_isThere_7 : decode cX3_isThere 7 = .ok (.getfield 9, 3) := by decide +kernel
theorem dX3_isThere_10 : decode cX3_isThere 10 = .ok (.if_icmp .lt 7, 3) := by decide +kernel
theorem dX3_isThere_13 : decode cX3_isThere 13 = .ok (.iconst 1, 1) := by decide +kernel
theorem dX3_isThere_14 : decode cX3_isThere 14 = .ok (.goto 4, 3) := by decide +kernel
theorem dX3_isThere_17 : decode cX3_isThere 17 = .ok (.iconst 0, 1) := by decide +kernel
theorem dX3_isThere_18 : decode cX3_isThere 18 = .ok (.ireturn, 1) := by decide +kernel
theorem dX3_whoIsThere_0 : decode cX3_whoIsThere 0 = .ok (.iconst 0, 1) := by decide +kernel
theorem dX3_whoIsThere_1 : decode cX3_whoIsThere 1 = .ok (.istore_n 1, 1) := by decide +kernel
theorem dX3_whoIsThere_2 : decode cX3_whoIsThere 2 = .ok (.iconst 0, 1) := by decide +kernel
theorem dX3_whoIsThere_3 : decode cX3_whoIsThere 3 = .ok (.istore_n 2, 1) := by decide +kernel
theorem dX3_whoIsThere_4 : decode cX3_whoIsThere 4 = .ok (.iload_n 2, 1) := by decide +kernel
theorem dX3_whoIsThere_5 : decode cX3_whoIsThere 5 = .ok (.aload_n 0, 1) := by decide +kernel
theorem dX3_whoIsThere_6 : decode cX3_whoIsThere 6 = .ok (.getfield 15, 3) := by decide +kernel
theorem dX3_whoIsThere_9 : decode cX3_whoIsThere 9 = .ok (.if_icmp .ge 27, 3) := by decide +kernel
theorem dX3_whoIsThere_12 : decode cX3_whoIsThere 12 = .ok (.iload_n 1, 1) := by decide +kernel
theorem dX3_whoIsThere_13 : decode cX3_whoIsThere 13 = .ok (.aload_n 0, 1) := by decide +kernel
theorem dX3_whoIsThere_14 : decode cX3_whoIsThere 14 = .ok (.iload_n 2, 1) := by decide +kernel
theorem dX3_whoIsThere_15 : decode cX3_whoIsThere 15 = .ok (.invokevirtual 59, 3) := by decide +kernel
theorem dX3_whoIsThere_18 : decode cX3_whoIsThere 18 = .ok (.ifCond .eq 9, 3) := by decide +kernel
theorem dX3_whoIsThere_21 : decode cX3_whoIsThere 21 = .ok (.iconst 1, 1) := by decide +kernel
theorem dX3_whoIsThere_22 : decode cX3_whoIsThere 22 = .ok (.iload_n 2, 1) := by decide +kernel
theorem dX3_whoIsThere_23 : decode cX3_whoIsThere 23 = .ok (.ishl, 1) := by decide +kernel
theorem dX3_whoIsThere_24 : decode cX3_whoIsThere 24 = .ok (.goto 4, 3) := by decide +kernel
theorem dX3_whoIsThere_27 : decode cX3_whoIsThere 27 = .ok (.iconst 0, 1) := by decide +kernel
theorem dX3_whoIsThere_28 : decode cX3_whoIsThere 28 = .ok (.ior, 1) := by decide +kernel
theorem dX3_whoIsThere_29 : decode cX3_whoIsThere 29 = .ok (.istore_n 1, 1) := by decide +kernel
theorem dX3_whoIsThere_30 : decode cX3_whoIsThere 30 = .ok (.iinc 2 1, 3) := by decide +kernel
theorem dX3_whoIsThere_33 : decode cX3_whoIsThere 33 = .ok (.goto (-29), 3) := by decide +kernel
theorem dX3_whoIsThere_36 : decode cX3_whoIsThere 36 = .ok (.iload_n 1, 1) := by decide +kernel
theorem dX3_whoIsThere_37 : decode cX3_whoIsThere 37 = .ok (.ireturn, 1) := by decide +kernel
theorem dX3_whoRides_0 : decode cX3_whoRides 0 = .ok (.bipush (-4), 2) := by decide +kernel
theorem dX3_whoRides_2 : decode cX3_whoRides 2 = .ok (.istore_n 1, 1) := by decide +kernel
theorem dX3_whoRides_3 : decode cX3_whoRides 3 = .ok (.iconst 0, 1) := by decide +kernel
theorem dX3_whoRides_4 : decode cX3_whoRides 4 = .ok (.istore_n 2, 1) := by decide +kernel
theorem dX3_whoRides_5 : decode cX3_whoRides 5 = .ok (.iload_n 2, 1) := by decide +kernel
theorem dX3_whoRides_6 : decode cX3_whoRides 6 = .ok (.aload_n 0, 1) := by decide +kernel
theorem dX3_whoRides_7 : decode cX3_whoRides 7 = .ok (.getfield 15, 3) := by decide +kernel
theorem dX3_whoRides_10 : decode cX3_whoRides 10 = .ok (.if_icmp .ge 38, 3) := by decide +kernel
theorem dX3_whoRides_13 : decode cX3_whoRides 13 = .ok (.aload_n 0, 1) := by decide +kernel
theorem dX3_whoRides_14 : decode cX3_whoRides 14 = .ok (.iload_n 2, 1) := by decide +kernel
theorem dX3_whoRides_15 : decode cX3_whoRides 15 = .ok (.invokevirtual 59, 3) := by decide +kernel
theorem dX3_whoRides_18 : decode cX3_whoRides 18 = .ok (.ifCond .ne 24, 3) := by decide +kernel
theorem dX3_whoRides_21 : decode cX3_whoRides 21 = .ok (.iload_n 1, 1) := by decide +kernel
theorem dX3_whoRides_22 : decode cX3_whoRides 22 = .ok (.ifCond .lt 18, 3) := by decide +kernel
theorem dX3_whoRides_25 : decode cX3_whoRides 25 = .ok (.aload_n 0, 1) := by decide +kernel
theorem dX3_whoRides_26 : decode cX3_whoRides 26 = .ok (.getfield 40, 3) := by decide +kernel
theorem dX3_whoRides_29 : decode cX3_whoRides 29 = .ok (.iload_n 2, 1) := by decide +kernel
theorem dX3_whoRides_30 : decode cX3_whoRides 30 = .ok (.iaload, 1) := by decide +kernel
theorem dX3_whoRides_31 : decode cX3_whoRides 31 = .ok (.aload_n 0, 1) := by decide +kernel
theorem dX3_whoRides_32 : decode cX3_whoRides 32 = .ok (.getfield 40, 3) := by decide +kernel
theorem dX3_whoRides_35 : decode cX3_whoRides 35 = .ok (.iload_n 1, 1) := by decide +kernel
theorem dX3_whoRides_36 : decode cX3_whoRides 36 = .ok (.iaload, 1) := by decide +kernel
theorem dX3_whoRides_37 : decode cX3_whoRides 37 = .ok (.if_icmp .ge 5, 3) := by decide +kernel
theorem dX3_whoRides_40 : decode cX3_whoRides 40 = .ok (.iload_n 2, 1) := by decide +kernel
theorem dX3_whoRides_41 : decode cX3_whoRides 41 = .ok (.istore_n 1, 1) := by decide +kernel
theorem dX3_whoRides_42 : decode cX3_whoRides 42 = .ok (.iinc 2 1, 3) := by decide +kernel
theorem dX3_whoRides_45 : decode cX3_whoRides 45 = .ok (.goto (-40), 3) := by decide +kernel
theorem dX3_whoRides_48 : decode cX3_whoRides 48 = .ok (.iload_n 1, 1) := by decide +kernel
theorem dX3_whoRides_49 : decode cX3_whoRides 49 = .ok (.ireturn, 1) := by decide +kernel
theorem dX3_rideStage_0 : decode cX3_rideStage 0 = .ok (.aload_n 0, 1) := by decide +kernel
theorem dX3_rideStage_1 : decode cX3_rideStage 1 = .ok (.getfield 37, 3) := by decide +kernel
theorem dX3_rideStage_4 : decode cX3_rideStage 4 = .ok (.iload_n 1, 1) := by decide +kernel
theorem dX3_rideStage_5 : decode cX3_rideStage 5 = .ok (.iaload, 1) := by decide +kernel
theorem dX3_rideStage_6 : decode cX3_rideStage 6 = .ok (.istore_n 3, 1) := by decide +kernel
theorem dX3_rideStage_7 : decode cX3_rideStage 7 = .ok (.aload_n 0, 1) := by decide +kernel
theorem dX3_rideStage_8 : decode cX3_rideStage 8 = .ok (.getfield 46, 3) := by decide +kernel
theorem dX3_rideStage_11 : decode cX3_rideStage 11 = .ok (.iload_n 1, 1) := by decide +kernel
theorem dX3_rideStage_12 : decode cX3_rideStage 12 = .ok (.iaload, 1) := by decide +kernel
theorem dX3_rideStage_13 : decode cX3_rideStage 13 = .ok (.iload_n 3, 1) := by decide +kernel
theorem dX3_rideStage_14 : decode cX3_rideStage 14 = .ok (.invokestatic 63, 3) := by decide +kernel
theorem dX3_rideStage_17 : decode cX3_rideStage 17 = .ok (.ifCond .eq 29, 3) := by decide +kernel
theorem dX3_rideStage_20 : decode cX3_rideStage 20 = .ok (.aload_n 0, 1) := by decide +kernel
theorem dX3_rideStage_21 : decode cX3_rideStage 21 = .ok (.getfield 31, 3) := by decide +kernel
theorem dX3_rideStage_24 : decode cX3_rideStage 24 = .ok (.iload_n 3, 1) := by decide +kernel
theorem dX3_rideStage_25 : decode cX3_rideStage 25 = .ok (.iaload, 1) := by decide +kernel
theorem dX3_rideStage_26 : decode cX3_rideStage 26 = .ok (.ifCond .le 20, 3) := by decide +kernel
theorem dX3_rideStage_29 : decode cX3_rideStage 29 = .ok (.aload_n 0, 1) := by decide +kernel
theorem dX3_rideStage_30 : decode cX3_rideStage 30 = .ok (.getfield 43, 3) := by decide +kernel
theorem dX3_rideStage_33 : decode cX3_rideStage 33 = .ok (.iload_n 1, 1) := by decide +kernel
theorem dX3_rideStage_34 : decode cX3_rideStage 34 = .ok (.iaload, 1) := by decide +kernel
theorem dX3_rideStage_35 : decode cX3_rideStage 35 = .ok (.aload_n 0, 1) := by decide +kernel
theorem dX3_rideStage_36 : decode cX3_rideStage 36 = .ok (.getfield 18, 3) := by decide +kernel
theorem dX3_rideStage_39 : decode cX3_rideStage 39 = .ok (.if_icmp .lt 7, 3) := by decide +kernel
theorem dX3_rideStage_42 : decode cX3_rideStage 42 = .ok (.iconst 1, 1) := by decide +kernel
theorem dX3_rideStage_43 : decode cX3_rideStage 43 = .ok (.goto 4, 3) := by decide +kernel
theorem dX3_rideStage_46 : decode cX3_rideStage 46 = .ok (.iconst 0, 1) := by decide +kernel
theorem dX3_rideStage_47 : decode cX3_rideStage 47 = .ok (.istore 4, 2) := by decide +kernel
theorem dX3_rideStage_49 : decode cX3_rideStage 49 = .ok (.iload 4, 2) := by decide +kernel
theorem dX3_rideStage_51 : decode cX3_rideStage 51 = .ok (.ifCond .eq 26, 3) := by decide +kernel
theorem dX3_rideStage_54 : decode cX3_rideStage 54 = .ok (.aload_n 0, 1) := by decide +kernel
theorem dX3_rideStage_55 : decode cX3_rideStage 55 = .ok (.getfield 43, 3) := by decide +kernel
theorem dX3_rideStage_58 : decode cX3_rideStage 58 = .ok (.iload_n 1, 1) := by decide +kernel
theorem dX3_rideStage_59 : decode cX3_rideStage 59 = .ok (.dup2, 1) := by decide +kernel
theorem dX3_rideStage_60 : decode cX3_rideStage 60 = .ok (.iaload, 1) := by decide +kernel
theorem dX3_rideStage_61 : decode cX3_rideStage 61 = .ok (.aload_n 0, 1) := by decide +kernel
theorem dX3_rideStage_62 : decode cX3_rideStage 62 = .ok (.getfield 18, 3) := by decide +kernel
theorem dX3_rideStage_65 : decode cX3_rideStage 65 = .ok (.isub, 1) := by decide +kernel
theorem dX3_rideStage_66 : decode cX3_rideStage 66 = .ok (.iastore, 1) := by decide +kernel
theorem dX3_rideStage_67 : decode cX3_rideStage 67 = .ok (.aload_n 0, 1) := by decide +kernel
theorem dX3_rideStage_68 : decode cX3_rideStage 68 = .ok (.getfield 31, 3) := by decide +kernel
theorem dX3_rideStage_71 : decode cX3_rideStage 71 = .ok (.iload_n 3, 1) := by decide +kernel
theorem dX3_rideStage_72 : decode cX3_rideStage 72 = .ok (.dup2, 1) := by decide +kernel
theorem dX3_rideStage_73 : decode cX3_rideStage 73 = .ok (.iaload, 1) := by decide +kernel
theorem dX3_rideStage_74 : decode cX3_rideStage 74 = .ok (.iconst 1, 1) := by decide +kernel
theorem dX3_rideStage_75 : decode cX3_rideStage 75 = .ok (.isub, 1) := by decide +kernel
theorem dX3_rideStage_76 : decode cX3_rideStage 76 = .ok (.iastore, 1) := by decide +kernel
theorem dX3_rideStage_77 : decode cX3_rideStage 77 = .ok (.aload_n 0, 1) := by decide +kernel
theorem dX3_rideStage_78 : decode cX3_rideStage 78 = .ok (.getfield 43, 3) := by decide +kernel
theorem dX3_rideStage_81 : decode cX3_rideStage 81 = .ok (.iload_n 1, 1) := by decide +kernel
theorem dX3_rideStage_82 : decode cX3_rideStage 82 = .ok (.iaload, 1) := by decide +kernel
theorem dX3_rideStage_83 : decode cX3_rideStage 83 = .ok (.aload_n 0, 1) := by decide +kernel
theorem dX3_rideStage_84 : decode cX3_rideStage 84 = .ok (.getfield 28, 3) := by decide +kernel
theorem dX3_rideStage_87 : decode cX3_rideStage 87 = .ok (.iload_n 3, 1) := by decide +kernel
theorem dX3_rideStage_88 : decode cX3_rideStage 88 = .ok (.iaload, 1) := by decide +kernel
theorem dX3_rideStage_89 : decode cX3_rideStage 89 = .ok (.if_icmp .lt 21, 3) := by decide +kernel
theorem dX3_rideStage_92 : decode cX3_rideStage 92 = .ok (.aload_n 0, 1) := by decide +kernel
theorem dX3_rideStage_93 : decode cX3_rideStage 93 = .ok (.getfield 43, 3) := by decide +kernel
theorem dX3_rideStage_96 : decode cX3_rideStage 96 = .ok (.iload_n 1, 1) := by decide +kernel
theorem dX3_rideStage_97 : decode cX3_rideStage 97 = .ok (.dup2, 1) := by decide +kernel
theorem dX3_rideStage_98 : decode cX3_rideStage 98 = .ok (.iaload, 1) := by decide +kernel
theorem dX3_rideStage_99 : decode cX3_rideStage 99 = .ok (.aload_n 0, 1) := by decide +kernel
theorem dX3_rideStage_100 : decode cX3_rideStage 100 = .ok (.getfield 28, 3) := by decide +kernel
theorem dX3_rideStage_103 : decode cX3_rideStage 103 = .ok (.iload_n 3, 1) := by decide +kernel
theorem dX3_rideStage_104 : decode cX3_rideStage 104 = .ok (.iaload, 1) := by decide +kernel
theorem dX3_rideStage_105 : decode cX3_rideStage 105 = .ok (.isub, 1) := by decide +kernel
theorem dX3_rideStage_106 : decode cX3_rideStage 106 = .ok (.iastore, 1) := by decide +kernel
theorem dX3_rideStage_107 : decode cX3_rideStage 107 = .ok (.goto 14, 3) := by decide +kernel
theorem dX3_rideStage_110 : decode cX3_rideStage 110 = .ok (.aload_n 0, 1) := by decide +kernel
theorem dX3_rideStage_111 : decode cX3_rideStage 111 = .ok (.getfield 40, 3) := by decide +kernel
theorem dX3_rideStage_114 : decode cX3_rideStage 114 = .ok (.iload_n 1, 1) := by decide +kernel
theorem dX3_rideStage_115 : decode cX3_rideStage 115 = .ok (.dup2, 1) := by decide +kernel
theorem dX3_rideStage_116 : decode cX3_rideStage 116 = .ok (.iaload, 1) := by decide +kernel
theorem dX3_rideStage_117 : decode cX3_rideStage 117 = .ok (.bipush 10, 2) := by decide +kernel
theorem dX3_rideStage_119 : decode cX3_rideStage 119 = .ok (.iadd, 1) := by decide +kernel
theorem dX3_rideStage_120 : decode cX3_rideStage 120 = .ok (.iastore, 1) := by decide +kernel
theorem dX3_rideStage_121 : decode cX3_rideStage 121 = .ok (.aload_n 0, 1) := by decide +kernel
theorem dX3_rideStage_122 : decode cX3_rideStage 122 = .ok (.getfield 40, 3) := by decide +kernel
theorem dX3_rideStage_125 : decode cX3_rideStage 125 = .ok (.iload_n 1, 1) := by decide +kernel
theorem dX3_rideStage_126 : decode cX3_rideStage 126 = .ok (.dup2, 1) := by decide +kernel
theorem dX3_rideStage_127 : decode cX3_rideStage 127 = .ok (.iaload, 1) := by decide +kernel
theorem dX3_rideStage_128 : decode cX3_rideStage 128 = .ok (.aload_n 0, 1) := by decide +kernel
theorem dX3_rideStage_129 : decode cX3_rideStage 129 = .ok (.getfield 34, 3) := by decide +kernel
theorem dX3_rideStage_132 : decode cX3_rideStage 132 = .ok (.iload_n 1, 1) := by decide +kernel
theorem dX3_rideStage_133 : decode cX3_rideStage 133 = .ok (.iaload, 1) := by decide +kernel
theorem dX3_rideStage_134 : decode cX3_rideStage 134 = .ok (.aload_n 0, 1) := by decide +kernel
theorem dX3_rideStage_135 : decode cX3_rideStage 135 = .ok (.getfield 24, 3) := by decide +kernel
theorem dX3_rideStage_138 : decode cX3_rideStage 138 = .ok (.iload_n 3, 1) := by decide +kernel
theorem dX3_rideStage_139 : decode cX3_rideStage 139 = .ok (.iaload, 1) := by decide +kernel
theorem dX3_rideStage_140 : decode cX3_rideStage 140 = .ok (.iload 4, 2) := by decide +kernel
theorem dX3_rideStage_142 : decode cX3_rideStage 142 = .ok (.invokestatic 67, 3) := by decide +kernel
theorem dX3_rideStage_145 : decode cX3_rideStage 145 = .ok (.iload_n 2, 1) := by decide +kernel
theorem dX3_rideStage_146 : decode cX3_rideStage 146 = .ok (.iadd, 1) := by decide +kernel
theorem dX3_rideStage_147 : decode cX3_rideStage 147 = .ok (.iadd, 1) := by decide +kernel
theorem dX3_rideStage_148 : decode cX3_rideStage 148 = .ok (.iastore, 1) := by decide +kernel
theorem dX3_rideStage_149 : decode cX3_rideStage 149 = .ok (.aload_n 0, 1) := by decide +kernel
theorem dX3_rideStage_150 : decode cX3_rideStage 150 = .ok (.getfield 37, 3) := by decide +kernel
theorem dX3_rideStage_153 : decode cX3_rideStage 153 = .ok (.iload_n 1, 1) := by decide +kernel
theorem dX3_rideStage_154 : decode cX3_rideStage 154 = .ok (.iload_n 3, 1) := by decide +kernel
theorem dX3_rideStage_155 : decode cX3_rideStage 155 = .ok (.iconst 1, 1) := by decide +kernel
theorem dX3_rideStage_156 : decode cX3_rideStage 156 = .ok (.iadd, 1) := by decide +kernel
theorem dX3_rideStage_157 : decode cX3_rideStage 157 = .ok (.iastore, 1) := by decide +kernel
theorem dX3_rideStage_158 : decode cX3_rideStage 158 = .ok (.return_, 1) := by decide +kernel
theorem dX3_drawWheel_0 : decode cX3_drawWheel 0 = .ok (.aload_n 0, 1) := by decide +kernel
theorem dX3_drawWheel_1 : decode cX3_drawWheel 1 = .ok (.aload_n 0, 1) := by decide +kernel
theorem dX3_drawWheel_2 : decode cX3_drawWheel 2 = .ok (.getfield 21, 3) := by decide +kernel
theorem dX3_drawWheel_5 : decode cX3_drawWheel 5 = .ok (.ldc 71, 2) := by decide +kernel
theorem dX3_drawWheel_7 : decode cX3_drawWheel 7 = .ok (.imul, 1) := by decide +kernel
theorem dX3_drawWheel_8 : decode cX3_drawWheel 8 = .ok (.sipush 12345, 3) := by decide +kernel
theorem dX3_drawWheel_11 : decode cX3_drawWheel 11 = .ok (.iadd, 1) := by decide +kernel
theorem dX3_drawWheel_12 : decode cX3_drawWheel 12 = .ok (.ldc 72, 2) := by decide +kernel
theorem dX3_drawWheel_14 : decode cX3_drawWheel 14 = .ok (.iand, 1) := by decide +kernel
theorem dX3_drawWheel_15 : decode cX3_drawWheel 15 = .ok (.putfield 21, 3) := by decide +kernel
theorem dX3_drawWheel_18 : decode cX3_drawWheel 18 = .ok (.aload_n 0, 1) := by decide +kernel
theorem dX3_drawWheel_19 : decode cX3_drawWheel 19 = .ok (.getfield 21, 3) := by decide +kernel
theorem dX3_drawWheel_22 : decode cX3_drawWheel 22 = .ok (.ldc 73, 2) := by decide +kernel
theorem dX3_drawWheel_24 : decode cX3_drawWheel 24 = .ok (.idiv, 1) := by decide +kernel
theorem dX3_drawWheel_25 : decode cX3_drawWheel 25 = .ok (.bipush 6, 2) := by decide +kernel
theorem dX3_drawWheel_27 : decode cX3_drawWheel 27 = .ok (.irem, 1) := by decide +kernel
theorem dX3_drawWheel_28 : decode cX3_drawWheel 28 = .ok (.ifCond .ne 7, 3) := by decide +kernel
theorem dX3_drawWheel_31 : decode cX3_drawWheel 31 = .ok (.iconst 1, 1) := by decide +kernel
theorem dX3_drawWheel_32 : decode cX3_drawWheel 32 = .ok (.goto 4, 3) := by decide +kernel
theorem dX3_drawWheel_35 : decode cX3_drawWheel 35 = .ok (.iconst 0, 1) := by decide +kernel
theorem dX3_drawWheel_36 : decode cX3_drawWheel 36 = .ok (.ireturn, 1) := by decide +kernel
theorem dX4_init_0 : decode cX4_init 0 = .ok (.aload_n 0, 1) := by decide +kernel
theorem dX4_init_1 : decode cX4_init 1 = .ok (.invokespecial 3, 3) := by decide +kernel
theorem dX4_init_4 : decode cX4_init 4 = .ok (.aload_n 0, 1) := by decide +kernel
theorem dX4_init_5 : decode cX4_init 5 = .ok (.new 9, 3) := by decide +kernel
theorem dX4_init_8 : decode cX4_init 8 = .ok (.dup, 1) := by decide +kernel
theorem dX4_init_9 : decode cX4_init 9 = .ok (.invokespecial 11, 3) := by decide +kernel
theorem dX4_init_12 : decode cX4_init 12 = .ok (.putfield 12, 3) := by decide +kernel
theorem dX4_init_15 : decode cX4_init 15 = .ok (.aload_n 0, 1) := by decide +kernel
theorem dX4_init_16 : decode cX4_init 16 = .ok (.bipush 90, 2) := by decide +kernel
theorem dX4_init_18 : decode cX4_init 18 = .ok (.newarray .int, 2) := by decide +kernel
theorem dX4_init_20 : decode cX4_init 20 = .ok (.putfield 18, 3) := by decide +kernel
theorem dX4_init_23 : decode cX4_init 23 = .ok (.aload_n 0, 1) := by decide +kernel
theorem dX4_init_24 : decode cX4_init 24 = .ok (.iconst 0, 1) := by decide +kernel
theorem dX4_init_25 : decode cX4_init 25 = .ok (.putfield 22, 3) := by decide +kernel
theorem dX4_init_28 : decode cX4_init 28 = .ok (.aload_n 0, 1) := by decide +kernel
theorem dX4_init_29 : decode cX4_init 29 = .ok (.iconst 0, 1) := by decide +kernel
theorem dX4_init_30 : decode cX4_init 30 = .ok (.putfield 26, 3) := by decide +kernel
theorem dX4_init_33 : decode cX4_init 33 = .ok (.return_, 1) := by decide +kernel
theorem dX4_isFull_0 : decode cX4_isFull 0 = .ok (.aload_n 0, 1) := by decide +kernel
theorem dX4_isFull_1 : decode cX4_isFull 1 = .ok (.getfield 22, 3) := by decide +kernel
theorem dX4_isFull_4 : decode cX4_isFull 4 = .ok (.bipush 90, 2) := by decide +kernel
theorem dX4_isFull_6 : decode cX4_isFull 6 = .ok (.if_icmp .lt 7, 3) := by decide +kernel
theorem dX4_isFull_9 : decode cX4_isFull 9 = .ok (.iconst 1, 1) := by decide +kernel
theorem dX4_isFull_10 : decode cX4_isFull 10 = .ok (.goto 4, 3) := by decide +kernel
theorem dX4_isFull_13 : decode cX4_isFull 13 = .ok (.iconst 0, 1) := by decide +kernel
theorem dX4_isFull_14 : decode cX4_isFull 14 = .ok (.ireturn, 1) := by decide +kernel
theorem dX4_append_0 : decode cX4_append 0 = .ok (.aload_n 0, 1) := by decide +kernel
theorem dX4_append_1 : decode cX4_append 1 = .ok (.getfield 18, 3) := by decide +kernel
theorem dX4_append_4 : decode cX4_append 4 = .ok (.aload_n 0, 1) := by decide +kernel
theorem dX4_append_5 : decode cX4_append 5 = .ok (.getfield 22, 3) := by decide +kernel
theorem dX4_append_8 : decode cX4_append 8 = .ok (.iload_n 1, 1) := by decide +kernel
theorem dX4_append_9 : decode cX4_append 9 = .ok (.iastore, 1) := by decide +kernel
theorem dX4_append_10 : decode cX4_append 10 = .ok (.aload_n 0, 1) := by decide +kernel
theorem dX4_append_11 : decode cX4_append 11 = .ok (.dup, 1) := by decide +kernel
theorem dX4_append_12 : decode cX4_append 12 = .ok (.getfield 22, 3) := by decide +kernel
theorem dX4_append_15 : decode cX4_append 15 = .ok (.iconst 1, 1) := by decide +kernel
theorem dX4_append_16 : decode cX4_append 16 = .ok (.iadd, 1) := by decide +kernel
theorem dX4_append_17 : decode cX4_append 17 = .ok (.putfield 22, 3) := by decide +kernel
theorem dX4_append_20 : decode cX4_append 20 = .ok (.aload_n 0, 1) := by decide +kernel
theorem dX4_append_21 : decode cX4_append 21 = .ok (.getfield 22, 3) := by decide +kernel
theorem dX4_append_24 : decode cX4_append 24 = .ok (.ireturn, 1) := by decide +kernel
theorem dX4_readRoad_0 : decode cX4_readRoad 0 = .ok (.aload_n 0, 1) := by decide +kernel
theorem dX4_readRoad_1 : decode cX4_readRoad 1 = .ok (.iconst 0, 1) := by decide +kernel
theorem dX4_readRoad_2 : decode cX4_readRoad 2 = .ok (.putfield 26, 3) := by decide +kernel
theorem dX4_readRoad_5 : decode cX4_readRoad 5 = .ok (.aload_n 0, 1) := by decide +kernel
theorem dX4_readRoad_6 : decode cX4_readRoad 6 = .ok (.getfield 12, 3) := by decide +kernel
theorem dX4_readRoad_9 : decode cX4_readRoad 9 = .ok (.iconst 0, 1) := by decide +kernel
theorem dX4_readRoad_10 : decode cX4_readRoad 10 = .ok (.putfield 29, 3) := by decide +kernel
theorem dX4_readRoad_13 : decode cX4_readRoad 13 = .ok (.aload_n 0, 1) := by decide +kernel
theorem dX4_readRoad_14 : decode cX4_readRoad 14 = .ok (.getfield 12, 3) := by decide +kernel
theorem dX4_readRoad_17 : decode cX4_readRoad 17 = .ok (.iconst 0, 1) := by decide +kernel
theorem dX4_readRoad_18 : decode cX4_readRoad 18 = .ok (.putfield 32, 3) := by decide +kernel
theorem dX4_readRoad_21 : decode cX4_readRoad 21 = .ok (.aload_n 0, 1) := by decide +kernel
theorem dX4_readRoad_22 : decode cX4_readRoad 22 = .ok (.invokevirtual 35, 3) := by decide +kernel
theorem dX4_readRoad_25 : decode cX4_readRoad 25 = .ok (.ifCond .eq 20, 3) := by decide +kernel
theorem dX4_readRoad_28 : decode cX4_readRoad 28 = .ok (.aload_n 0, 1) := by decide +kernel
theorem dX4_readRoad_29 : decode cX4_readRoad 29 = .ok (.invokevirtual 39, 3) := by decide +kernel
theorem dX4_readRoad_32 : decode cX4_readRoad 32 = .ok (.ifCond .eq 13, 3) := by decide +kernel
theorem dX4_readRoad_35 : decode cX4_readRoad 35 = .ok (.aload_n 0, 1) := by decide +kernel
theorem dX4_readRoad_36 : decode cX4_readRoad 36 = .ok (.getfield 12, 3) := by decide +kernel
theorem dX4_readRoad_39 : decode cX4_readRoad 39 = .ok (.getfield 32, 3) := by decide +kernel
theorem dX4_readRoad_42 : decode cX4_readRoad 42 = .ok (.goto 10, 3) := by decide +kernel
theorem dX4_readRoad_45 : decode cX4_readRoad 45 = .ok (.bipush (-20), 2) := by decide +kernel
theorem dX4_readRoad_47 : decode cX4_readRoad 47 = .ok (.aload_n 0, 1) := by decide +kernel
theorem dX4_readRoad_48 : decode cX4_readRoad 48 = .ok (.getfield 26, 3) := by decide +kernel
theorem dX4_readRoad_51 : decode cX4_readRoad 51 = .ok (.isub, 1) := by decide +kernel
theorem dX4_readRoad_52 : decode cX4_readRoad 52 = .ok (.istore_n 1, 1) := by decide +kernel
theorem dX4_readRoad_53 : decode cX4_readRoad 53 = .ok (.aload_n 0, 1) := by decide +kernel
theorem dX4_readRoad_54 : decode cX4_readRoad 54 = .ok (.iconst 0, 1) := by decide +kernel
theorem dX4_readRoad_55 : decode cX4_readRoad 55 = .ok (.putfield 22, 3) := by decide +kernel
theorem dX4_readRoad_58 : decode cX4_readRoad 58 = .ok (.iload_n 1, 1) := by decide +kernel
theorem dX4_readRoad_59 : decode cX4_readRoad 59 = .ok (.ireturn, 1) := by decide +kernel
theorem dX4_readStages_0 : decode cX4_readStages 0 = .ok (.iconst 0, 1) := by decide +kernel
theorem dX4_readStages_1 : decode cX4_readStages 1 = .ok (.istore_n 1, 1) := by decide +kernel
theorem dX4_readStages_2 : decode cX4_readStages 2 = .ok (.iload_n 1, 1) := by decide +kernel
theorem dX4_readStages_3 : decode cX4_readStages 3 = .ok (.bipush 8, 2) := by decide +kernel
theorem dX4_readStages_5 : decode cX4_readStages 5 = .ok (.if_icmp .ge 46, 3) := by decide +kernel
theorem dX4_readStages_8 : decode cX4_readStages 8 = .ok (.aload_n 0, 1) := by decide +kernel
theorem dX4_readStages_9 : decode cX4_readStages 9 = .ok (.invokevirtual 42, 3) := by decide +kernel
theorem dX4_readStages_12 : decode cX4_readStages 12 = .ok (.ifCond .ne 5, 3) := by decide +kernel
theorem dX4_readStages_15 : decode cX4_readStages 15 = .ok (.iconst 0, 1) := by decide +kernel
theorem dX4_readStages_16 : decode cX4_readStages 16 = .ok (.ireturn, 1) := by decide +kernel
theorem dX4_readStages_17 : decode cX4_readStages 17 = .ok (.aload_n 0, 1) := by decide +kernel
theorem dX4_readStages_18 : decode cX4_readStages 18 = .ok (.bipush 59, 2) := by decide +kernel
theorem dX4_readStages_20 : decode cX4_readStages 20 = .ok (.invokevirtual 45, 3) := by decide +kernel
theorem dX4_readStages_23 : decode cX4_readStages 23 = .ok (.ifCond .eq 5, 3) := by decide +kernel
theorem dX4_readStages_26 : decode cX4_readStages 26 = .ok (.iconst 1, 1) := by decide +kernel
theorem dX4_readStages_27 : decode cX4_readStages 27 = .ok (.ireturn, 1) := by decide +kernel
theorem dX4_readStages_28 : decode cX4_readStages 28 = .ok (.iload_n 1, 1) := by decide +kernel
theorem dX4_readStages_29 : decode cX4_readStages 29 = .ok (.bipush 7, 2) := by decide +kernel
theorem dX4_readStages_31 : decode cX4_readStages 31 = .ok (.if_icmp .eq 12, 3) := by decide +kernel
theorem dX4_readStages_34 : decode cX4_readStages 34 = .ok (.aload_n 0, 1) := by decide +kernel
theorem dX4_readStages_35 : decode cX4_readStages 35 = .ok (.bipush 44, 2) := by decide +kernel
theorem dX4_readStages_37 : decode cX4_readStages 37 = .ok (.invokevirtual 45, 3) := by decide +kernel
theorem dX4_readStages_40 : decode cX4_readStages 40 = .ok (.ifCond .ne 5, 3) := by decide +kernel
theorem dX4_readStages_43 : decode cX4_readStages 43 = .ok (.iconst 0, 1) := by decide +kernel
theorem dX4_readStages_44 : decode cX4_readStages 44 = .ok (.ireturn, 1) := by decide +kernel
theorem dX4_readStages_45 : decode cX4_readStages 45 = .ok (.iinc 1 1, 3) := by decide +kernel
theorem dX4_readStages_48 : decode cX4_readStages 48 = .ok (.goto (-46), 3) := by decide +kernel
theorem dX4_readStages_51 : decode cX4_readStages 51 = .ok (.iconst 0, 1) := by decide +kernel
theorem dX4_readStages_52 : decode cX4_readStages 52 = .ok (.ireturn, 1) := by decide +kernel
theorem dX4_readStage_0 : decode cX4_readStage 0 = .ok (.aload_n 0, 1) := by decide +kernel
theorem dX4_readStage_1 : decode cX4_readStage 1 = .ok (.iconst 1, 1) := by decide +kernel
theorem dX4_readStage_2 : decode cX4_readStage 2 = .ok (.bipush 9, 2) := by decide +kernel
theorem dX4_readStage_4 : decode cX4_readStage 4 = .ok (.invokevirtual 49, 3) := by decide +kernel
theorem dX4_readStage_7 : decode cX4_readStage 7 = .ok (.istore_n 1, 1) := by decide +kernel
theorem dX4_readStage_8 : decode cX4_readStage 8 = .ok (.iload_n 1, 1) := by decide +kernel
theorem dX4_readStage_9 : decode cX4_readStage 9 = .ok (.ifCond .ge 7, 3) := by decide +kernel
theorem dX4_readStage_12 : decode cX4_readStage 12 = .ok (.iconst (-1), 1) := by decide +kernel
theorem dX4_readStage_13 : decode cX4_readStage 13 = .ok (.goto 10, 3) := by decide +kernel
theorem dX4_readStage_16 : decode cX4_readStage 16 = .ok (.aload_n 0, 1) := by decide +kernel
theorem dX4_readStage_17 : decode cX4_readStage 17 = .ok (.iconst 0, 1) := by decide +kernel
theorem dX4_readStage_18 : decode cX4_readStage 18 = .ok (.bipush 9, 2) := by decide +kernel
theorem dX4_readStage_20 : decode cX4_readStage 20 = .ok (.invokevirtual 49, 3) := by decide +kernel
theorem dX4_readStage_23 : decode cX4_readStage 23 = .ok (.istore_n 2, 1) := by decide +kernel
theorem dX4_readStage_24 : decode cX4_readStage 24 = .ok (.iload_n 2, 1) := by decide +kernel
theorem dX4_readStage_25 : decode cX4_readStage 25 = .ok (.ifCond .ge 7, 3) := by decide +kernel
theorem dX4_readStage_28 : decode cX4_readStage 28 = .ok (.iconst (-1), 1) := by decide +kernel
theorem dX4_readStage_29 : decode cX4_readStage 29 = .ok (.goto 9, 3) := by decide +kernel
theorem dX4_readStage_32 : decode cX4_readStage 32 = .ok (.aload_n 0, 1) := by decide +kernel
theorem dX4_readStage_33 : decode cX4_readStage 33 = .ok (.iconst 0, 1) := by decide +kernel
theorem dX4_readStage_34 : decode cX4_readStage 34 = .ok (.iconst 4, 1) := by decide +kernel
theorem dX4_readStage_35 : decode cX4_readStage 35 = .ok (.invokevirtual 49, 3) := by decide +kernel
theorem dX4_readStage_38 : decode cX4_readStage 38 = .ok (.istore_n 3, 1) := by decide +kernel
theorem dX4_readStage_39 : decode cX4_readStage 39 = .ok (.iload_n 3, 1) := by decide +kernel
theorem dX4_readStage_40 : decode cX4_readStage 40 = .ok (.ifCond .ge 5, 3) := by decide +kernel
theorem dX4_readStage_43 : decode cX4_readStage 43 = .ok (.iconst 0, 1) := by decide +kernel
theorem dX4_readStage_44 : decode cX4_readStage 44 = .ok (.ireturn, 1) := by decide +kernel
theorem dX4_readStage_45 : decode cX4_readStage 45 = .ok (.aload_n 0, 1) := by decide +kernel
theorem dX4_readStage_46 : decode cX4_readStage 46 = .ok (.getfield 12, 3) := by decide +kernel
theorem dX4_readStage_49 : decode cX4_readStage 49 = .ok (.iload_n 1, 1) := by decide +kernel
theorem dX4_readStage_50 : decode cX4_readStage 50 = .ok (.iload_n 2, 1) := by decide +kernel
theorem dX4_readStage_51 : decode cX4_readStage 51 = .ok (.iload_n 3, 1) := by decide +kernel
theorem dX4_readStage_52 : decode cX4_readStage 52 = .ok (.invokevirtual 53, 3) := by decide +kernel
theorem dX4_readStage_55 : decode cX4_readStage 55 = .ok (.pop, 1) := by decide +kernel
theorem dX4_readStage_56 : decode cX4_readStage 56 = .ok (.iconst 1, 1) := by decide +kernel
theorem dX4_readStage_57 : decode cX4_readStage 57 = .ok (.ireturn, 1) := by decide +kernel
theorem dX4_readRiders_0 : decode cX4_readRiders 0 = .ok (.iconst 0, 1) := by decide +kernel
theorem dX4_readRiders_1 : decode cX4_readRiders 1 = .ok (.istore_n 1, 1) := by decide +kernel
theorem dX4_readRiders_2 : decode cX4_readRiders 2 = .ok (.iload_n 1, 1) := by decide +kernel
theorem dX4_readRiders_3 : decode cX4_readRiders 3 = .ok (.iconst 4, 1) := by decide +kernel
theorem dX4_readRiders_4 : decode cX4_readRiders 4 = .ok (.if_icmp .ge 43, 3) := by decide +kernel
theorem dX4_readRiders_7 : decode cX4_readRiders 7 = .ok (.aload_n 0, 1) := by decide +kernel
theorem dX4_readRiders_8 : decode cX4_readRiders 8 = .ok (.invokevirtual 57, 3) := by decide +kernel
theorem dX4_readRiders_11 : decode cX4_readRiders 11 = .ok (.ifCond .ne 5, 3) := by decide +kernel
theorem dX4_readRiders_14 : decode cX4_readRiders 14 = .ok (.iconst 0, 1) := by decide +kernel
theorem dX4_readRiders_15 : decode cX4_readRiders 15 = .ok (.ireturn, 1) := by decide +kernel
theorem dX4_readRiders_16 : decode cX4_readRiders 16 = .ok (.aload_n 0, 1) := by decide +kernel
theorem dX4_readRiders_17 : decode cX4_readRiders 17 = .ok (.invokevirtual 60, 3) := by decide +kernel
theorem dX4_readRiders_20 : decode cX4_readRiders 20 = .ok (.ifCond .ne 5, 3) := by decide +kernel
theorem dX4_readRiders_23 : decode cX4_readRiders 23 = .ok (.iconst 1, 1) := by decide +kernel
theorem dX4_readRiders_24 : decode cX4_readRiders 24 = .ok (.ireturn, 1) := by decide +kernel
theorem dX4_readRiders_25 : decode cX4_readRiders 25 = .ok (.iload_n 1, 1) := by decide +kernel
theorem dX4_readRiders_26 : decode cX4_readRiders 26 = .ok (.iconst 3, 1) := by decide +kernel
theorem dX4_readRiders_27 : decode cX4_readRiders 27 = .ok (.if_icmp .eq 12, 3) := by decide +kernel
theorem dX4_readRiders_30 : decode cX4_readRiders 30 = .ok (.aload_n 0, 1) := by decide +kernel
theorem dX4_readRiders_31 : decode cX4_readRiders 31 = .ok (.bipush 44, 2) := by decide +kernel
theorem dX4_readRiders_33 : decode cX4_readRiders 33 = .ok (.invokevirtual 45, 3) := by decide +kernel
theorem dX4_readRiders_36 : decode cX4_readRiders 36 = .ok (.ifCond .ne 5, 3) := by decide +kernel
theorem dX4_readRiders_39 : decode cX4_readRiders 39 = .ok (.iconst 0, 1) := by decide +kernel
theorem dX4_readRiders_40 : decode cX4_readRiders 40 = .ok (.ireturn, 1) := by decide +kernel
theorem dX4_readRiders_41 : decode cX4_readRiders 41 = .ok (.iinc 1 1, 3) := by decide +kernel
theorem dX4_readRiders_44 : decode cX4_readRiders 44 = .ok (.goto (-42), 3) := by decide +kernel
theorem dX4_readRiders_47 : decode cX4_readRiders 47 = .ok (.iconst 0, 1) := by decide +kernel
theorem dX4_readRiders_48 : decode cX4_readRiders 48 = .ok (.ireturn, 1) := by decide +kernel
theorem dX4_readRider_0 : decode cX4_readRider 0 = .ok (.aload_n 0, 1) := by decide +kernel
theorem dX4_readRider_1 : decode cX4_readRider 1 = .ok (.invokevirtual 60, 3) := by decide +kernel
theorem dX4_readRider_4 : decode cX4_readRider 4 = .ok (.invokestatic 64, 3) := by decide +kernel
theorem dX4_readRider_7 : decode cX4_readRider 7 = .ok (.istore_n 1, 1) := by decide +kernel
theorem dX4_readRider_8 : decode cX4_readRider 8 = .ok (.iload_n 1, 1) := by decide +kernel
theorem dX4_readRider_9 : decode cX4_readRider 9 = .ok (.ifCond .ge 5, 3) := by decide +kernel
theorem dX4_readRider_12 : decode cX4_readRider 12 = .ok (.iconst 0, 1) := by decide +kernel
theorem dX4_readRider_13 : decode cX4_readRider 13 = .ok (.ireturn, 1) := by decide +kernel
theorem dX4_readRider_14 : decode cX4_readRider 14 = .ok (.aload_n 0, 1) := by decide +kernel
theorem dX4_readRider_15 : decode cX4_readRider 15 = .ok (.dup, 1) := by decide +kernel
theorem dX4_readRider_16 : decode cX4_readRider 16 = .ok (.getfield 26, 3) := by decide +kernel
theorem dX4_readRider_19 : decode cX4_readRider 19 = .ok (.iconst 1, 1) := by decide +kernel
theorem dX4_readRider_20 : decode cX4_readRider 20 = .ok (.iadd, 1) := by decide +kernel
theorem dX4_readRider_21 : decode cX4_readRider 21 = .ok (.putfield 26, 3) := by decide +kernel
theorem dX4_readRider_24 : decode cX4_readRider 24 = .ok (.aload_n 0, 1) := by decide +kernel
theorem dX4_readRider_25 : decode cX4_readRider 25 = .ok (.sipush 999, 3) := by decide +kernel
theorem dX4_readRider_28 : decode cX4_readRider 28 = .ok (.invokevirtual 68, 3) := by decide +kernel
theorem dX4_readRider_31 : decode cX4_readRider 31 = .ok (.istore_n 2, 1) := by decide +kernel
theorem dX4_readRider_32 : decode cX4_readRider 32 = .ok (.iload_n 2, 1) := by decide +kernel
theorem dX4_readRider_33 : decode cX4_readRider 33 = .ok (.ifCond .lt 12, 3) := by decide +kernel
theorem dX4_readRider_36 : decode cX4_readRider 36 = .ok (.aload_n 0, 1) := by decide +kernel
theorem dX4_readRider_37 : decode cX4_readRider 37 = .ok (.bipush 47, 2) := by decide +kernel
theorem dX4_readRider_39 : decode cX4_readRider 39 = .ok (.invokevirtual 45, 3) := by decide +kernel
theorem dX4_readRider_42 : decode cX4_readRider 42 = .ok (.ifCond .ne 5, 3) := by decide +kernel
theorem dX4_readRider_45 : decode cX4_readRider 45 = .ok (.iconst 0, 1) := by decide +kernel
theorem dX4_readRider_46 : decode cX4_readRider 46 = .ok (.ireturn, 1) := by decide +kernel
theorem dX4_readRider_47 : decode cX4_readRider 47 = .ok (.aload_n 0, 1) := by decide +kernel
theorem dX4_readRider_48 : decode cX4_readRider 48 = .ok (.bipush 99, 2) := by decide +kernel
theorem dX4_readRider_50 : decode cX4_readRider 50 = .ok (.invokevirtual 68, 3) := by decide +kernel
theorem dX4_readRider_53 : decode cX4_readRider 53 = .ok (.istore_n 3, 1) := by decide +kernel
theorem dX4_readRider_54 : decode cX4_readRider 54 = .ok (.iload_n 3, 1) := by decide +kernel
theorem dX4_readRider_55 : decode cX4_readRider 55 = .ok (.ifCond .ge 5, 3) := by decide +kernel
theorem dX4_readRider_58 : decode cX4_readRider 58 = .ok (.iconst 0, 1) := by decide +kernel
theorem dX4_readRider_59 : decode cX4_readRider 59 = .ok (.ireturn, 1) := by decide +kernel
theorem dX4_readRider_60 : decode cX4_readRider 60 = .ok (.aload_n 0, 1) := by decide +kernel
theorem dX4_readRider_61 : decode cX4_readRider 61 = .ok (.getfield 12, 3) := by decide +kernel
theorem dX4_readRider_64 : decode cX4_readRider 64 = .ok (.iload_n 1, 1) := by decide +kernel
theorem dX4_readRider_65 : decode cX4_readRider 65 = .ok (.iload_n 2, 1) := by decide +kernel
theorem dX4_readRider_66 : decode cX4_readRider 66 = .ok (.iload_n 3, 1) := by decide +kernel
theorem dX4_readRider_67 : decode cX4_readRider 67 = .ok (.invokevirtual 71, 3) := by decide +kernel
theorem dX4_readRider_70 : decode cX4_readRider 70 = .ok (.istore 4, 2) := by decide +kernel
theorem dX4_readRider_72 : decode cX4_readRider 72 = .ok (.aload_n 0, 1) := by decide +kernel
theorem dX4_readRider_73 : decode cX4_readRider 73 = .ok (.bipush 58, 2) := by decide +kernel
theorem dX4_readRider_75 : decode cX4_readRider 75 = .ok (.invokevirtual 45, 3) := by decide +kernel
theorem dX4_readRider_78 : decode cX4_readRider 78 = .ok (.ifCond .eq 12, 3) := by decide +kernel
theorem dX4_readRider_81 : decode cX4_readRider 81 = .ok (.aload_n 0, 1) := by decide +kernel
theorem dX4_readRider_82 : decode cX4_readRider 82 = .ok (.iload 4, 2) := by decide +kernel
theorem dX4_readRider_84 : decode cX4_readRider 84 = .ok (.invokevirtual 74, 3) := by decide +kernel
theorem dX4_readRider_87 : decode cX4_readRider 87 = .ok (.ifCond .eq 7, 3) := by decide +kernel
theorem dX4_readRider_90 : decode cX4_readRider 90 = .ok (.iconst 1, 1) := by decide +kernel
theorem dX4_readRider_91 : decode cX4_readRider 91 = .ok (.goto 4, 3) := by decide +kernel
theorem dX4_readRider_94 : decode cX4_readRider 94 = .ok (.iconst 0, 1) := by decide +kernel
theorem dX4_readRider_95 : decode cX4_readRider 95 = .ok (.ireturn, 1) := by decide +kernel
theorem dX4_readBuying_0 : decode cX4_readBuying 0 = .ok (.iconst 0, 1) := by decide +kernel
theorem dX4_readBuying_1 : decode cX4_readBuying 1 = .ok (.istore_n 2, 1) := by decide +kernel
theorem dX4_readBuying_2 : decode cX4_readBuying 2 = .ok (.iconst 0, 1) := by decide +kernel
theorem dX4_readBuying_3 : decode cX4_readBuying 3 = .ok (.istore_n 3, 1) := by decide +kernel
theorem dX4_readBuying_4 : decode cX4_readBuying 4 = .ok (.iconst 0, 1) := by decide +kernel
theorem dX4_readBuying_5 : decode cX4_readBuying 5 = .ok (.istore 4, 2) := by decide +kernel
theorem dX4_readBuying_7 : decode cX4_readBuying 7 = .ok (.iload 4, 2) := by decide +kernel
theorem dX4_readBuying_9 : decode cX4_readBuying 9 = .ok (.bipush 8, 2) := by decide +kernel
theorem dX4_readBuying_11 : decode cX4_readBuying 11 = .ok (.if_icmp .ge 45, 3) := by decide +kernel
theorem dX4_readBuying_14 : decode cX4_readBuying 14 = .ok (.aload_n 0, 1) := by decide +kernel
theorem dX4_readBuying_15 : decode cX4_readBuying 15 = .ok (.iload_n 3, 1) := by decide +kernel
theorem dX4_readBuying_16 : decode cX4_readBuying 16 = .ok (.aload_n 0, 1) := by decide +kernel
theorem dX4_readBuying_17 : decode cX4_readBuying 17 = .ok (.getfield 12, 3) := by decide +kernel
theorem dX4_readBuying_20 : decode cX4_readBuying 20 = .ok (.getfield 29, 3) := by decide +kernel
theorem dX4_readBuying_23 : decode cX4_readBuying 23 = .ok (.iconst 1, 1) := by decide +kernel
theorem dX4_readBuying_24 : decode cX4_readBuying 24 = .ok (.isub, 1) := by decide +kernel
theorem dX4_readBuying_25 : decode cX4_readBuying 25 = .ok (.invokevirtual 49, 3) := by decide +kernel
theorem dX4_readBuying_28 : decode cX4_readBuying 28 = .ok (.istore 5, 2) := by decide +kernel
theorem dX4_readBuying_30 : decode cX4_readBuying 30 = .ok (.iload 5, 2) := by decide +kernel
theorem dX4_readBuying_32 : decode cX4_readBuying 32 = .ok (.ifCond .ge 6, 3) := by decide +kernel
theorem dX4_readBuying_35 : decode cX4_readBuying 35 = .ok (.goto 21, 3) := by decide +kernel
theorem dX4_readBuying_38 : decode cX4_readBuying 38 = .ok (.iload_n 2, 1) := by decide +kernel
theorem dX4_readBuying_39 : decode cX4_readBuying 39 = .ok (.iconst 1, 1) := by decide +kernel
theorem dX4_readBuying_40 : decode cX4_readBuying 40 = .ok (.iload 5, 2) := by decide +kernel
theorem dX4_readBuying_42 : decode cX4_readBuying 42 = .ok (.ishl, 1) := by decide +kernel
theorem dX4_readBuying_43 : decode cX4_readBuying 43 = .ok (.ior, 1) := by decide +kernel
theorem dX4_readBuying_44 : decode cX4_readBuying 44 = .ok (.istore_n 2, 1) := by decide +kernel
theorem dX4_readBuying_45 : decode cX4_readBuying 45 = .ok (.iload 5, 2) := by decide +kernel
theorem dX4_readBuying_47 : decode cX4_readBuying 47 = .ok (.iconst 1, 1) := by decide +kernel
theorem dX4_readBuying_48 : decode cX4_readBuying 48 = .ok (.iadd, 1) := by decide +kernel
theorem dX4_readBuying_49 : decode cX4_readBuying 49 = .ok (.istore_n 3, 1) := by decide +kernel
theorem dX4_readBuying_50 : decode cX4_readBuying 50 = .ok (.iinc 4 1, 3) := by decide +kernel
theorem dX4_readBuying_53 : decode cX4_readBuying 53 = .ok (.goto (-46), 3) := by decide +kernel
theorem dX4_readBuying_56 : decode cX4_readBuying 56 = .ok (.aload_n 0, 1) := by decide +kernel
theorem dX4_readBuying_57 : decode cX4_readBuying 57 = .ok (.getfield 12, 3) := by decide +kernel
theorem dX4_readBuying_60 : decode cX4_readBuying 60 = .ok (.getfield 77, 3) := by decide +kernel
theorem dX4_readBuying_63 : decode cX4_readBuying 63 = .ok (.iload_n 1, 1) := by decide +kernel
theorem dX4_readBuying_64 : decode cX4_readBuying 64 = .ok (.iload_n 2, 1) := by decide +kernel
theorem dX4_readBuying_65 : decode cX4_readBuying 65 = .ok (.iastore, 1) := by decide +kernel
theorem dX4_readBuying_66 : decode cX4_readBuying 66 = .ok (.iload_n 2, 1) := by decide +kernel
theorem dX4_readBuying_67 : decode cX4_readBuying 67 = .ok (.ifCond .eq 7, 3) := by decide +kernel
theorem dX4_readBuying_70 : decode cX4_readBuying 70 = .ok (.iconst 1, 1) := by decide +kernel
theorem dX4_readBuying_71 : decode cX4_readBuying 71 = .ok (.goto 4, 3) := by decide +kernel
theorem dX4_readBuying_74 : decode cX4_readBuying 74 = .ok (.iconst 0, 1) := by decide +kernel
theorem dX4_readBuying_75 : decode cX4_readBuying 75 = .ok (.ireturn, 1) := by decide +kernel
theorem dX4_readDigit_0 : decode cX4_readDigit 0 = .ok (.aload_n 0, 1) := by decide +kernel
theorem dX4_readDigit_1 : decode cX4_readDigit 1 = .ok (.invokevirtual 60, 3) := by decide +kernel
theorem dX4_readDigit_4 : decode cX4_readDigit 4 = .ok (.bipush 48, 2) := by decide +kernel
theorem dX4_readDigit_6 : decode cX4_readDigit 6 = .ok (.isub, 1) := by decide +kernel
theorem dX4_readDigit_7 : decode cX4_readDigit 7 = .ok (.istore_n 3, 1) := by decide +kernel
theorem dX4_readDigit_8 : decode cX4_readDigit 8 = .ok (.iload_n 3, 1) := by decide +kernel
theorem dX4_readDigit_9 : decode cX4_readDigit 9 = .ok (.iload_n 1, 1) := by decide +kernel
theorem dX4_readDigit_10 : decode cX4_readDigit 10 = .ok (.iload_n 2, 1) := by decide +kernel
theorem dX4_readDigit_11 : decode cX4_readDigit 11 = .ok (.invokestatic 80, 3) := by decide +kernel
theorem dX4_readDigit_14 : decode cX4_readDigit 14 = .ok (.ifCond .ne 5, 3) := by decide +kernel
theorem dX4_readDigit_17 : decode cX4_readDigit 17 = .ok (.iconst (-1), 1) := by decide +kernel
theorem dX4_readDigit_18 : decode cX4_readDigit 18 = .ok (.ireturn, 1) := by decide +kernel
theorem dX4_readDigit_19 : decode cX4_readDigit 19 = .ok (.aload_n 0, 1) := by decide +kernel
theorem dX4_readDigit_20 : decode cX4_readDigit 20 = .ok (.dup, 1) := by decide +kernel
theorem dX4_readDigit_21 : decode cX4_readDigit 21 = .ok (.getfield 26, 3) := by decide +kernel
theorem dX4_readDigit_24 : decode cX4_readDigit 24 = .ok (.iconst 1, 1) := by decide +kernel
theorem dX4_readDigit_25 : decode cX4_readDigit 25 = .ok (.iadd, 1) := by decide +kernel
theorem dX4_readDigit_26 : decode cX4_readDigit 26 = .ok (.putfield 26, 3) := by decide +kernel
theorem dX4_readDigit_29 : decode cX4_readDigit 29 = .ok (.iload_n 3, 1) := by decide +kernel
theorem dX4_readDigit_30 : decode cX4_readDigit 30 = .ok (.ireturn, 1) := by decide +kernel
theorem dX4_readNumber_0 : decode cX4_readNumber 0 = .ok (.aload_n 0, 1) := by decide +kernel
theorem dX4_readNumber_1 : decode cX4_readNumber 1 = .ok (.iconst 0, 1) := by decide +kernel
theorem dX4_readNumber_2 : decode cX4_readNumber 2 = .ok (.bipush 9, 2) := by decide +kernel
theorem dX4_readNumber_4 : decode cX4_readNumber 4 = .ok (.invokevirtual 49, 3) := by decide +kernel
theorem dX4_readNumber_7 : decode cX4_readNumber 7 = .ok (.istore_n 2, 1) := by decide +kernel
theorem dX4_readNumber_8 : decode cX4_readNumber 8 = .ok (.aload_n 0, 1) := by decide +kernel
theorem dX4_readNumber_9 : decode cX4_readNumber 9 = .ok (.getfield 26, 3) := by decide +kernel
theorem dX4_readNumber_12 : decode cX4_readNumber 12 = .ok (.iconst 1, 1) := by decide +kernel
theorem dX4_readNumber_13 : decode cX4_readNumber 13 = .ok (.isub, 1) := by decide +kernel
theorem dX4_readNumber_14 : decode cX4_readNumber 14 = .ok (.istore_n 3, 1) := by decide +kernel
theorem dX4_readNumber_15 : decode cX4_readNumber 15 = .ok (.iconst 1, 1) := by decide +kernel
theorem dX4_readNumber_16 : decode cX4_readNumber 16 = .ok (.istore 4, 2) := by decide +kernel
theorem dX4_readNumber_18 : decode cX4_readNumber 18 = .ok (.iload_n 2, 1) := by decide +kernel
theorem dX4_readNumber_19 : decode cX4_readNumber 19 = .ok (.ifCond .lt 73, 3) := by decide +kernel
theorem dX4_readNumber_22 : decode cX4_readNumber 22 = .ok (.iload 4, 2) := by decide +kernel
theorem dX4_readNumber_24 : decode cX4_readNumber 24 = .ok (.iconst 3, 1) := by decide +kernel
theorem dX4_readNumber_25 : decode cX4_readNumber 25 = .ok (.if_icmp .ge 67, 3) := by decide +kernel
theorem dX4_readNumber_28 : decode cX4_readNumber 28 = .ok (.aload_n 0, 1) := by decide +kernel
theorem dX4_readNumber_29 : decode cX4_readNumber 29 = .ok (.getfield 26, 3) := by decide +kernel
theorem dX4_readNumber_32 : decode cX4_readNumber 32 = .ok (.aload_n 0, 1) := by decide +kernel
theorem dX4_readNumber_33 : decode cX4_readNumber 33 = .ok (.getfield 22, 3) := by decide +kernel
theorem dX4_readNumber_36 : decode cX4_readNumber 36 = .ok (.if_icmp .ge 56, 3) := by decide +kernel
theorem dX4_readNumber_39 : decode cX4_readNumber 39 = .ok (.aload_n 0, 1) := by decide +kernel
theorem dX4_readNumber_40 : decode cX4_readNumber 40 = .ok (.getfield 18, 3) := by decide +kernel
theorem dX4_readNumber_43 : decode cX4_readNumber 43 = .ok (.aload_n 0, 1) := by decide +kernel
theorem dX4_readNumber_44 : decode cX4_readNumber 44 = .ok (.getfield 26, 3) := by decide +kernel
theorem dX4_readNumber_47 : decode cX4_readNumber 47 = .ok (.iaload, 1) := by decide +kernel
theorem dX4_readNumber_48 : decode cX4_readNumber 48 = .ok (.bipush 48, 2) := by decide +kernel
theorem dX4_readNumber_50 : decode cX4_readNumber 50 = .ok (.bipush 57, 2) := by decide +kernel
theorem dX4_readNumber_52 : decode cX4_readNumber 52 = .ok (.invokestatic 80, 3) := by decide +kernel
theorem dX4_readNumber_55 : decode cX4_readNumber 55 = .ok (.ifCond .eq 37, 3) := by decide +kernel
theorem dX4_readNumber_58 : decode cX4_readNumber 58 = .ok (.bipush 10, 2) := by decide +kernel
theorem dX4_readNumber_60 : decode cX4_readNumber 60 = .ok (.iload_n 2, 1) := by decide +kernel
theorem dX4_readNumber_61 : decode cX4_readNumber 61 = .ok (.imul, 1) := by decide +kernel
theorem dX4_readNumber_62 : decode cX4_readNumber 62 = .ok (.aload_n 0, 1) := by decide +kernel
theorem dX4_readNumber_63 : decode cX4_readNumber 63 = .ok (.getfield 18, 3) := by decide +kernel
theorem dX4_readNumber_66 : decode cX4_readNumber 66 = .ok (.aload_n 0, 1) := by decide +kernel
theorem dX4_readNumber_67 : decode cX4_readNumber 67 = .ok (.getfield 26, 3) := by decide +kernel
theorem dX4_readNumber_70 : decode cX4_readNumber 70 = .ok (.iaload, 1) := by decide +kernel
theorem dX4_readNumber_71 : decode cX4_readNumber 71 = .ok (.iadd, 1) := by decide +kernel
theorem dX4_readNumber_72 : decode cX4_readNumber 72 = .ok (.bipush 48, 2) := by decide +kernel
theorem dX4_readNumber_74 : decode cX4_readNumber 74 = .ok (.isub, 1) := by decide +kernel
theorem dX4_readNumber_75 : decode cX4_readNumber 75 = .ok (.istore_n 2, 1) := by decide +kernel
theorem dX4_readNumber_76 : decode cX4_readNumber 76 = .ok (.aload_n 0, 1) := by decide +kernel
theorem dX4_readNumber_77 : decode cX4_readNumber 77 = .ok (.dup, 1) := by decide +kernel
theorem dX4_readNumber_78 : decode cX4_readNumber 78 = .ok (.getfield 26, 3) := by decide +kernel
theorem dX4_readNumber_81 : decode cX4_readNumber 81 = .ok (.iconst 1, 1) := by decide +kernel
theorem dX4_readNumber_82 : decode cX4_readNumber 82 = .ok (.iadd, 1) := by decide +kernel
theorem dX4_readNumber_83 : decode cX4_readNumber 83 = .ok (.putfield 26, 3) := by decide +kernel
theorem dX4_readNumber_86 : decode cX4_readNumber 86 = .ok (.iinc 4 1, 3) := by decide +kernel
theorem dX4_readNumber_89 : decode cX4_readNumber 89 = .ok (.goto (-71), 3) := by decide +kernel
theorem dX4_readNumber_92 : decode cX4_readNumber 92 = .ok (.iload_n 2, 1) := by decide +kernel
theorem dX4_readNumber_93 : decode cX4_readNumber 93 = .ok (.iload_n 1, 1) := by decide +kernel
theorem dX4_readNumber_94 : decode cX4_readNumber 94 = .ok (.if_icmp .le 10, 3) := by decide +kernel
theorem dX4_readNumber_97 : decode cX4_readNumber 97 = .ok (.aload_n 0, 1) := by decide +kernel
theorem dX4_readNumber_98 : decode cX4_readNumber 98 = .ok (.iload_n 3, 1) := by decide +kernel
theorem dX4_readNumber_99 : decode cX4_readNumber 99 = .ok (.putfield 26, 3) := by decide +kernel
theorem dX4_readNumber_102 : decode cX4_readNumber 102 = .ok (.iconst (-1), 1) := by decide +kernel
theorem dX4_readNumber_103 : decode cX4_readNumber 103 = .ok (.ireturn, 1) := by decide +kernel
theorem dX4_readNumber_104 : decode cX4_readNumber 104 = .ok (.iload_n 2, 1) := by decide +kernel
theorem dX4_readNumber_105 : decode cX4_readNumber 105 = .ok (.ireturn, 1) := by decide +kernel
theorem dX4_takes_0 : decode cX4_takes 0 = .ok (.aload_n 0, 1) := by decide +kernel
theorem dX4_takes_1 : decode cX4_takes 1 = .ok (.invokevirtual 60, 3) := by decide +kernel
theorem dX4_takes_4 : decode cX4_takes 4 = .ok (.iload_n 1, 1) := by decide +kernel
theorem dX4_takes_5 : decode cX4_takes 5 = .ok (.if_icmp .eq 5, 3) := by decide +kernel
theorem dX4_takes_8 : decode cX4_takes 8 = .ok (.iconst 0, 1) := by decide +kernel
theorem dX4_takes_9 : decode cX4_takes 9 = .ok (.ireturn, 1) := by decide +kernel
theorem dX4_takes_10 : decode cX4_takes 10 = .ok (.aload_n 0, 1) := by decide +kernel
theorem dX4_takes_11 : decode cX4_takes 11 = .ok (.dup, 1) := by decide +kernel
theorem dX4_takes_12 : decode cX4_takes 12 = .ok (.getfield 26, 3) := by decide +kernel
theorem dX4_takes_15 : decode cX4_takes 15 = .ok (.iconst 1, 1) := by decide +kernel
theorem dX4_takes_16 : decode cX4_takes 16 = .ok (.iadd, 1) := by decide +kernel
theorem dX4_takes_17 : decode cX4_takes 17 = .ok (.putfield 26, 3) := by decide +kernel
theorem dX4_takes_20 : decode cX4_takes 20 = .ok (.iconst 1, 1) := by decide +kernel
theorem dX4_takes_21 : decode cX4_takes 21 = .ok (.ireturn, 1) := by decide +kernel
theorem dX4_letterHere_0 : decode cX4_letterHere 0 = .ok (.aload_n 0, 1) := by decide +kernel
theorem dX4_letterHere_1 : decode cX4_letterHere 1 = .ok (.getfield 26, 3) := by decide +kernel
theorem dX4_letterHere_4 : decode cX4_letterHere 4 = .ok (.aload_n 0, 1) := by decide +kernel
theorem dX4_letterHere_5 : decode cX4_letterHere 5 = .ok (.getfield 22, 3) := by decide +kernel
theorem dX4_letterHere_8 : decode cX4_letterHere 8 = .ok (.if_icmp .ge 30, 3) := by decide +kernel
theorem dX4_letterHere_11 : decode cX4_letterHere 11 = .ok (.aload_n 0, 1) := by decide +kernel
theorem dX4_letterHere_12 : decode cX4_letterHere 12 = .ok (.getfield 18, 3) := by decide +kernel
theorem dX4_letterHere_15 : decode cX4_letterHere 15 = .ok (.aload_n 0, 1) := by decide +kernel
theorem dX4_letterHere_16 : decode cX4_letterHere 16 = .ok (.getfield 26, 3) := by decide +kernel
theorem dX4_letterHere_19 : decode cX4_letterHere 19 = .ok (.iaload, 1) := by decide +kernel
theorem dX4_letterHere_20 : decode cX4_letterHere 20 = .ok (.bipush 32, 2) := by decide +kernel
theorem dX4_letterHere_22 : decode cX4_letterHere 22 = .ok (.if_icmp .ne 16, 3) := by decide +kernel
theorem dX4_letterHere_25 : decode cX4_letterHere 25 = .ok (.aload_n 0, 1) := by decide +kernel
theorem dX4_letterHere_26 : decode cX4_letterHere 26 = .ok (.dup, 1) := by decide +kernel
theorem dX4_letterHere_27 : decode cX4_letterHere 27 = .ok (.getfield 26, 3) := by decide +kernel
theorem dX4_letterHere_30 : decode cX4_letterHere 30 = .ok (.iconst 1, 1) := by decide +kernel
theorem dX4_letterHere_31 : decode cX4_letterHere 31 = .ok (.iadd, 1) := by decide +kernel
theorem dX4_letterHere_32 : decode cX4_letterHere 32 = .ok (.putfield 26, 3) := by decide +kernel
theorem dX4_letterHere_35 : decode cX4_letterHere 35 = .ok (.goto (-35), 3) := by decide +kernel
theorem dX4_letterHere_38 : decode cX4_letterHere 38 = .ok (.aload_n 0, 1) := by decide +kernel
theorem dX4_letterHere_39 : decode cX4_letterHere 39 = .ok (.getfield 26, 3) := by decide +kernel
theorem dX4_letterHere_42 : decode cX4_letterHere 42 = .ok (.aload_n 0, 1) := by decide +kernel
theorem dX4_letterHere_43 : decode cX4_letterHere 43 = .ok (.getfield 22, 3) := by decide +kernel
theorem dX4_letterHere_46 : decode cX4_letterHere 46 = .ok (.if_icmp .ge 15, 3) := by decide +kernel
theorem dX4_letterHere_49 : decode cX4_letterHere 49 = .ok (.aload_n 0, 1) := by decide +kernel
theorem dX4_letterHere_50 : decode cX4_letterHere 50 = .ok (.getfield 18, 3) := by decide +kernel
theorem dX4_letterHere_53 : decode cX4_letterHere 53 = .ok (.aload_n 0, 1) := by decide +kernel
theorem dX4_letterHere_54 : decode cX4_letterHere 54 = .ok (.getfield 26, 3) := by decide +kernel
theorem dX4_letterHere_57 : decode cX4_letterHere 57 = .ok (.iaload, 1) := by decide +kernel
theorem dX4_letterHere_58 : decode cX4_letterHere 58 = .ok (.goto 4, 3) := by decide +kernel
theorem dX4_letterHere_61 : decode cX4_letterHere 61 = .ok (.iconst 0, 1) := by decide +kernel
theorem dX4_letterHere_62 : decode cX4_letterHere 62 = .ok (.ireturn, 1) := by decide +kernel
theorem dX4_kindOf_0 : decode cX4_kindOf 0 = .ok (.iload_n 0, 1) := by decide +kernel
theorem dX4_kindOf_1 : decode cX4_kindOf 1 = .ok (.lookupswitch 61 #[(98, 57), (111, 55), (112, 51), (114, 59), (115, 53)], 51) := by decide +kernel
theorem dX4_kindOf_52 : decode cX4_kindOf 52 = .ok (.iconst 0, 1) := by decide +kernel
theorem dX4_kindOf_53 : decode cX4_kindOf 53 = .ok (.ireturn, 1) := by decide +kernel
theorem dX4_kindOf_54 : decode cX4_kindOf 54 = .ok (.iconst 1, 1) := by decide +kernel
theorem dX4_kindOf_55 : decode cX4_kindOf 55 = .ok (.ireturn, 1) := by decide +kernel
theorem dX4_kindOf_56 : decode cX4_kindOf 56 = .ok (.iconst 2, 1) := by decide +kernel
theorem dX4_kindOf_57 : decode cX4_kindOf 57 = .ok (.ireturn, 1) := by decide +kernel
theorem dX4_kindOf_58 : decode cX4_kindOf 58 = .ok (.iconst 3, 1) := by decide +kernel
theorem dX4_kindOf_59 : decode cX4_kindOf 59 = .ok (.ireturn, 1) := by decide +kernel
theorem dX4_kindOf_60 : decode cX4_kindOf 60 = .ok (.iconst 4, 1) := by decide +kernel
theorem dX4_kindOf_61 : decode cX4_kindOf 61 = .ok (.ireturn, 1) := by decide +kernel
theorem dX4_kindOf_62 : decode cX4_kindOf 62 = .ok (.iconst (-1), 1) := by decide +kernel
theorem dX4_kindOf_63 : decode cX4_kindOf 63 = .ok (.ireturn, 1) := by decide +kernel
theorem dJ6_bitCount_0f7a4_0 : decode cJ6_bitCount_0f7a4 0 = .ok (.iload_n 0, 1) := by decide +kernel
theorem dJ6_bitCount_0f7a4_1 : decode cJ6_bitCount_0f7a4 1 = .ok (.iload_n 0, 1) := by decide +kernel
theorem dJ6_bitCount_0f7a4_2 : decode cJ6_bitCount_0f7a4 2 = .ok (.iconst 1, 1) := by decide +kernel
theorem dJ6_bitCount_0f7a4_3 : decode cJ6_bitCount_0f7a4 3 = .ok (.iushr, 1) := by decide +kernel
theorem dJ6_bitCount_0f7a4_4 : decode cJ6_bitCount_0f7a4 4 = .ok (.ldc_w 265, 3) := by decide +kernel
theorem dJ6_bitCount_0f7a4_7 : decode cJ6_bitCount_0f7a4 7 = .ok (.iand, 1) := by decide +kernel
theorem dJ6_bitCount_0f7a4_8 : decode cJ6_bitCount_0f7a4 8 = .ok (.isub, 1) := by decide +kernel
theorem dJ6_bitCount_0f7a4_9 : decode cJ6_bitCount_0f7a4 9 = .ok (.istore_n 0, 1) := by decide +kernel
theorem dJ6_bitCount_0f7a4_10 : decode cJ6_bitCount_0f7a4 10 = .ok (.iload_n 0, 1) := by decide +kernel
theorem dJ6_bitCount_0f7a4_11 : decode cJ6_bitCount_0f7a4 11 = .ok (.ldc_w 266, 3) := by decide +kernel
theorem dJ6_bitCount_0f7a4_14 : decode cJ6_bitCount_0f7a4 14 = .ok (.iand, 1) := by decide +kernel
theorem dJ6_bitCount_0f7a4_15 : decode cJ6_bitCount_0f7a4 15 = .ok (.iload_n 0, 1) := by decide +kernel
theorem dJ6_bitCount_0f7a4_16 : decode cJ6_bitCount_0f7a4 16 = .ok (.iconst 2, 1) := by decide +kernel
theorem dJ6_bitCount_0f7a4_17 : decode cJ6_bitCount_0f7a4 17 = .ok (.iushr, 1) := by decide +kernel
theorem dJ6_bitCount_0f7a4_18 : decode cJ6_bitCount_0f7a4 18 = .ok (.ldc_w 266, 3) := by decide +kernel
theorem dJ6_bitCount_0f7a4_21 : decode cJ6_bitCount_0f7a4 21 = .ok (.iand, 1) := by decide +kernel
theorem dJ6_bitCount_0f7a4_22 : decode cJ6_bitCount_0f7a4 22 = .ok (.iadd, 1) := by decide +kernel
theorem dJ6_bitCount_0f7a4_23 : decode cJ6_bitCount_0f7a4 23 = .ok (.istore_n 0, 1) := by decide +kernel
theorem dJ6_bitCount_0f7a4_24 : decode cJ6_bitCount_0f7a4 24 = .ok (.iload_n 0, 1) := by decide +kernel
theorem dJ6_bitCount_0f7a4_25 : decode cJ6_bitCount_0f7a4 25 = .ok (.iload_n 0, 1) := by decide +kernel
theorem dJ6_bitCount_0f7a4_26 : decode cJ6_bitCount_0f7a4 26 = .ok (.iconst 4, 1) := by decide +kernel
theorem dJ6_bitCount_0f7a4_27 : decode cJ6_bitCount_0f7a4 27 = .ok (.iushr, 1) := by decide +kernel
theorem dJ6_bitCount_0f7a4_28 : decode cJ6_bitCount_0f7a4 28 = .ok (.iadd, 1) := by decide +kernel
theorem dJ6_bitCount_0f7a4_29 : decode cJ6_bitCount_0f7a4 29 = .ok (.ldc_w 267, 3) := by decide +kernel
theorem dJ6_bitCount_0f7a4_32 : decode cJ6_bitCount_0f7a4 32 = .ok (.iand, 1) := by decide +kernel
theorem dJ6_bitCount_0f7a4_33 : decode cJ6_bitCount_0f7a4 33 = .ok (.istore_n 0, 1) := by decide +kernel
theorem dJ6_bitCount_0f7a4_34 : decode cJ6_bitCount_0f7a4 34 = .ok (.iload_n 0, 1) := by decide +kernel
theorem dJ6_bitCount_0f7a4_35 : decode cJ6_bitCount_0f7a4 35 = .ok (.iload_n 0, 1) := by decide +kernel
theorem dJ6_bitCount_0f7a4_36 : decode cJ6_bitCount_0f7a4 36 = .ok (.bipush 8, 2) := by decide +kernel
theorem dJ6_bitCount_0f7a4_38 : decode cJ6_bitCount_0f7a4 38 = .ok (.iushr, 1) := by decide +kernel
theorem dJ6_bitCount_0f7a4_39 : decode cJ6_bitCount_0f7a4 39 = .ok (.iadd, 1) := by decide +kernel
theorem dJ6_bitCount_0f7a4_40 : decode cJ6_bitCount_0f7a4 40 = .ok (.istore_n 0, 1) := by decide +kernel
theorem dJ6_bitCount_0f7a4_41 : decode cJ6_bitCount_0f7a4 41 = .ok (.iload_n 0, 1) := by decide +kernel
theorem dJ6_bitCount_0f7a4_42 : decode cJ6_bitCount_0f7a4 42 = .ok (.iload_n 0, 1) := by decide +kernel
theorem dJ6_bitCount_0f7a4_43 : decode cJ6_bitCount_0f7a4 43 = .ok (.bipush 16, 2) := by decide +kernel
theorem dJ6_bitCount_0f7a4_45 : decode cJ6_bitCount_0f7a4 45 = .ok (.iushr, 1) := by decide +kernel
theorem dJ6_bitCount_0f7a4_46 : decode cJ6_bitCount_0f7a4 46 = .ok (.iadd, 1) := by decide +kernel
theorem dJ6_bitCount_0f7a4_47 : decode cJ6_bitCount_0f7a4 47 = .ok (.istore_n 0, 1) := by decide +kernel
theorem dJ6_bitCount_0f7a4_48 : decode cJ6_bitCount_0f7a4 48 = .ok (.iload_n 0, 1) := by decide +kernel
theorem dJ6_bitCount_0f7a4_49 : decode cJ6_bitCount_0f7a4 49 = .ok (.bipush 63, 2) := by decide +kernel
theorem dJ6_bitCount_0f7a4_51 : decode cJ6_bitCount_0f7a4 51 = .ok (.iand, 1) := by decide +kernel
theorem dJ6_bitCount_0f7a4_52 : decode cJ6_bitCount_0f7a4 52 = .ok (.ireturn, 1) := by decide +kernel
theorem dJ9_max_7cf53_0 : decode cJ9_max_7cf53 0 = .ok (.iload_n 0, 1) := by decide +kernel
theorem dJ9_max_7cf53_1 : decode cJ9_max_7cf53 1 = .ok (.iload_n 1, 1) := by decide +kernel
theorem dJ9_max_7cf53_2 : decode cJ9_max_7cf53 2 = .ok (.if_icmp .lt 7, 3) := by decide +kernel
theorem dJ9_max_7cf53_5 : decode cJ9_max_7cf53 5 = .ok (.iload_n 0, 1) := by decide +kernel
theorem dJ9_max_7cf53_6 : decode cJ9_max_7cf53 6 = .ok (.goto 4, 3) := by decide +kernel
theorem dJ9_max_7cf53_9 : decode cJ9_max_7cf53 9 = .ok (.iload_n 1, 1) := by decide +kernel
theorem dJ9_max_7cf53_10 : decode cJ9_max_7cf53 10 = .ok (.ireturn, 1) := by decide +kernel
theorem dJ9_min_7cf53_0 : decode cJ9_min_7cf53 0 = .ok (.iload_n 0, 1) := by decide +kernel
theorem dJ9_min_7cf53_1 : decode cJ9_min_7cf53 1 = .ok (.iload_n 1, 1) := by decide +kernel
theorem dJ9_min_7cf53_2 : decode cJ9_min_7cf53 2 = .ok (.if_icmp .gt 7, 3) := by decide +kernel
theorem dJ9_min_7cf53_5 : decode cJ9_min_7cf53 5 = .ok (.iload_n 0, 1) := by decide +kernel
theorem dJ9_min_7cf53_6 : decode cJ9_min_7cf53 6 = .ok (.goto 4, 3) := by decide +kernel
theorem dJ9_min_7cf53_9 : decode cJ9_min_7cf53 9 = .ok (.iload_n 1, 1) := by decide +kernel
theorem dJ9_min_7cf53_10 : decode cJ9_min_7cf53 10 = .ok (.ireturn, 1) := by decide +kernel
