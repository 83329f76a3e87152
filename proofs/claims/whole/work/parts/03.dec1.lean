set_option maxRecDepth 20000 in
theorem dX0_init_0 : decode cX0_init 0 = .ok (.aload_n 0, 1) := by decide +kernel
theorem dX0_init_1 : decode cX0_init 1 = .ok (.invokespecial 3, 3) := by decide +kernel
theorem dX0_init_4 : decode cX0_init 4 = .ok (.aload_n 0, 1) := by decide +kernel
theorem dX0_init_5 : decode cX0_init 5 = .ok (.bipush 50, 2) := by decide +kernel
theorem dX0_init_7 : decode cX0_init 7 = .ok (.newarray .int, 2) := by decide +kernel
theorem dX0_init_9 : decode cX0_init 9 = .ok (.putfield 11, 3) := by decide +kernel
theorem dX0_init_12 : decode cX0_init 12 = .ok (.aload_n 0, 1) := by decide +kernel
theorem dX0_init_13 : decode cX0_init 13 = .ok (.bipush 24, 2) := by decide +kernel
theorem dX0_init_15 : decode cX0_init 15 = .ok (.newarray .int, 2) := by decide +kernel
theorem dX0_init_17 : decode cX0_init 17 = .ok (.putfield 15, 3) := by decide +kernel
theorem dX0_init_20 : decode cX0_init 20 = .ok (.return_, 1) := by decide +kernel
theorem dX0_add_0 : decode cX0_add 0 = .ok (.aload_n 0, 1) := by decide +kernel
theorem dX0_add_1 : decode cX0_add 1 = .ok (.getfield 18, 3) := by decide +kernel
theorem dX0_add_4 : decode cX0_add 4 = .ok (.bipush 50, 2) := by decide +kernel
theorem dX0_add_6 : decode cX0_add 6 = .ok (.if_icmp .lt 5, 3) := by decide +kernel
theorem dX0_add_9 : decode cX0_add 9 = .ok (.iconst (-1), 1) := by decide +kernel
theorem dX0_add_10 : decode cX0_add 10 = .ok (.ireturn, 1) := by decide +kernel
theorem dX0_add_11 : decode cX0_add 11 = .ok (.aload_n 0, 1) := by decide +kernel
theorem dX0_add_12 : decode cX0_add 12 = .ok (.getfield 11, 3) := by decide +kernel
theorem dX0_add_15 : decode cX0_add 15 = .ok (.aload_n 0, 1) := by decide +kernel
theorem dX0_add_16 : decode cX0_add 16 = .ok (.getfield 18, 3) := by decide +kernel
theorem dX0_add_19 : decode cX0_add 19 = .ok (.iload_n 1, 1) := by decide +kernel
theorem dX0_add_20 : decode cX0_add 20 = .ok (.iastore, 1) := by decide +kernel
theorem dX0_add_21 : decode cX0_add 21 = .ok (.aload_n 0, 1) := by decide +kernel
theorem dX0_add_22 : decode cX0_add 22 = .ok (.dup, 1) := by decide +kernel
theorem dX0_add_23 : decode cX0_add 23 = .ok (.getfield 18, 3) := by decide +kernel
theorem dX0_add_26 : decode cX0_add 26 = .ok (.iconst 1, 1) := by decide +kernel
theorem dX0_add_27 : decode cX0_add 27 = .ok (.iadd, 1) := by decide +kernel
theorem dX0_add_28 : decode cX0_add 28 = .ok (.putfield 18, 3) := by decide +kernel
theorem dX0_add_31 : decode cX0_add 31 = .ok (.aload_n 0, 1) := by decide +kernel
theorem dX0_add_32 : decode cX0_add 32 = .ok (.getfield 18, 3) := by decide +kernel
theorem dX0_add_35 : decode cX0_add 35 = .ok (.iconst 1, 1) := by decide +kernel
theorem dX0_add_36 : decode cX0_add 36 = .ok (.isub, 1) := by decide +kernel
theorem dX0_add_37 : decode cX0_add 37 = .ok (.ireturn, 1) := by decide +kernel
theorem dX0_isThere_0 : decode cX0_isThere 0 = .ok (.iload_n 1, 1) := by decide +kernel
theorem dX0_isThere_1 : decode cX0_isThere 1 = .ok (.ifCond .lt 15, 3) := by decide +kernel
theorem dX0_isThere_4 : decode cX0_isThere 4 = .ok (.iload_n 1, 1) := by decide +kernel
theorem dX0_isThere_5 : decode cX0_isThere 5 = .ok (.aload_n 0, 1) := by decide +kernel
theorem dX0_isThere_6 : decode cX0_isThere 6 = .ok (.getfield 18, 3) := by decide +kernel
theorem dX0_isThere_9 : decode cX0_isThere 9 = .ok (.if_icmp .ge 7, 3) := by decide +kernel
theorem dX0_isThere_12 : decode cX0_isThere 12 = .ok (.iconst 1, 1) := by decide +kernel
theorem dX0_isThere_13 : decode cX0_isThere 13 = .ok (.goto 4, 3) := by decide +kernel
theorem dX0_isThere_16 : decode cX0_isThere 16 = .ok (.iconst 0, 1) := by decide +kernel
theorem dX0_isThere_17 : decode cX0_isThere 17 = .ok (.ireturn, 1) := by decide +kernel
theorem dX0_kindOf_0 : decode cX0_kindOf 0 = .ok (.aload_n 0, 1) := by decide +kernel
theorem dX0_kindOf_1 : decode cX0_kindOf 1 = .ok (.getfield 11, 3) := by decide +kernel
theorem dX0_kindOf_4 : decode cX0_kindOf 4 = .ok (.iload_n 1, 1) := by decide +kernel
theorem dX0_kindOf_5 : decode cX0_kindOf 5 = .ok (.iaload, 1) := by decide +kernel
theorem dX0_kindOf_6 : decode cX0_kindOf 6 = .ok (.ireturn, 1) := by decide +kernel
theorem dX0_isUnder_0 : decode cX0_isUnder 0 = .ok (.iload_n 0, 1) := by decide +kernel
theorem dX0_isUnder_1 : decode cX0_isUnder 1 = .ok (.istore_n 2, 1) := by decide +kernel
theorem dX0_isUnder_2 : decode cX0_isUnder 2 = .ok (.iconst 0, 1) := by decide +kernel
theorem dX0_isUnder_3 : decode cX0_isUnder 3 = .ok (.istore_n 3, 1) := by decide +kernel
theorem dX0_isUnder_4 : decode cX0_isUnder 4 = .ok (.iload_n 3, 1) := by decide +kernel
theorem dX0_isUnder_5 : decode cX0_isUnder 5 = .ok (.bipush 8, 2) := by decide +kernel
theorem dX0_isUnder_7 : decode cX0_isUnder 7 = .ok (.if_icmp .ge 19, 3) := by decide +kernel
theorem dX0_isUnder_10 : decode cX0_isUnder 10 = .ok (.iload_n 2, 1) := by decide +kernel
theorem dX0_isUnder_11 : decode cX0_isUnder 11 = .ok (.iload_n 1, 1) := by decide +kernel
theorem dX0_isUnder_12 : decode cX0_isUnder 12 = .ok (.if_icmp .eq 14, 3) := by decide +kernel
theorem dX0_isUnder_15 : decode cX0_isUnder 15 = .ok (.iload_n 2, 1) := by decide +kernel
theorem dX0_isUnder_16 : decode cX0_isUnder 16 = .ok (.invokestatic 22, 3) := by decide +kernel
theorem dX0_isUnder_19 : decode cX0_isUnder 19 = .ok (.istore_n 2, 1) := by decide +kernel
theorem dX0_isUnder_20 : decode cX0_isUnder 20 = .ok (.iinc 3 1, 3) := by decide +kernel
theorem dX0_isUnder_23 : decode cX0_isUnder 23 = .ok (.goto (-19), 3) := by decide +kernel
theorem dX0_isUnder_26 : decode cX0_isUnder 26 = .ok (.iload_n 2, 1) := by decide +kernel
theorem dX0_isUnder_27 : decode cX0_isUnder 27 = .ok (.iload_n 1, 1) := by decide +kernel
theorem dX0_isUnder_28 : decode cX0_isUnder 28 = .ok (.if_icmp .ne 7, 3) := by decide +kernel
theorem dX0_isUnder_31 : decode cX0_isUnder 31 = .ok (.iconst 1, 1) := by decide +kernel
theorem dX0_isUnder_32 : decode cX0_isUnder 32 = .ok (.goto 4, 3) := by decide +kernel
theorem dX0_isUnder_35 : decode cX0_isUnder 35 = .ok (.iconst 0, 1) := by decide +kernel
theorem dX0_isUnder_36 : decode cX0_isUnder 36 = .ok (.ireturn, 1) := by decide +kernel
theorem dX0_above_0 : decode cX0_above 0 = .ok (.iload_n 0, 1) := by decide +kernel
theorem dX0_above_1 : decode cX0_above 1 = .ok (.ifCond .lt 17, 3) := by decide +kernel
theorem dX0_above_4 : decode cX0_above 4 = .ok (.iload_n 0, 1) := by decide +kernel
theorem dX0_above_5 : decode cX0_above 5 = .ok (.bipush 8, 2) := by decide +kernel
theorem dX0_above_7 : decode cX0_above 7 = .ok (.if_icmp .ge 11, 3) := by decide +kernel
theorem dX0_above_10 : decode cX0_above 10 = .ok (.getstatic 26, 3) := by decide +kernel
theorem dX0_above_13 : decode cX0_above 13 = .ok (.iload_n 0, 1) := by decide +kernel
theorem dX0_above_14 : decode cX0_above 14 = .ok (.iaload, 1) := by decide +kernel
theorem dX0_above_15 : decode cX0_above 15 = .ok (.goto 4, 3) := by decide +kernel
theorem dX0_above_18 : decode cX0_above 18 = .ok (.iconst (-1), 1) := by decide +kernel
theorem dX0_above_19 : decode cX0_above 19 = .ok (.ireturn, 1) := by decide +kernel
theorem dX0_ranAt_0 : decode cX0_ranAt 0 = .ok (.iload_n 1, 1) := by decide +kernel
theorem dX0_ranAt_1 : decode cX0_ranAt 1 = .ok (.ifCond .lt 26, 3) := by decide +kernel
theorem dX0_ranAt_4 : decode cX0_ranAt 4 = .ok (.iload_n 1, 1) := by decide +kernel
theorem dX0_ranAt_5 : decode cX0_ranAt 5 = .ok (.aload_n 0, 1) := by decide +kernel
theorem dX0_ranAt_6 : decode cX0_ranAt 6 = .ok (.getfield 29, 3) := by decide +kernel
theorem dX0_ranAt_9 : decode cX0_ranAt 9 = .ok (.if_icmp .ge 18, 3) := by decide +kernel
theorem dX0_ranAt_12 : decode cX0_ranAt 12 = .ok (.iload_n 1, 1) := by decide +kernel
theorem dX0_ranAt_13 : decode cX0_ranAt 13 = .ok (.bipush 24, 2) := by decide +kernel
theorem dX0_ranAt_15 : decode cX0_ranAt 15 = .ok (.if_icmp .ge 12, 3) := by decide +kernel
theorem dX0_ranAt_18 : decode cX0_ranAt 18 = .ok (.aload_n 0, 1) := by decide +kernel
theorem dX0_ranAt_19 : decode cX0_ranAt 19 = .ok (.getfield 15, 3) := by decide +kernel
theorem dX0_ranAt_22 : decode cX0_ranAt 22 = .ok (.iload_n 1, 1) := by decide +kernel
theorem dX0_ranAt_23 : decode cX0_ranAt 23 = .ok (.iaload, 1) := by decide +kernel
theorem dX0_ranAt_24 : decode cX0_ranAt 24 = .ok (.goto 4, 3) := by decide +kernel
theorem dX0_ranAt_27 : decode cX0_ranAt 27 = .ok (.iconst (-1), 1) := by decide +kernel
theorem dX0_ranAt_28 : decode cX0_ranAt 28 = .ok (.ireturn, 1) := by decide +kernel
theorem dX0_perform_0 : decode cX0_perform 0 = .ok (.aload_n 0, 1) := by decide +kernel
theorem dX0_perform_1 : decode cX0_perform 1 = .ok (.iconst 0, 1) := by decide +kernel
theorem dX0_perform_2 : decode cX0_perform 2 = .ok (.putfield 29, 3) := by decide +kernel
theorem dX0_perform_5 : decode cX0_perform 5 = .ok (.aload_n 0, 1) := by decide +kernel
theorem dX0_perform_6 : decode cX0_perform 6 = .ok (.iload_n 1, 1) := by decide +kernel
theorem dX0_perform_7 : decode cX0_perform 7 = .ok (.invokevirtual 32, 3) := by decide +kernel
theorem dX0_perform_10 : decode cX0_perform 10 = .ok (.ifCond .ne 5, 3) := by decide +kernel
theorem dX0_perform_13 : decode cX0_perform 13 = .ok (.iconst 0, 1) := by decide +kernel
theorem dX0_perform_14 : decode cX0_perform 14 = .ok (.ireturn, 1) := by decide +kernel
theorem dX0_perform_15 : decode cX0_perform 15 = .ok (.aload_n 0, 1) := by decide +kernel
theorem dX0_perform_16 : decode cX0_perform 16 = .ok (.iload_n 1, 1) := by decide +kernel
theorem dX0_perform_17 : decode cX0_perform 17 = .ok (.putfield 36, 3) := by decide +kernel
theorem dX0_perform_20 : decode cX0_perform 20 = .ok (.aload_n 0, 1) := by decide +kernel
theorem dX0_perform_21 : decode cX0_perform 21 = .ok (.aload_n 0, 1) := by decide +kernel
theorem dX0_perform_22 : decode cX0_perform 22 = .ok (.getfield 11, 3) := by decide +kernel
theorem dX0_perform_25 : decode cX0_perform 25 = .ok (.iload_n 1, 1) := by decide +kernel
theorem dX0_perform_26 : decode cX0_perform 26 = .ok (.iaload, 1) := by decide +kernel
theorem dX0_perform_27 : decode cX0_perform 27 = .ok (.putfield 39, 3) := by decide +kernel
theorem dX0_perform_30 : decode cX0_perform 30 = .ok (.iload_n 2, 1) := by decide +kernel
theorem dX0_perform_31 : decode cX0_perform 31 = .ok (.tableswitch 73 0 3 #[29, 40, 51, 62], 29) := by decide +kernel
theorem dX0_perform_60 : decode cX0_perform 60 = .ok (.aload_n 0, 1) := by decide +kernel
theorem dX0_perform_61 : decode cX0_perform 61 = .ok (.aload_n 0, 1) := by decide +kernel
theorem dX0_perform_62 : decode cX0_perform 62 = .ok (.getfield 39, 3) := by decide +kernel
theorem dX0_perform_65 : decode cX0_perform 65 = .ok (.iload_n 3, 1) := by decide +kernel
theorem dX0_perform_66 : decode cX0_perform 66 = .ok (.iconst 0, 1) := by decide +kernel
theorem dX0_perform_67 : decode cX0_perform 67 = .ok (.invokevirtual 42, 3) := by decide +kernel
theorem dX0_perform_70 : decode cX0_perform 70 = .ok (.ireturn, 1) := by decide +kernel
theorem dX0_perform_71 : decode cX0_perform 71 = .ok (.aload_n 0, 1) := by decide +kernel
theorem dX0_perform_72 : decode cX0_perform 72 = .ok (.aload_n 0, 1) := by decide +kernel
theorem dX0_perform_73 : decode cX0_perform 73 = .ok (.getfield 39, 3) := by decide +kernel
theorem dX0_perform_76 : decode cX0_perform 76 = .ok (.iload_n 3, 1) := by decide +kernel
theorem dX0_perform_77 : decode cX0_perform 77 = .ok (.iconst 0, 1) := by decide +kernel
theorem dX0_perform_78 : decode cX0_perform 78 = .ok (.invokevirtual 46, 3) := by decide +kernel
theorem dX0_perform_81 : decode cX0_perform 81 = .ok (.ireturn, 1) := by decide +kernel
theorem dX0_perform_82 : decode cX0_perform 82 = .ok (.aload_n 0, 1) := by decide +kernel
theorem dX0_perform_83 : decode cX0_perform 83 = .ok (.aload_n 0, 1) := by decide +kernel
theorem dX0_perform_84 : decode cX0_perform 84 = .ok (.getfield 39, 3) := by decide +kernel
theorem dX0_perform_87 : decode cX0_perform 87 = .ok (.iload_n 3, 1) := by decide +kernel
theorem dX0_perform_88 : decode cX0_perform 88 = .ok (.iconst 0, 1) := by decide +kernel
theorem dX0_perform_89 : decode cX0_perform 89 = .ok (.invokevirtual 49, 3) := by decide +kernel
theorem dX0_perform_92 : decode cX0_perform 92 = .ok (.ireturn, 1) := by decide +kernel
theorem dX0_perform_93 : decode cX0_perform 93 = .ok (.aload_n 0, 1) := by decide +kernel
theorem dX0_perform_94 : decode cX0_perform 94 = .ok (.aload_n 0, 1) := by decide +kernel
theorem dX0_perform_95 : decode cX0_perform 95 = .ok (.getfield 39, 3) := by decide +kernel
theorem dX0_perform_98 : decode cX0_perform 98 = .ok (.iload_n 3, 1) := by decide +kernel
theorem dX0_perform_99 : decode cX0_perform 99 = .ok (.iconst 0, 1) := by decide +kernel
theorem dX0_perform_100 : decode cX0_perform 100 = .ok (.invokevirtual 52, 3) := by decide +kernel
theorem dX0_perform_103 : decode cX0_perform 103 = .ok (.ireturn, 1) := by decide +kernel
theorem dX0_perform_104 : decode cX0_perform 104 = .ok (.iconst 0, 1) := by decide +kernel
theorem dX0_perform_105 : decode cX0_perform 105 = .ok (.ireturn, 1) := by decide +kernel
theorem dX0_begin_0 : decode cX0_begin 0 = .ok (.aload_n 0, 1) := by decide +kernel
theorem dX0_begin_1 : decode cX0_begin 1 = .ok (.getfield 29, 3) := by decide +kernel
theorem dX0_begin_4 : decode cX0_begin 4 = .ok (.bipush 24, 2) := by decide +kernel
theorem dX0_begin_6 : decode cX0_begin 6 = .ok (.if_icmp .ge 13, 3) := by decide +kernel
theorem dX0_begin_9 : decode cX0_begin 9 = .ok (.aload_n 0, 1) := by decide +kernel
theorem dX0_begin_10 : decode cX0_begin 10 = .ok (.getfield 15, 3) := by decide +kernel
theorem dX0_begin_13 : decode cX0_begin 13 = .ok (.aload_n 0, 1) := by decide +kernel
theorem dX0_begin_14 : decode cX0_begin 14 = .ok (.getfield 29, 3) := by decide +kernel
theorem dX0_begin_17 : decode cX0_begin 17 = .ok (.iload_n 1, 1) := by decide +kernel
theorem dX0_begin_18 : decode cX0_begin 18 = .ok (.iastore, 1) := by decide +kernel
theorem dX0_begin_19 : decode cX0_begin 19 = .ok (.aload_n 0, 1) := by decide +kernel
theorem dX0_begin_20 : decode cX0_begin 20 = .ok (.dup, 1) := by decide +kernel
theorem dX0_begin_21 : decode cX0_begin 21 = .ok (.getfield 29, 3) := by decide +kernel
theorem dX0_begin_24 : decode cX0_begin 24 = .ok (.iconst 1, 1) := by decide +kernel
theorem dX0_begin_25 : decode cX0_begin 25 = .ok (.iadd, 1) := by decide +kernel
theorem dX0_begin_26 : decode cX0_begin 26 = .ok (.putfield 29, 3) := by decide +kernel
theorem dX0_begin_29 : decode cX0_begin 29 = .ok (.return_, 1) := by decide +kernel
theorem dX0_leads_0 : decode cX0_leads 0 = .ok (.iload_n 3, 1) := by decide +kernel
theorem dX0_leads_1 : decode cX0_leads 1 = .ok (.bipush 40, 2) := by decide +kernel
theorem dX0_leads_3 : decode cX0_leads 3 = .ok (.if_icmp .le 5, 3) := by decide +kernel
theorem dX0_leads_6 : decode cX0_leads 6 = .ok (.iconst 0, 1) := by decide +kernel
theorem dX0_leads_7 : decode cX0_leads 7 = .ok (.ireturn, 1) := by decide +kernel
theorem dX0_leads_8 : decode cX0_leads 8 = .ok (.iload_n 1, 1) := by decide +kernel
theorem dX0_leads_9 : decode cX0_leads 9 = .ok (.tableswitch 114 0 7 #[47, 59, 114, 114, 114, 114, 77, 95], 47) := by decide +kernel
theorem dX0_leads_56 : decode cX0_leads 56 = .ok (.aload_n 0, 1) := by decide +kernel
theorem dX0_leads_57 : decode cX0_leads 57 = .ok (.iconst 1, 1) := by decide +kernel
theorem dX0_leads_58 : decode cX0_leads 58 = .ok (.invokevirtual 55, 3) := by decide +kernel
theorem dX0_leads_61 : decode cX0_leads 61 = .ok (.iload_n 2, 1) := by decide +kernel
theorem dX0_leads_62 : decode cX0_leads 62 = .ok (.aload_n 0, 1) := by decide +kernel
theorem dX0_leads_63 : decode cX0_leads 63 = .ok (.getfield 36, 3) := by decide +kernel
theorem dX0_leads_66 : decode cX0_leads 66 = .ok (.iadd, 1) := by decide +kernel
theorem dX0_leads_67 : decode cX0_leads 67 = .ok (.ireturn, 1) := by decide +kernel
theorem dX0_leads_68 : decode cX0_leads 68 = .ok (.aload_n 0, 1) := by decide +kernel
theorem dX0_leads_69 : decode cX0_leads 69 = .ok (.bipush 20, 2) := by decide +kernel
theorem dX0_leads_71 : decode cX0_leads 71 = .ok (.invokevirtual 55, 3) := by decide +kernel
theorem dX0_leads_74 : decode cX0_leads 74 = .ok (.aload_n 0, 1) := by decide +kernel
theorem dX0_leads_75 : decode cX0_leads 75 = .ok (.iconst 0, 1) := by decide +kernel
theorem dX0_leads_76 : decode cX0_leads 76 = .ok (.iload_n 2, 1) := by decide +kernel
theorem dX0_leads_77 : decode cX0_leads 77 = .ok (.iload_n 3, 1) := by decide +kernel
theorem dX0_leads_78 : decode cX0_leads 78 = .ok (.iconst 1, 1) := by decide +kernel
theorem dX0_leads_79 : decode cX0_leads 79 = .ok (.iadd, 1) := by decide +kernel
theorem dX0_leads_80 : decode cX0_leads 80 = .ok (.invokevirtual 42, 3) := by decide +kernel
theorem dX0_leads_83 : decode cX0_leads 83 = .ok (.iconst 3, 1) := by decide +kernel
theorem dX0_leads_84 : decode cX0_leads 84 = .ok (.iadd, 1) := by decide +kernel
theorem dX0_leads_85 : decode cX0_leads 85 = .ok (.ireturn, 1) := by decide +kernel
theorem dX0_leads_86 : decode cX0_leads 86 = .ok (.aload_n 0, 1) := by decide +kernel
theorem dX0_leads_87 : decode cX0_leads 87 = .ok (.bipush 70, 2) := by decide +kernel
theorem dX0_leads_89 : decode cX0_leads 89 = .ok (.invokevirtual 55, 3) := by decide +kernel
theorem dX0_leads_92 : decode cX0_leads 92 = .ok (.aload_n 0, 1) := by decide +kernel
theorem dX0_leads_93 : decode cX0_leads 93 = .ok (.iconst 0, 1) := by decide +kernel
theorem dX0_leads_94 : decode cX0_leads 94 = .ok (.iload_n 2, 1) := by decide +kernel
theorem dX0_leads_95 : decode cX0_leads 95 = .ok (.iload_n 3, 1) := by decide +kernel
theorem dX0_leads_96 : decode cX0_leads 96 = .ok (.iconst 1, 1) := by decide +kernel
theorem dX0_leads_97 : decode cX0_leads 97 = .ok (.iadd, 1) := by decide +kernel
theorem dX0_leads_98 : decode cX0_leads 98 = .ok (.invokevirtual 42, 3) := by decide +kernel
theorem dX0_leads_101 : decode cX0_leads 101 = .ok (.iconst 2, 1) := by decide +kernel
theorem dX0_leads_102 : decode cX0_leads 102 = .ok (.imul, 1) := by decide +kernel
theorem dX0_leads_103 : decode cX0_leads 103 = .ok (.ireturn, 1) := by decide +kernel
theorem dX0_leads_104 : decode cX0_leads 104 = .ok (.aload_n 0, 1) := by decide +kernel
theorem dX0_leads_105 : decode cX0_leads 105 = .ok (.bipush 81, 2) := by decide +kernel
theorem dX0_leads_107 : decode cX0_leads 107 = .ok (.invokevirtual 55, 3) := by decide +kernel
theorem dX0_leads_110 : decode cX0_leads 110 = .ok (.aload_n 0, 1) := by decide +kernel
theorem dX0_leads_111 : decode cX0_leads 111 = .ok (.bipush 6, 2) := by decide +kernel
theorem dX0_leads_113 : decode cX0_leads 113 = .ok (.iload_n 2, 1) := by decide +kernel
theorem dX0_leads_114 : decode cX0_leads 114 = .ok (.iload_n 3, 1) := by decide +kernel
theorem dX0_leads_115 : decode cX0_leads 115 = .ok (.iconst 1, 1) := by decide +kernel
theorem dX0_leads_116 : decode cX0_leads 116 = .ok (.iadd, 1) := by decide +kernel
theorem dX0_leads_117 : decode cX0_leads 117 = .ok (.invokevirtual 42, 3) := by decide +kernel
theorem dX0_leads_120 : decode cX0_leads 120 = .ok (.iconst 1, 1) := by decide +kernel
theorem dX0_leads_121 : decode cX0_leads 121 = .ok (.isub, 1) := by decide +kernel
theorem dX0_leads_122 : decode cX0_leads 122 = .ok (.ireturn, 1) := by decide +kernel
theorem dX0_leads_123 : decode cX0_leads 123 = .ok (.aload_n 0, 1) := by decide +kernel
theorem dX0_leads_124 : decode cX0_leads 124 = .ok (.iload_n 1, 1) := by decide +kernel
theorem dX0_leads_125 : decode cX0_leads 125 = .ok (.invokestatic 22, 3) := by decide +kernel
theorem dX0_leads_128 : decode cX0_leads 128 = .ok (.iload_n 2, 1) := by decide +kernel
theorem dX0_leads_129 : decode cX0_leads 129 = .ok (.iload_n 3, 1) := by decide +kernel
theorem dX0_leads_130 : decode cX0_leads 130 = .ok (.iconst 1, 1) := by decide +kernel
theorem dX0_leads_131 : decode cX0_leads 131 = .ok (.iadd, 1) := by decide +kernel
theorem dX0_leads_132 : decode cX0_leads 132 = .ok (.invokevirtual 42, 3) := by decide +kernel
theorem dX0_leads_135 : decode cX0_leads 135 = .ok (.ireturn, 1) := by decide +kernel
theorem dX0_treads_0 : decode cX0_treads 0 = .ok (.iload_n 3, 1) := by decide +kernel
theorem dX0_treads_1 : decode cX0_treads 1 = .ok (.bipush 40, 2) := by decide +kernel
theorem dX0_treads_3 : decode cX0_treads 3 = .ok (.if_icmp .le 5, 3) := by decide +kernel
theorem dX0_treads_6 : decode cX0_treads 6 = .ok (.iconst 0, 1) := by decide +kernel
theorem dX0_treads_7 : decode cX0_treads 7 = .ok (.ireturn, 1) := by decide +kernel
theorem dX0_treads_8 : decode cX0_treads 8 = .ok (.iload_n 1, 1) := by decide +kernel
theorem dX0_treads_9 : decode cX0_treads 9 = .ok (.tableswitch 137 0 7 #[47, 137, 68, 85, 137, 137, 137, 103], 47) := by decide +kernel
theorem dX0_treads_56 : decode cX0_treads 56 = .ok (.aload_n 0, 1) := by decide +kernel
theorem dX0_treads_57 : decode cX0_treads 57 = .ok (.bipush 10, 2) := by decide +kernel
theorem dX0_treads_59 : decode cX0_treads 59 = .ok (.invokevirtual 55, 3) := by decide +kernel
theorem dX0_treads_62 : decode cX0_treads 62 = .ok (.aload_n 0, 1) := by decide +kernel
theorem dX0_treads_63 : decode cX0_treads 63 = .ok (.aload_n 0, 1) := by decide +kernel
theorem dX0_treads_64 : decode cX0_treads 64 = .ok (.getfield 39, 3) := by decide +kernel
theorem dX0_treads_67 : decode cX0_treads 67 = .ok (.iload_n 2, 1) := by decide +kernel
theorem dX0_treads_68 : decode cX0_treads 68 = .ok (.iload_n 3, 1) := by decide +kernel
theorem dX0_treads_69 : decode cX0_treads 69 = .ok (.iconst 1, 1) := by decide +kernel
theorem dX0_treads_70 : decode cX0_treads 70 = .ok (.iadd, 1) := by decide +kernel
theorem dX0_treads_71 : decode cX0_treads 71 = .ok (.invokevirtual 42, 3) := by decide +kernel
theorem dX0_treads_74 : decode cX0_treads 74 = .ok (.iconst 2, 1) := by decide +kernel
theorem dX0_treads_75 : decode cX0_treads 75 = .ok (.imul, 1) := by decide +kernel
theorem dX0_treads_76 : decode cX0_treads 76 = .ok (.ireturn, 1) := by decide +kernel
theorem dX0_treads_77 : decode cX0_treads 77 = .ok (.aload_n 0, 1) := by decide +kernel
theorem dX0_treads_78 : decode cX0_treads 78 = .ok (.bipush 30, 2) := by decide +kernel
theorem dX0_treads_80 : decode cX0_treads 80 = .ok (.invokevirtual 55, 3) := by decide +kernel
theorem dX0_treads_83 : decode cX0_treads 83 = .ok (.aload_n 0, 1) := by decide +kernel
theorem dX0_treads_84 : decode cX0_treads 84 = .ok (.iconst 0, 1) := by decide +kernel
theorem dX0_treads_85 : decode cX0_treads 85 = .ok (.iload_n 2, 1) := by decide +kernel
theorem dX0_treads_86 : decode cX0_treads 86 = .ok (.iload_n 3, 1) := by decide +kernel
theorem dX0_treads_87 : decode cX0_treads 87 = .ok (.iconst 1, 1) := by decide +kernel
theorem dX0_treads_88 : decode cX0_treads 88 = .ok (.iadd, 1) := by decide +kernel
theorem dX0_treads_89 : decode cX0_treads 89 = .ok (.invokevirtual 46, 3) := by decide +kernel
theorem dX0_treads_92 : decode cX0_treads 92 = .ok (.ineg, 1) := by decide +kernel
theorem dX0_treads_93 : decode cX0_treads 93 = .ok (.ireturn, 1) := by decide +kernel
theorem dX0_treads_94 : decode cX0_treads 94 = .ok (.aload_n 0, 1) := by decide +kernel
theorem dX0_treads_95 : decode cX0_treads 95 = .ok (.bipush 41, 2) := by decide +kernel
theorem dX0_treads_97 : decode cX0_treads 97 = .ok (.invokevirtual 55, 3) := by decide +kernel
theorem dX0_treads_100 : decode cX0_treads 100 = .ok (.aload_n 0, 1) := by decide +kernel
theorem dX0_treads_101 : decode cX0_treads 101 = .ok (.iconst 2, 1) := by decide +kernel
theorem dX0_treads_102 : decode cX0_treads 102 = .ok (.iload_n 2, 1) := by decide +kernel
theorem dX0_treads_103 : decode cX0_treads 103 = .ok (.iconst 1, 1) := by decide +kernel
theorem dX0_treads_104 : decode cX0_treads 104 = .ok (.iadd, 1) := by decide +kernel
theorem dX0_treads_105 : decode cX0_treads 105 = .ok (.iload_n 3, 1) := by decide +kernel
theorem dX0_treads_106 : decode cX0_treads 106 = .ok (.iconst 1, 1) := by decide +kernel
theorem dX0_treads_107 : decode cX0_treads 107 = .ok (.iadd, 1) := by decide +kernel
theorem dX0_treads_108 : decode cX0_treads 108 = .ok (.invokevirtual 46, 3) := by decide +kernel
theorem dX0_treads_111 : decode cX0_treads 111 = .ok (.ireturn, 1) := by decide +kernel
theorem dX0_treads_112 : decode cX0_treads 112 = .ok (.aload_n 0, 1) := by decide +kernel
theorem dX0_treads_113 : decode cX0_treads 113 = .ok (.bipush 80, 2) := by decide +kernel
theorem dX0_treads_115 : decode cX0_treads 115 = .ok (.invokevirtual 55, 3) := by decide +kernel
theorem dX0_treads_118 : decode cX0_treads 118 = .ok (.aload_n 0, 1) := by decide +kernel
theorem dX0_treads_119 : decode cX0_treads 119 = .ok (.bipush 6, 2) := by decide +kernel
theorem dX0_treads_121 : decode cX0_treads 121 = .ok (.iload_n 2, 1) := by decide +kernel
theorem dX0_treads_122 : decode cX0_treads 122 = .ok (.iload_n 3, 1) := by decide +kernel
theorem dX0_treads_123 : decode cX0_treads 123 = .ok (.iconst 1, 1) := by decide +kernel
theorem dX0_treads_124 : decode cX0_treads 124 = .ok (.iadd, 1) := by decide +kernel
theorem dX0_treads_125 : decode cX0_treads 125 = .ok (.invokevirtual 46, 3) := by decide +kernel
theorem dX0_treads_128 : decode cX0_treads 128 = .ok (.istore 4, 2) := by decide +kernel
theorem dX0_treads_130 : decode cX0_treads 130 = .ok (.iload 4, 2) := by decide +kernel
theorem dX0_treads_132 : decode cX0_treads 132 = .ok (.aload_n 0, 1) := by decide +kernel
theorem dX0_treads_133 : decode cX0_treads 133 = .ok (.aload_n 0, 1) := by decide +kernel
theorem dX0_treads_134 : decode cX0_treads 134 = .ok (.getfield 39, 3) := by decide +kernel
theorem dX0_treads_137 : decode cX0_treads 137 = .ok (.iconst 2, 1) := by decide +kernel
theorem dX0_treads_138 : decode cX0_treads 138 = .ok (.iload_n 3, 1) := by decide +kernel
theorem dX0_treads_139 : decode cX0_treads 139 = .ok (.iconst 1, 1) := by decide +kernel
theorem dX0_treads_140 : decode cX0_treads 140 = .ok (.iadd, 1) := by decide +kernel
theorem dX0_treads_141 : decode cX0_treads 141 = .ok (.invokevirtual 49, 3) := by decide +kernel
theorem dX0_treads_144 : decode cX0_treads 144 = .ok (.iadd, 1) := by decide +kernel
theorem dX0_treads_145 : decode cX0_treads 145 = .ok (.ireturn, 1) := by decide +kernel
theorem dX0_treads_146 : decode cX0_treads 146 = .ok (.aload_n 0, 1) := by decide +kernel
theorem dX0_treads_147 : decode cX0_treads 147 = .ok (.iload_n 1, 1) := by decide +kernel
theorem dX0_treads_148 : decode cX0_treads 148 = .ok (.invokestatic 22, 3) := by decide +kernel
theorem dX0_treads_151 : decode cX0_treads 151 = .ok (.iload_n 2, 1) := by decide +kernel
theorem dX0_treads_152 : decode cX0_treads 152 = .ok (.iload_n 3, 1) := by decide +kernel
theorem dX0_treads_153 : decode cX0_treads 153 = .ok (.iconst 1, 1) := by decide +kernel
theorem dX0_treads_154 : decode cX0_treads 154 = .ok (.iadd, 1) := by decide +kernel
theorem dX0_treads_155 : decode cX0_treads 155 = .ok (.invokevirtual 46, 3) := by decide +kernel
theorem dX0_treads_158 : decode cX0_treads 158 = .ok (.ireturn, 1) := by decide +kernel
theorem dX0_reads_0 : decode cX0_reads 0 = .ok (.iload_n 3, 1) := by decide +kernel
theorem dX0_reads_1 : decode cX0_reads 1 = .ok (.bipush 40, 2) := by decide +kernel
theorem dX0_reads_3 : decode cX0_reads 3 = .ok (.if_icmp .le 5, 3) := by decide +kernel
theorem dX0_reads_6 : decode cX0_reads 6 = .ok (.iconst 0, 1) := by decide +kernel
theorem dX0_reads_7 : decode cX0_reads 7 = .ok (.ireturn, 1) := by decide +kernel
theorem dX0_reads_8 : decode cX0_reads 8 = .ok (.iload_n 1, 1) := by decide +kernel
theorem dX0_reads_9 : decode cX0_reads 9 = .ok (.lookupswitch 99 #[(0, 35), (3, 48), (5, 66)], 35) := by decide +kernel
theorem dX0_reads_44 : decode cX0_reads 44 = .ok (.aload_n 0, 1) := by decide +kernel
theorem dX0_reads_45 : decode cX0_reads 45 = .ok (.bipush 11, 2) := by decide +kernel
theorem dX0_reads_47 : decode cX0_reads 47 = .ok (.invokevirtual 55, 3) := by decide +kernel
theorem dX0_reads_50 : decode cX0_reads 50 = .ok (.iload_n 2, 1) := by decide +kernel
theorem dX0_reads_51 : decode cX0_reads 51 = .ok (.aload_n 0, 1) := by decide +kernel
theorem dX0_reads_52 : decode cX0_reads 52 = .ok (.getfield 36, 3) := by decide +kernel
theorem dX0_reads_55 : decode cX0_reads 55 = .ok (.ixor, 1) := by decide +kernel
theorem dX0_reads_56 : decode cX0_reads 56 = .ok (.ireturn, 1) := by decide +kernel
theorem dX0_reads_57 : decode cX0_reads 57 = .ok (.aload_n 0, 1) := by decide +kernel
theorem dX0_reads_58 : decode cX0_reads 58 = .ok (.bipush 40, 2) := by decide +kernel
theorem dX0_reads_60 : decode cX0_reads 60 = .ok (.invokevirtual 55, 3) := by decide +kernel
theorem dX0_reads_63 : decode cX0_reads 63 = .ok (.aload_n 0, 1) := by decide +kernel
theorem dX0_reads_64 : decode cX0_reads 64 = .ok (.iconst 2, 1) := by decide +kernel
theorem dX0_reads_65 : decode cX0_reads 65 = .ok (.iload_n 2, 1) := by decide +kernel
theorem dX0_reads_66 : decode cX0_reads 66 = .ok (.iload_n 3, 1) := by decide +kernel
theorem dX0_reads_67 : decode cX0_reads 67 = .ok (.iconst 1, 1) := by decide +kernel
theorem dX0_reads_68 : decode cX0_reads 68 = .ok (.iadd, 1) := by decide +kernel
theorem dX0_reads_69 : decode cX0_reads 69 = .ok (.invokevirtual 49, 3) := by decide +kernel
theorem dX0_reads_72 : decode cX0_reads 72 = .ok (.iconst 3, 1) := by decide +kernel
theorem dX0_reads_73 : decode cX0_reads 73 = .ok (.imul, 1) := by decide +kernel
theorem dX0_reads_74 : decode cX0_reads 74 = .ok (.ireturn, 1) := by decide +kernel
theorem dX0_reads_75 : decode cX0_reads 75 = .ok (.aload_n 0, 1) := by decide +kernel
theorem dX0_reads_76 : decode cX0_reads 76 = .ok (.bipush 60, 2) := by decide +kernel
theorem dX0_reads_78 : decode cX0_reads 78 = .ok (.invokevirtual 55, 3) := by decide +kernel
theorem dX0_reads_81 : decode cX0_reads 81 = .ok (.aload_n 0, 1) := by decide +kernel
theorem dX0_reads_82 : decode cX0_reads 82 = .ok (.iconst 3, 1) := by decide +kernel
theorem dX0_reads_83 : decode cX0_reads 83 = .ok (.iload_n 2, 1) := by decide +kernel
theorem dX0_reads_84 : decode cX0_reads 84 = .ok (.iload_n 3, 1) := by decide +kernel
theorem dX0_reads_85 : decode cX0_reads 85 = .ok (.iconst 1, 1) := by decide +kernel
theorem dX0_reads_86 : decode cX0_reads 86 = .ok (.iadd, 1) := by decide +kernel
theorem dX0_reads_87 : decode cX0_reads 87 = .ok (.invokevirtual 49, 3) := by decide +kernel
theorem dX0_reads_90 : decode cX0_reads 90 = .ok (.istore 4, 2) := by decide +kernel
theorem dX0_reads_92 : decode cX0_reads 92 = .ok (.iload 4, 2) := by decide +kernel
theorem dX0_reads_94 : decode cX0_reads 94 = .ok (.aload_n 0, 1) := by decide +kernel
theorem dX0_reads_95 : decode cX0_reads 95 = .ok (.aload_n 0, 1) := by decide +kernel
theorem dX0_reads_96 : decode cX0_reads 96 = .ok (.getfield 39, 3) := by decide +kernel
theorem dX0_reads_99 : decode cX0_reads 99 = .ok (.iconst 2, 1) := by decide +kernel
theorem dX0_reads_100 : decode cX0_reads 100 = .ok (.iload_n 3, 1) := by decide +kernel
theorem dX0_reads_101 : decode cX0_reads 101 = .ok (.iconst 1, 1) := by decide +kernel
theorem dX0_reads_102 : decode cX0_reads 102 = .ok (.iadd, 1) := by decide +kernel
theorem dX0_reads_103 : decode cX0_reads 103 = .ok (.invokevirtual 42, 3) := by decide +kernel
theorem dX0_reads_106 : decode cX0_reads 106 = .ok (.isub, 1) := by decide +kernel
theorem dX0_reads_107 : decode cX0_reads 107 = .ok (.ireturn, 1) := by decide +kernel
theorem dX0_reads_108 : decode cX0_reads 108 = .ok (.aload_n 0, 1) := by decide +kernel
theorem dX0_reads_109 : decode cX0_reads 109 = .ok (.iload_n 1, 1) := by decide +kernel
theorem dX0_reads_110 : decode cX0_reads 110 = .ok (.invokestatic 22, 3) := by decide +kernel
theorem dX0_reads_113 : decode cX0_reads 113 = .ok (.iload_n 2, 1) := by decide +kernel
theorem dX0_reads_114 : decode cX0_reads 114 = .ok (.iload_n 3, 1) := by decide +kernel
theorem dX0_reads_115 : decode cX0_reads 115 = .ok (.iconst 1, 1) := by decide +kernel
theorem dX0_reads_116 : decode cX0_reads 116 = .ok (.iadd, 1) := by decide +kernel
theorem dX0_reads_117 : decode cX0_reads 117 = .ok (.invokevirtual 49, 3) := by decide +kernel
theorem dX0_reads_120 : decode cX0_reads 120 = .ok (.ireturn, 1) := by decide +kernel
theorem dX0_tells_0 : decode cX0_tells 0 = .ok (.iload_n 3, 1) := by decide +kernel
theorem dX0_tells_1 : decode cX0_tells 1 = .ok (.bipush 40, 2) := by decide +kernel
theorem dX0_tells_3 : decode cX0_tells 3 = .ok (.if_icmp .le 5, 3) := by decide +kernel
theorem dX0_tells_6 : decode cX0_tells 6 = .ok (.iconst 0, 1) := by decide +kernel
theorem dX0_tells_7 : decode cX0_tells 7 = .ok (.ireturn, 1) := by decide +kernel
theorem dX0_tells_8 : decode cX0_tells 8 = .ok (.iload_n 1, 1) := by decide +kernel
theorem dX0_tells_9 : decode cX0_tells 9 = .ok (.lookupswitch 106 #[(0, 35), (4, 70), (5, 88)], 35) := by decide +kernel
theorem dX0_tells_44 : decode cX0_tells 44 = .ok (.aload_n 0, 1) := by decide +kernel
theorem dX0_tells_45 : decode cX0_tells 45 = .ok (.iconst 2, 1) := by decide +kernel
theorem dX0_tells_46 : decode cX0_tells 46 = .ok (.invokevirtual 55, 3) := by decide +kernel
theorem dX0_tells_49 : decode cX0_tells 49 = .ok (.aload_n 0, 1) := by decide +kernel
theorem dX0_tells_50 : decode cX0_tells 50 = .ok (.aload_n 0, 1) := by decide +kernel
theorem dX0_tells_51 : decode cX0_tells 51 = .ok (.getfield 39, 3) := by decide +kernel
theorem dX0_tells_54 : decode cX0_tells 54 = .ok (.iload_n 2, 1) := by decide +kernel
theorem dX0_tells_55 : decode cX0_tells 55 = .ok (.iload_n 3, 1) := by decide +kernel
theorem dX0_tells_56 : decode cX0_tells 56 = .ok (.iconst 1, 1) := by decide +kernel
theorem dX0_tells_57 : decode cX0_tells 57 = .ok (.iadd, 1) := by decide +kernel
theorem dX0_tells_58 : decode cX0_tells 58 = .ok (.invokevirtual 46, 3) := by decide +kernel
theorem dX0_tells_61 : decode cX0_tells 61 = .ok (.istore 4, 2) := by decide +kernel
theorem dX0_tells_63 : decode cX0_tells 63 = .ok (.iload 4, 2) := by decide +kernel
theorem dX0_tells_65 : decode cX0_tells 65 = .ok (.aload_n 0, 1) := by decide +kernel
theorem dX0_tells_66 : decode cX0_tells 66 = .ok (.aload_n 0, 1) := by decide +kernel
theorem dX0_tells_67 : decode cX0_tells 67 = .ok (.getfield 39, 3) := by decide +kernel
theorem dX0_tells_70 : decode cX0_tells 70 = .ok (.iconst 1, 1) := by decide +kernel
theorem dX0_tells_71 : decode cX0_tells 71 = .ok (.iload_n 3, 1) := by decide +kernel
theorem dX0_tells_72 : decode cX0_tells 72 = .ok (.iconst 1, 1) := by decide +kernel
theorem dX0_tells_73 : decode cX0_tells 73 = .ok (.iadd, 1) := by decide +kernel
theorem dX0_tells_74 : decode cX0_tells 74 = .ok (.invokevirtual 49, 3) := by decide +kernel
theorem dX0_tells_77 : decode cX0_tells 77 = .ok (.isub, 1) := by decide +kernel
theorem dX0_tells_78 : decode cX0_tells 78 = .ok (.ireturn, 1) := by decide +kernel
theorem dX0_tells_79 : decode cX0_tells 79 = .ok (.aload_n 0, 1) := by decide +kernel
theorem dX0_tells_80 : decode cX0_tells 80 = .ok (.bipush 50, 2) := by decide +kernel
theorem dX0_tells_82 : decode cX0_tells 82 = .ok (.invokevirtual 55, 3) := by decide +kernel
theorem dX0_tells_85 : decode cX0_tells 85 = .ok (.aload_n 0, 1) := by decide +kernel
theorem dX0_tells_86 : decode cX0_tells 86 = .ok (.iconst 1, 1) := by decide +kernel
theorem dX0_tells_87 : decode cX0_tells 87 = .ok (.iload_n 2, 1) := by decide +kernel
theorem dX0_tells_88 : decode cX0_tells 88 = .ok (.iload_n 3, 1) := by decide +kernel
theorem dX0_tells_89 : decode cX0_tells 89 = .ok (.iconst 1, 1) := by decide +kernel
theorem dX0_tells_90 : decode cX0_tells 90 = .ok (.iadd, 1) := by decide +kernel
theorem dX0_tells_91 : decode cX0_tells 91 = .ok (.invokevirtual 52, 3) := by decide +kernel
theorem dX0_tells_94 : decode cX0_tells 94 = .ok (.iconst 5, 1) := by decide +kernel
theorem dX0_tells_95 : decode cX0_tells 95 = .ok (.ixor, 1) := by decide +kernel
theorem dX0_tells_96 : decode cX0_tells 96 = .ok (.ireturn, 1) := by decide +kernel
theorem dX0_tells_97 : decode cX0_tells 97 = .ok (.aload_n 0, 1) := by decide +kernel
theorem dX0_tells_98 : decode cX0_tells 98 = .ok (.bipush 61, 2) := by decide +kernel
theorem dX0_tells_100 : decode cX0_tells 100 = .ok (.invokevirtual 55, 3) := by decide +kernel
theorem dX0_tells_103 : decode cX0_tells 103 = .ok (.aload_n 0, 1) := by decide +kernel
theorem dX0_tells_104 : decode cX0_tells 104 = .ok (.iconst 3, 1) := by decide +kernel
theorem dX0_tells_105 : decode cX0_tells 105 = .ok (.iload_n 2, 1) := by decide +kernel
theorem dX0_tells_106 : decode cX0_tells 106 = .ok (.iload_n 3, 1) := by decide +kernel
theorem dX0_tells_107 : decode cX0_tells 107 = .ok (.iconst 1, 1) := by decide +kernel
theorem dX0_tells_108 : decode cX0_tells 108 = .ok (.iadd, 1) := by decide +kernel
theorem dX0_tells_109 : decode cX0_tells 109 = .ok (.invokevirtual 52, 3) := by decide +kernel
theorem dX0_tells_112 : decode cX0_tells 112 = .ok (.iconst 1, 1) := by decide +kernel
theorem dX0_tells_113 : decode cX0_tells 113 = .ok (.iadd, 1) := by decide +kernel
theorem dX0_tells_114 : decode cX0_tells 114 = .ok (.ireturn, 1) := by decide +kernel
theorem dX0_tells_115 : decode cX0_tells 115 = .ok (.aload_n 0, 1) := by decide +kernel
theorem dX0_tells_116 : decode cX0_tells 116 = .ok (.iload_n 1, 1) := by decide +kernel
theorem dX0_tells_117 : decode cX0_tells 117 = .ok (.invokestatic 22, 3) := by decide +kernel
theorem dX0_tells_120 : decode cX0_tells 120 = .ok (.iload_n 2, 1) := by decide +kernel
theorem dX0_tells_121 : decode cX0_tells 121 = .ok (.iload_n 3, 1) := by decide +kernel
theorem dX0_tells_122 : decode cX0_tells 122 = .ok (.iconst 1, 1) := by decide +kernel
theorem dX0_tells_123 : decode cX0_tells 123 = .ok (.iadd, 1) := by decide +kernel
theorem dX0_tells_124 : decode cX0_tells 124 = .ok (.invokevirtual 52, 3) := by decide +kernel
theorem dX0_tells_127 : decode cX0_tells 127 = .ok (.ireturn, 1) := by decide +kernel
theorem dX1_init_0 : decode cX1_init 0 = .ok (.aload_n 0, 1) := by decide +kernel
theorem dX1_init_1 : decode cX1_init 1 = .ok (.invokespecial 1, 3) := by decide +kernel
theorem dX1_init_4 : decode cX1_init 4 = .ok (.aload_n 0, 1) := by decide +kernel
theorem dX1_init_5 : decode cX1_init 5 = .ok (.iconst 4, 1) := by decide +kernel
theorem dX1_init_6 : decode cX1_init 6 = .ok (.bipush 40, 2) := by decide +kernel
theorem dX1_init_8 : decode cX1_init 8 = .ok (.multianewarray 9 2, 4) := by decide +kernel
theorem dX1_init_12 : decode cX1_init 12 = .ok (.putfield 11, 3) := by decide +kernel
theorem dX1_init_15 : decode cX1_init 15 = .ok (.return_, 1) := by decide +kernel
theorem dX1_note_0 : decode cX1_note 0 = .ok (.aload_n 0, 1) := by decide +kernel
theorem dX1_note_1 : decode cX1_note 1 = .ok (.getfield 14, 3) := by decide +kernel
theorem dX1_note_4 : decode cX1_note 4 = .ok (.bipush 40, 2) := by decide +kernel
theorem dX1_note_6 : decode cX1_note 6 = .ok (.if_icmp .lt 7, 3) := by decide +kernel
theorem dX1_note_9 : decode cX1_note 9 = .ok (.aload_n 0, 1) := by decide +kernel
theorem dX1_note_10 : decode cX1_note 10 = .ok (.invokevirtual 18, 3) := by decide +kernel
theorem dX1_note_13 : decode cX1_note 13 = .ok (.aload_n 0, 1) := by decide +kernel
theorem dX1_note_14 : decode cX1_note 14 = .ok (.getfield 11, 3) := by decide +kernel
theorem dX1_note_17 : decode cX1_note 17 = .ok (.iconst 0, 1) := by decide +kernel
theorem dX1_note_18 : decode cX1_note 18 = .ok (.aaload, 1) := by decide +kernel
theorem dX1_note_19 : decode cX1_note 19 = .ok (.aload_n 0, 1) := by decide +kernel
theorem dX1_note_20 : decode cX1_note 20 = .ok (.getfield 14, 3) := by decide +kernel
theorem dX1_note_23 : decode cX1_note 23 = .ok (.iload_n 1, 1) := by decide +kernel
theorem dX1_note_24 : decode cX1_note 24 = .ok (.iastore, 1) := by decide +kernel
theorem dX1_note_25 : decode cX1_note 25 = .ok (.aload_n 0, 1) := by decide +kernel
theorem dX1_note_26 : decode cX1_note 26 = .ok (.getfield 11, 3) := by decide +kernel
theorem dX1_note_29 : decode cX1_note 29 = .ok (.iconst 1, 1) := by decide +kernel
theorem dX1_note_30 : decode cX1_note 30 = .ok (.aaload, 1) := by decide +kernel
theorem dX1_note_31 : decode cX1_note 31 = .ok (.aload_n 0, 1) := by decide +kernel
theorem dX1_note_32 : decode cX1_note 32 = .ok (.getfield 14, 3) := by decide +kernel
theorem dX1_note_35 : decode cX1_note 35 = .ok (.iload_n 2, 1) := by decide +kernel
theorem dX1_note_36 : decode cX1_note 36 = .ok (.iastore, 1) := by decide +kernel
theorem dX1_note_37 : decode cX1_note 37 = .ok (.aload_n 0, 1) := by decide +kernel
theorem dX1_note_38 : decode cX1_note 38 = .ok (.getfield 11, 3) := by decide +kernel
theorem dX1_note_41 : decode cX1_note 41 = .ok (.iconst 2, 1) := by decide +kernel
theorem dX1_note_42 : decode cX1_note 42 = .ok (.aaload, 1) := by decide +kernel
theorem dX1_note_43 : decode cX1_note 43 = .ok (.aload_n 0, 1) := by decide +kernel
theorem dX1_note_44 : decode cX1_note 44 = .ok (.getfield 14, 3) := by decide +kernel
theorem dX1_note_47 : decode cX1_note 47 = .ok (.iload_n 3, 1) := by decide +kernel
theorem dX1_note_48 : decode cX1_note 48 = .ok (.iastore, 1) := by decide +kernel
theorem dX1_note_49 : decode cX1_note 49 = .ok (.aload_n 0, 1) := by decide +kernel
theorem dX1_note_50 : decode cX1_note 50 = .ok (.getfield 11, 3) := by decide +kernel
theorem dX1_note_53 : decode cX1_note 53 = .ok (.iconst 3, 1) := by decide +kernel
theorem dX1_note_54 : decode cX1_note 54 = .ok (.aaload, 1) := by decide +kernel
theorem dX1_note_55 : decode cX1_note 55 = .ok (.aload_n 0, 1) := by decide +kernel
theorem dX1_note_56 : decode cX1_note 56 = .ok (.getfield 14, 3) := by decide +kernel
theorem dX1_note_59 : decode cX1_note 59 = .ok (.iload 4, 2) := by decide +kernel
theorem dX1_note_61 : decode cX1_note 61 = .ok (.iastore, 1) := by decide +kernel
theorem dX1_note_62 : decode cX1_note 62 = .ok (.aload_n 0, 1) := by decide +kernel
theorem dX1_note_63 : decode cX1_note 63 = .ok (.dup, 1) := by decide +kernel
theorem dX1_note_64 : decode cX1_note 64 = .ok (.getfield 14, 3) := by decide +kernel
theorem dX1_note_67 : decode cX1_note 67 = .ok (.iconst 1, 1) := by decide +kernel
theorem dX1_note_68 : decode cX1_note 68 = .ok (.iadd, 1) := by decide +kernel
theorem dX1_note_69 : decode cX1_note 69 = .ok (.putfield 14, 3) := by decide +kernel
theorem dX1_note_72 : decode cX1_note 72 = .ok (.aload_n 0, 1) := by decide +kernel
theorem dX1_note_73 : decode cX1_note 73 = .ok (.aload_n 0, 1) := by decide +kernel
theorem dX1_note_74 : decode cX1_note 74 = .ok (.getfield 14, 3) := by decide +kernel
theorem dX1_note_77 : decode cX1_note 77 = .ok (.putfield 21, 3) := by decide +kernel
theorem dX1_note_80 : decode cX1_note 80 = .ok (.return_, 1) := by decide +kernel
theorem dX1_dropOldest_0 : decode cX1_dropOldest 0 = .ok (.iconst 0, 1) := by decide +kernel
theorem dX1_dropOldest_1 : decode cX1_dropOldest 1 = .ok (.istore_n 1, 1) := by decide +kernel
theorem dX1_dropOldest_2 : decode cX1_dropOldest 2 = .ok (.iload_n 1, 1) := by decide +kernel
theorem dX1_dropOldest_3 : decode cX1_dropOldest 3 = .ok (.iconst 3, 1) := by decide +kernel
theorem dX1_dropOldest_4 : decode cX1_dropOldest 4 = .ok (.if_icmp .gt 28, 3) := by decide +kernel
theorem dX1_dropOldest_7 : decode cX1_dropOldest 7 = .ok (.aload_n 0, 1) := by decide +kernel
theorem dX1_dropOldest_8 : decode cX1_dropOldest 8 = .ok (.getfield 11, 3) := by decide +kernel
theorem dX1_dropOldest_11 : decode cX1_dropOldest 11 = .ok (.iload_n 1, 1) := by decide +kernel
theorem dX1_dropOldest_12 : decode cX1_dropOldest 12 = .ok (.aaload, 1) := by decide +kernel
theorem dX1_dropOldest_13 : decode cX1_dropOldest 13 = .ok (.iconst 1, 1) := by decide +kernel
theorem dX1_dropOldest_14 : decode cX1_dropOldest 14 = .ok (.aload_n 0, 1) := by decide +kernel
theorem dX1_dropOldest_15 : decode cX1_dropOldest 15 = .ok (.getfield 11, 3) := by decide +kernel
theorem dX1_dropOldest_18 : decode cX1_dropOldest 18 = .ok (.iload_n 1, 1) := by decide +kernel
theorem dX1_dropOldest_19 : decode cX1_dropOldest 19 = .ok (.aaload, 1) := by decide +kernel
theorem dX1_dropOldest_20 : decode cX1_dropOldest 20 = .ok (.iconst 0, 1) := by decide +kernel
theorem dX1_dropOldest_21 : decode cX1_dropOldest 21 = .ok (.bipush 39, 2) := by decide +kernel
theorem dX1_dropOldest_23 : decode cX1_dropOldest 23 = .ok (.invokestatic 24, 3) := by decide +kernel
theorem dX1_dropOldest_26 : decode cX1_dropOldest 26 = .ok (.iinc 1 1, 3) := by decide +kernel
theorem dX1_dropOldest_29 : decode cX1_dropOldest 29 = .ok (.goto (-27), 3) := by decide +kernel
theorem dX1_dropOldest_32 : decode cX1_dropOldest 32 = .ok (.aload_n 0, 1) := by decide +kernel
theorem dX1_dropOldest_33 : decode cX1_dropOldest 33 = .ok (.bipush 39, 2) := by decide +kernel
theorem dX1_dropOldest_35 : decode cX1_dropOldest 35 = .ok (.putfield 14, 3) := by decide +kernel
theorem dX1_dropOldest_38 : decode cX1_dropOldest 38 = .ok (.return_, 1) := by decide +kernel
theorem dX1_unmake_0 : decode cX1_unmake 0 = .ok (.aload_n 0, 1) := by decide +kernel
theorem dX1_unmake_1 : decode cX1_unmake 1 = .ok (.getfield 14, 3) := by decide +kernel
theorem dX1_unmake_4 : decode cX1_unmake 4 = .ok (.ifCond .gt 5, 3) := by decide +kernel
theorem dX1_unmake_7 : decode cX1_unmake 7 = .ok (.iconst 0, 1) := by decide +kernel
theorem dX1_unmake_8 : decode cX1_unmake 8 = .ok (.ireturn, 1) := by decide +kernel
theorem dX1_unmake_9 : decode cX1_unmake 9 = .ok (.aload_n 0, 1) := by decide +kernel
theorem dX1_unmake_10 : decode cX1_unmake 10 = .ok (.dup, 1) := by decide +kernel
theorem dX1_unmake_11 : decode cX1_unmake 11 = .ok (.getfield 14, 3) := by decide +kernel
theorem dX1_unmake_14 : decode cX1_unmake 14 = .ok (.iconst 1, 1) := by decide +kernel
theorem dX1_unmake_15 : decode cX1_unmake 15 = .ok (.isub, 1) := by decide +kernel
theorem dX1_unmake_16 : decode cX1_unmake 16 = .ok (.putfield 14, 3) := by decide +kernel
theorem dX1_unmake_19 : decode cX1_unmake 19 = .ok (.aload_n 1, 1) := by decide +kernel
theorem dX1_unmake_20 : decode cX1_unmake 20 = .ok (.aload_n 0, 1) := by decide +kernel
theorem dX1_unmake_21 : decode cX1_unmake 21 = .ok (.getfield 11, 3) := by decide +kernel
theorem dX1_unmake_24 : decode cX1_unmake 24 = .ok (.iconst 1, 1) := by decide +kernel
theorem dX1_unmake_25 : decode cX1_unmake 25 = .ok (.aaload, 1) := by decide +kernel
theorem dX1_unmake_26 : decode cX1_unmake 26 = .ok (.aload_n 0, 1) := by decide +kernel
theorem dX1_unmake_27 : decode cX1_unmake 27 = .ok (.getfield 14, 3) := by decide +kernel
theorem dX1_unmake_30 : decode cX1_unmake 30 = .ok (.iaload, 1) := by decide +kernel
theorem dX1_unmake_31 : decode cX1_unmake 31 = .ok (.aload_n 0, 1) := by decide +kernel
theorem dX1_unmake_32 : decode cX1_unmake 32 = .ok (.getfield 11, 3) := by decide +kernel
theorem dX1_unmake_35 : decode cX1_unmake 35 = .ok (.iconst 0, 1) := by decide +kernel
theorem dX1_unmake_36 : decode cX1_unmake 36 = .ok (.aaload, 1) := by decide +kernel
theorem dX1_unmake_37 : decode cX1_unmake 37 = .ok (.aload_n 0, 1) := by decide +kernel
theorem dX1_unmake_38 : decode cX1_unmake 38 = .ok (.getfield 14, 3) := by decide +kernel
theorem dX1_unmake_41 : decode cX1_unmake 41 = .ok (.iaload, 1) := by decide +kernel
theorem dX1_unmake_42 : decode cX1_unmake 42 = .ok (.aload_n 0, 1) := by decide +kernel
theorem dX1_unmake_43 : decode cX1_unmake 43 = .ok (.getfield 11, 3) := by decide +kernel
theorem dX1_unmake_46 : decode cX1_unmake 46 = .ok (.iconst 2, 1) := by decide +kernel
theorem dX1_unmake_47 : decode cX1_unmake 47 = .ok (.aaload, 1) := by decide +kernel
theorem dX1_unmake_48 : decode cX1_unmake 48 = .ok (.aload_n 0, 1) := by decide +kernel
theorem dX1_unmake_49 : decode cX1_unmake 49 = .ok (.getfield 14, 3) := by decide +kernel
theorem dX1_unmake_52 : decode cX1_unmake 52 = .ok (.iaload, 1) := by decide +kernel
theorem dX1_unmake_53 : decode cX1_unmake 53 = .ok (.invokevirtual 30, 3) := by decide +kernel
theorem dX1_unmake_56 : decode cX1_unmake 56 = .ok (.iconst 1, 1) := by decide +kernel
theorem dX1_unmake_57 : decode cX1_unmake 57 = .ok (.ireturn, 1) := by decide +kernel
theorem dX1_remake_0 : decode cX1_remake 0 = .ok (.aload_n 0, 1) := by decide +kernel
theorem dX1_remake_1 : decode cX1_remake 1 = .ok (.getfield 14, 3) := by decide +kernel
theorem dX1_remake_4 : decode cX1_remake 4 = .ok (.aload_n 0, 1) := by decide +kernel
theorem dX1_remake_5 : decode cX1_remake 5 = .ok (.getfield 21, 3) := by decide +kernel
theorem dX1_remake_8 : decode cX1_remake 8 = .ok (.if_icmp .lt 5, 3) := by decide +kernel
theorem dX1_remake_11 : decode cX1_remake 11 = .ok (.iconst 0, 1) := by decide +kernel
theorem dX1_remake_12 : decode cX1_remake 12 = .ok (.ireturn, 1) := by decide +kernel
theorem dX1_remake_13 : decode cX1_remake 13 = .ok (.aload_n 1, 1) := by decide +kernel
theorem dX1_remake_14 : decode cX1_remake 14 = .ok (.aload_n 0, 1) := by decide +kernel
theorem dX1_remake_15 : decode cX1_remake 15 = .ok (.getfield 11, 3) := by decide +kernel
theorem dX1_remake_18 : decode cX1_remake 18 = .ok (.iconst 1, 1) := by decide +kernel
theorem dX1_remake_19 : decode cX1_remake 19 = .ok (.aaload, 1) := by decide +kernel
theorem dX1_remake_20 : decode cX1_remake 20 = .ok (.aload_n 0, 1) := by decide +kernel
theorem dX1_remake_21 : decode cX1_remake 21 = .ok (.getfield 14, 3) := by decide +kernel
theorem dX1_remake_24 : decode cX1_remake 24 = .ok (.iaload, 1) := by decide +kernel
theorem dX1_remake_25 : decode cX1_remake 25 = .ok (.aload_n 0, 1) := by decide +kernel
theorem dX1_remake_26 : decode cX1_remake 26 = .ok (.getfield 11, 3) := by decide +kernel
theorem dX1_remake_29 : decode cX1_remake 29 = .ok (.iconst 0, 1) := by decide +kernel
theorem dX1_remake_30 : decode cX1_remake 30 = .ok (.aaload, 1) := by decide +kernel
theorem dX1_remake_31 : decode cX1_remake 31 = .ok (.aload_n 0, 1) := by decide +kernel
theorem dX1_remake_32 : decode cX1_remake 32 = .ok (.getfield 14, 3) := by decide +kernel
theorem dX1_remake_35 : decode cX1_remake 35 = .ok (.iaload, 1) := by decide +kernel
theorem dX1_remake_36 : decode cX1_remake 36 = .ok (.aload_n 0, 1) := by decide +kernel
theorem dX1_remake_37 : decode cX1_remake 37 = .ok (.getfield 11, 3) := by decide +kernel
theorem dX1_remake_40 : decode cX1_remake 40 = .ok (.iconst 3, 1) := by decide +kernel
theorem dX1_remake_41 : decode cX1_remake 41 = .ok (.aaload, 1) := by decide +kernel
theorem dX1_remake_42 : decode cX1_remake 42 = .ok (.aload_n 0, 1) := by decide +kernel
theorem dX1_remake_43 : decode cX1_remake 43 = .ok (.getfield 14, 3) := by decide +kernel
theorem dX1_remake_46 : decode cX1_remake 46 = .ok (.iaload, 1) := by decide +kernel
theorem dX1_remake_47 : decode cX1_remake 47 = .ok (.invokevirtual 30, 3) := by decide +kernel
theorem dX1_remake_50 : decode cX1_remake 50 = .ok (.aload_n 0, 1) := by decide +kernel
theorem dX1_remake_51 : decode cX1_remake 51 = .ok (.dup, 1) := by decide +kernel
theorem dX1_remake_52 : decode cX1_remake 52 = .ok (.getfield 14, 3) := by decide +kernel
theorem dX1_remake_55 : decode cX1_remake 55 = .ok (.iconst 1, 1) := by decide +kernel
theorem dX1_remake_56 : decode cX1_remake 56 = .ok (.iadd, 1) := by decide +kernel
theorem dX1_remake_57 : decode cX1_remake 57 = .ok (.putfield 14, 3) := by decide +kernel
theorem dX1_remake_60 : decode cX1_remake 60 = .ok (.iconst 1, 1) := by decide +kernel
theorem dX1_remake_61 : decode cX1_remake 61 = .ok (.ireturn, 1) := by decide +kernel
theorem dX1_unmade_0 : decode cX1_unmade 0 = .ok (.aload_n 0, 1) := by decide +kernel
theorem dX1_unmade_1 : decode cX1_unmade 1 = .ok (.getfield 21, 3) := by decide +kernel
theorem dX1_unmade_4 : decode cX1_unmade 4 = .ok (.aload_n 0, 1) := by decide +kernel
theorem dX1_unmade_5 : decode cX1_unmade 5 = .ok (.getfield 14, 3) := by decide +kernel
theorem dX1_unmade_8 : decode cX1_unmade 8 = .ok (.isub, 1) := by decide +kernel
theorem dX1_unmade_9 : decode cX1_unmade 9 = .ok (.ireturn, 1) := by decide +kernel
theorem dX2_init_0 : decode cX2_init 0 = .ok (.aload_n 0, 1) := by decide +kernel
theorem dX2_init_1 : decode cX2_init 1 = .ok (.invokespecial 3, 3) := by decide +kernel
theorem dX2_init_4 : decode cX2_init 4 = .ok (.aload_n 0, 1) := by decide +kernel
theorem dX2_init_5 : decode cX2_init 5 = .ok (.iconst 1, 1) := by decide +kernel
theorem dX2_init_6 : decode cX2_init 6 = .ok (.putfield 9, 3) := by decide +kernel
theorem dX2_init_9 : decode cX2_init 9 = .ok (.aload_n 0, 1) := by decide +kernel
theorem dX2_init_10 : decode cX2_init 10 = .ok (.sipush 1024, 3) := by decide +kernel
theorem dX2_init_13 : decode cX2_init 13 = .ok (.newarray .int, 2) := by decide +kernel
theorem dX2_init_15 : decode cX2_init 15 = .ok (.putfield 15, 3) := by decide +kernel
theorem dX2_init_18 : decode cX2_init 18 = .ok (.aload_n 0, 1) := by decide +kernel
theorem dX2_init_19 : decode cX2_init 19 = .ok (.sipush 1024, 3) := by decide +kernel
theorem dX2_init_22 : decode cX2_init 22 = .ok (.newarray .int, 2) := by decide +kernel
theorem dX2_init_24 : decode cX2_init 24 = .ok (.putfield 19, 3) := by decide +kernel
theorem dX2_init_27 : decode cX2_init 27 = .ok (.aload_n 0, 1) := by decide +kernel
theorem dX2_init_28 : decode cX2_init 28 = .ok (.iconst 5, 1) := by decide +kernel
theorem dX2_init_29 : decode cX2_init 29 = .ok (.newarray .int, 2) := by decide +kernel
theorem dX2_init_31 : decode cX2_init 31 = .ok (.putfield 22, 3) := by decide +kernel
theorem dX2_init_34 : decode cX2_init 34 = .ok (.aload_n 0, 1) := by decide +kernel
theorem dX2_init_35 : decode cX2_init 35 = .ok (.iconst 5, 1) := by decide +kernel
theorem dX2_init_36 : decode cX2_init 36 = .ok (.newarray .int, 2) := by decide +kernel
theorem dX2_init_38 : decode cX2_init 38 = .ok (.putfield 25, 3) := by decide +kernel
theorem dX2_init_41 : decode cX2_init 41 = .ok (.aload_n 0, 1) := by decide +kernel
theorem dX2_init_42 : decode cX2_init 42 = .ok (.sipush 160, 3) := by decide +kernel
theorem dX2_init_45 : decode cX2_init 45 = .ok (.newarray .int, 2) := by decide +kernel
theorem dX2_init_47 : decode cX2_init 47 = .ok (.putfield 28, 3) := by decide +kernel
theorem dX2_init_50 : decode cX2_init 50 = .ok (.aload_n 0, 1) := by decide +kernel
theorem dX2_init_51 : decode cX2_init 51 = .ok (.sipush 1024, 3) := by decide +kernel
theorem dX2_init_54 : decode cX2_init 54 = .ok (.newarray .int, 2) := by decide +kernel
theorem dX2_init_56 : decode cX2_init 56 = .ok (.putfield 31, 3) := by decide +kernel
theorem dX2_init_59 : decode cX2_init 59 = .ok (.aload_n 0, 1) := by decide +kernel
theorem dX2_init_60 : decode cX2_init 60 = .ok (.sipush 1024, 3) := by decide +kernel
theorem dX2_init_63 : decode cX2_init 63 = .ok (.newarray .int, 2) := by decide +kernel
theorem dX2_init_65 : decode cX2_init 65 = .ok (.putfield 34, 3) := by decide +kernel
theorem dX2_init_68 : decode cX2_init 68 = .ok (.aload_n 0, 1) := by decide +kernel
theorem dX2_init_69 : decode cX2_init 69 = .ok (.aload_n 1, 1) := by decide +kernel
theorem dX2_init_70 : decode cX2_init 70 = .ok (.putfield 37, 3) := by decide +kernel
theorem dX2_init_73 : decode cX2_init 73 = .ok (.aload_n 0, 1) := by decide +kernel
theorem dX2_init_74 : decode cX2_init 74 = .ok (.aload_n 2, 1) := by decide +kernel
theorem dX2_init_75 : decode cX2_init 75 = .ok (.putfield 41, 3) := by decide +kernel
theorem dX2_init_78 : decode cX2_init 78 = .ok (.return_, 1) := by decide +kernel
theorem dX2_spoil_0 : decode cX2_spoil 0 = .ok (.aload_n 0, 1) := by decide +kernel
theorem dX2_spoil_1 : decode cX2_spoil 1 = .ok (.iconst 1, 1) := by decide +kernel
theorem dX2_spoil_2 : decode cX2_spoil 2 = .ok (.putfield 9, 3) := by decide +kernel
theorem dX2_spoil_5 : decode cX2_spoil 5 = .ok (.return_, 1) := by decide +kernel
theorem dX2_settle_0 : decode cX2_settle 0 = .ok (.aload_n 0, 1) := by decide +kernel
theorem dX2_settle_1 : decode cX2_settle 1 = .ok (.getfield 9, 3) := by decide +kernel
theorem dX2_settle_4 : decode cX2_settle 4 = .ok (.ifCond .eq 25, 3) := by decide +kernel
theorem dX2_settle_7 : decode cX2_settle 7 = .ok (.aload_n 0, 1) := by decide +kernel
theorem dX2_settle_8 : decode cX2_settle 8 = .ok (.invokevirtual 45, 3) := by decide +kernel
theorem dX2_settle_11 : decode cX2_settle 11 = .ok (.aload_n 0, 1) := by decide +kernel
theorem dX2_settle_12 : decode cX2_settle 12 = .ok (.invokevirtual 48, 3) := by decide +kernel
theorem dX2_settle_15 : decode cX2_settle 15 = .ok (.pop, 1) := by decide +kernel
theorem dX2_settle_16 : decode cX2_settle 16 = .ok (.aload_n 0, 1) := by decide +kernel
theorem dX2_settle_17 : decode cX2_settle 17 = .ok (.invokevirtual 52, 3) := by decide +kernel
theorem dX2_settle_20 : decode cX2_settle 20 = .ok (.aload_n 0, 1) := by decide +kernel
theorem dX2_settle_21 : decode cX2_settle 21 = .ok (.invokevirtual 55, 3) := by decide +kernel
theorem dX2_settle_24 : decode cX2_settle 24 = .ok (.aload_n 0, 1) := by decide +kernel
theorem dX2_settle_25 : decode cX2_settle 25 = .ok (.iconst 0, 1) := by decide +kernel
theorem dX2_settle_26 : decode cX2_settle 26 = .ok (.putfield 9, 3) := by decide +kernel
theorem dX2_settle_29 : decode cX2_settle 29 = .ok (.return_, 1) := by decide +kernel
theorem dX2_list_0 : decode cX2_list 0 = .ok (.aload_n 0, 1) := by decide +kernel
theorem dX2_list_1 : decode cX2_list 1 = .ok (.getfield 15, 3) := by decide +kernel
theorem dX2_list_4 : decode cX2_list 4 = .ok (.iconst 0, 1) := by decide +kernel
theorem dX2_list_5 : decode cX2_list 5 = .ok (.iconst 0, 1) := by decide +kernel
theorem dX2_list_6 : decode cX2_list 6 = .ok (.iastore, 1) := by decide +kernel
theorem dX2_list_7 : decode cX2_list 7 = .ok (.aload_n 0, 1) := by decide +kernel
theorem dX2_list_8 : decode cX2_list 8 = .ok (.getfield 19, 3) := by decide +kernel
theorem dX2_list_11 : decode cX2_list 11 = .ok (.iconst 0, 1) := by decide +kernel
theorem dX2_list_12 : decode cX2_list 12 = .ok (.iconst 0, 1) := by decide +kernel
theorem dX2_list_13 : decode cX2_list 13 = .ok (.iastore, 1) := by decide +kernel
theorem dX2_list_14 : decode cX2_list 14 = .ok (.aload_n 0, 1) := by decide +kernel
theorem dX2_list_15 : decode cX2_list 15 = .ok (.iconst 1, 1) := by decide +kernel
theorem dX2_list_16 : decode cX2_list 16 = .ok (.putfield 58, 3) := by decide +kernel
theorem dX2_list_19 : decode cX2_list 19 = .ok (.iconst 0, 1) := by decide +kernel
theorem dX2_list_20 : decode cX2_list 20 = .ok (.istore_n 1, 1) := by decide +kernel
theorem dX2_list_21 : decode cX2_list 21 = .ok (.iload_n 1, 1) := by decide +kernel
theorem dX2_list_22 : decode cX2_list 22 = .ok (.aload_n 0, 1) := by decide +kernel
theorem dX2_list_23 : decode cX2_list 23 = .ok (.getfield 37, 3) := by decide +kernel
theorem dX2_list_26 : decode cX2_list 26 = .ok (.getfield 62, 3) := by decide +kernel
theorem dX2_list_29 : decode cX2_list 29 = .ok (.if_icmp .ge 14, 3) := by decide +kernel
theorem dX2_list_32 : decode cX2_list 32 = .ok (.aload_n 0, 1) := by decide +kernel
theorem dX2_list_33 : decode cX2_list 33 = .ok (.iload_n 1, 1) := by decide +kernel
theorem dX2_list_34 : decode cX2_list 34 = .ok (.invokevirtual 67, 3) := by decide +kernel
theorem dX2_list_37 : decode cX2_list 37 = .ok (.iinc 1 1, 3) := by decide +kernel
theorem dX2_list_40 : decode cX2_list 40 = .ok (.goto (-19), 3) := by decide +kernel
theorem dX2_list_43 : decode cX2_list 43 = .ok (.return_, 1) := by decide +kernel
theorem dX2_spread_0 : decode cX2_spread 0 = .ok (.aload_n 0, 1) := by decide +kernel
theorem dX2_spread_1 : decode cX2_spread 1 = .ok (.getfield 58, 3) := by decide +kernel
theorem dX2_spread_4 : decode cX2_spread 4 = .ok (.istore_n 2, 1) := by decide +kernel
theorem dX2_spread_5 : decode cX2_spread 5 = .ok (.iconst 1, 1) := by decide +kernel
theorem dX2_spread_6 : decode cX2_spread 6 = .ok (.istore_n 3, 1) := by decide +kernel
theorem dX2_spread_7 : decode cX2_spread 7 = .ok (.iload_n 3, 1) := by decide +kernel
theorem dX2_spread_8 : decode cX2_spread 8 = .ok (.aload_n 0, 1) := by decide +kernel
theorem dX2_spread_9 : decode cX2_spread 9 = .ok (.getfield 37, 3) := by decide +kernel
theorem dX2_spread_12 : decode cX2_spread 12 = .ok (.getfield 71, 3) := by decide +kernel
theorem dX2_spread_15 : decode cX2_spread 15 = .ok (.iload_n 1, 1) := by decide +kernel
theorem dX2_spread_16 : decode cX2_spread 16 = .ok (.iaload, 1) := by decide +kernel
theorem dX2_spread_17 : decode cX2_spread 17 = .ok (.if_icmp .ge 90, 3) := by decide +kernel
theorem dX2_spread_20 : decode cX2_spread 20 = .ok (.iconst 0, 1) := by decide +kernel
theorem dX2_spread_21 : decode cX2_spread 21 = .ok (.istore 4, 2) := by decide +kernel
theorem dX2_spread_23 : decode cX2_spread 23 = .ok (.iload 4, 2) := by decide +kernel
theorem dX2_spread_25 : decode cX2_spread 25 = .ok (.iload_n 2, 1) := by decide +kernel
theorem dX2_spread_26 : decode cX2_spread 26 = .ok (.if_icmp .ge 75, 3) := by decide +kernel
theorem dX2_spread_29 : decode cX2_spread 29 = .ok (.aload_n 0, 1) := by decide +kernel
theorem dX2_spread_30 : decode cX2_spread 30 = .ok (.getfield 58, 3) := by decide +kernel
theorem dX2_spread_33 : decode cX2_spread 33 = .ok (.sipush 1024, 3) := by decide +kernel
theorem dX2_spread_36 : decode cX2_spread 36 = .ok (.if_icmp .ge 65, 3) := by decide +kernel
theorem dX2_spread_39 : decode cX2_spread 39 = .ok (.aload_n 0, 1) := by decide +kernel
theorem dX2_spread_40 : decode cX2_spread 40 = .ok (.getfield 15, 3) := by decide +kernel
theorem dX2_spread_43 : decode cX2_spread 43 = .ok (.aload_n 0, 1) := by decide +kernel
theorem dX2_spread_44 : decode cX2_spread 44 = .ok (.getfield 58, 3) := by decide +kernel
theorem dX2_spread_47 : decode cX2_spread 47 = .ok (.aload_n 0, 1) := by decide +kernel
theorem dX2_spread_48 : decode cX2_spread 48 = .ok (.getfield 15, 3) := by decide +kernel
theorem dX2_spread_51 : decode cX2_spread 51 = .ok (.iload 4, 2) := by decide +kernel
theorem dX2_spread_53 : decode cX2_spread 53 = .ok (.iaload, 1) := by decide +kernel
theorem dX2_spread_54 : decode cX2_spread 54 = .ok (.iload_n 3, 1) := by decide +kernel
theorem dX2_spread_55 : decode cX2_spread 55 = .ok (.iconst 2, 1) := by decide +kernel
theorem dX2_spread_56 : decode cX2_spread 56 = .ok (.iload_n 1, 1) := by decide +kernel
theorem dX2_spread_57 : decode cX2_spread 57 = .ok (.imul, 1) := by decide +kernel
theorem dX2_spread_58 : decode cX2_spread 58 = .ok (.ishl, 1) := by decide +kernel
theorem dX2_spread_59 : decode cX2_spread 59 = .ok (.ior, 1) := by decide +kernel
theorem dX2_spread_60 : decode cX2_spread 60 = .ok (.iastore, 1) := by decide +kernel
theorem dX2_spread_61 : decode cX2_spread 61 = .ok (.aload_n 0, 1) := by decide +kernel
theorem dX2_spread_62 : decode cX2_spread 62 = .ok (.getfield 19, 3) := by decide +kernel
theorem dX2_spread_65 : decode cX2_spread 65 = .ok (.aload_n 0, 1) := by decide +kernel
theorem dX2_spread_66 : decode cX2_spread 66 = .ok (.getfield 58, 3) := by decide +kernel
theorem dX2_spread_69 : decode cX2_spread 69 = .ok (.aload_n 0, 1) := by decide +kernel
theorem dX2_spread_70 : decode cX2_spread 70 = .ok (.getfield 19, 3) := by decide +kernel
theorem dX2_spread_73 : decode cX2_spread 73 = .ok (.iload 4, 2) := by decide +kernel
theorem dX2_spread_75 : decode cX2_spread 75 = .ok (.iaload, 1) := by decide +kernel
theorem dX2_spread_76 : decode cX2_spread 76 = .ok (.iconst 1, 1) := by decide +kernel
theorem dX2_spread_77 : decode cX2_spread 77 = .ok (.iload_n 1, 1) := by decide +kernel
theorem dX2_spread_78 : decode cX2_spread 78 = .ok (.iload_n 3, 1) := by decide +kernel
theorem dX2_spread_79 : decode cX2_spread 79 = .ok (.invokestatic 74, 3) := by decide +kernel
theorem dX2_spread_82 : decode cX2_spread 82 = .ok (.ishl, 1) := by decide +kernel
theorem dX2_spread_83 : decode cX2_spread 83 = .ok (.ior, 1) := by decide +kernel
theorem dX2_spread_84 : decode cX2_spread 84 = .ok (.iastore, 1) := by decide +kernel
theorem dX2_spread_85 : decode cX2_spread 85 = .ok (.aload_n 0, 1) := by decide +kernel
theorem dX2_spread_86 : decode cX2_spread 86 = .ok (.dup, 1) := by decide +kernel
theorem dX2_spread_87 : decode cX2_spread 87 = .ok (.getfield 58, 3) := by decide +kernel
theorem dX2_spread_90 : decode cX2_spread 90 = .ok (.iconst 1, 1) := by decide +kernel
theorem dX2_spread_91 : decode cX2_spread 91 = .ok (.iadd, 1) := by decide +kernel
theorem dX2_spread_92 : decode cX2_spread 92 = .ok (.putfield 58, 3) := by decide +kernel
theorem dX2_spread_95 : decode cX2_spread 95 = .ok (.iinc 4 1, 3) := by decide +kernel
theorem dX2_spread_98 : decode cX2_spread 98 = .ok (.goto (-75), 3) := by decide +kernel
theorem dX2_spread_101 : decode cX2_spread 101 = .ok (.iinc 3 1, 3) := by decide +kernel
theorem dX2_spread_104 : decode cX2_spread 104 = .ok (.goto (-97), 3) := by decide +kernel
theorem dX2_spread_107 : decode cX2_spread 107 = .ok (.iconst 0, 1) := by decide +kernel
theorem dX2_spread_108 : decode cX2_spread 108 = .ok (.istore_n 3, 1) := by decide +kernel
theorem dX2_spread_109 : decode cX2_spread 109 = .ok (.iload_n 3, 1) := by decide +kernel
theorem dX2_spread_110 : decode cX2_spread 110 = .ok (.iload_n 2, 1) := by decide +kernel
theorem dX2_spread_111 : decode cX2_spread 111 = .ok (.if_icmp .ge 25, 3) := by decide +kernel
theorem dX2_spread_114 : decode cX2_spread 114 = .ok (.aload_n 0, 1) := by decide +kernel
theorem dX2_spread_115 : decode cX2_spread 115 = .ok (.getfield 19, 3) := by decide +kernel
theorem dX2_spread_118 : decode cX2_spread 118 = .ok (.iload_n 3, 1) := by decide +kernel
theorem dX2_spread_119 : decode cX2_spread 119 = .ok (.dup2, 1) := by decide +kernel
theorem dX2_spread_120 : decode cX2_spread 120 = .ok (.iaload, 1) := by decide +kernel
theorem dX2_spread_121 : decode cX2_spread 121 = .ok (.iconst 1, 1) := by decide +kernel
theorem dX2_spread_122 : decode cX2_spread 122 = .ok (.iload_n 1, 1) := by decide +kernel
theorem dX2_spread_123 : decode cX2_spread 123 = .ok (.iconst 0, 1) := by decide +kernel
theorem dX2_spread_124 : decode cX2_spread 124 = .ok (.invokestatic 74, 3) := by decide +kernel
theorem dX2_spread_127 : decode cX2_spread 127 = .ok (.ishl, 1) := by decide +kernel
theorem dX2_spread_128 : decode cX2_spread 128 = .ok (.ior, 1) := by decide +kernel
theorem dX2_spread_129 : decode cX2_spread 129 = .ok (.iastore, 1) := by decide +kernel
theorem dX2_spread_130 : decode cX2_spread 130 = .ok (.iinc 3 1, 3) := by decide +kernel
theorem dX2_spread_133 : decode cX2_spread 133 = .ok (.goto (-24), 3) := by decide +kernel
theorem dX2_spread_136 : decode cX2_spread 136 = .ok (.return_, 1) := by decide +kernel
theorem dX2_observe_0 : decode cX2_observe 0 = .ok (.iconst 0, 1) := by decide +kernel
theorem dX2_observe_1 : decode cX2_observe 1 = .ok (.istore_n 1, 1) := by decide +kernel
theorem dX2_observe_2 : decode cX2_observe 2 = .ok (.iconst 0, 1) := by decide +kernel
theorem dX2_observe_3 : decode cX2_observe 3 = .ok (.istore_n 2, 1) := by decide +kernel
theorem dX2_observe_4 : decode cX2_observe 4 = .ok (.iload_n 2, 1) := by decide +kernel
theorem dX2_observe_5 : decode cX2_observe 5 = .ok (.aload_n 0, 1) := by decide +kernel
theorem dX2_observe_6 : decode cX2_observe 6 = .ok (.getfield 37, 3) := by decide +kernel
theorem dX2_observe_9 : decode cX2_observe 9 = .ok (.getfield 62, 3) := by decide +kernel
theorem dX2_observe_12 : decode cX2_observe 12 = .ok (.if_icmp .ge 64, 3) := by decide +kernel
theorem dX2_observe_15 : decode cX2_observe 15 = .ok (.aload_n 0, 1) := by decide +kernel
theorem dX2_observe_16 : decode cX2_observe 16 = .ok (.getfield 37, 3) := by decide +kernel
theorem dX2_observe_19 : decode cX2_observe 19 = .ok (.aload_n 0, 1) := by decide +kernel
theorem dX2_observe_20 : decode cX2_observe 20 = .ok (.iload_n 2, 1) := by decide +kernel
theorem dX2_observe_21 : decode cX2_observe 21 = .ok (.invokevirtual 78, 3) := by decide +kernel
theorem dX2_observe_24 : decode cX2_observe 24 = .ok (.aload_n 0, 1) := by decide +kernel
theorem dX2_observe_25 : decode cX2_observe 25 = .ok (.getfield 37, 3) := by decide +kernel
theorem dX2_observe_28 : decode cX2_observe 28 = .ok (.iload_n 2, 1) := by decide +kernel
theorem dX2_observe_29 : decode cX2_observe 29 = .ok (.invokevirtual 82, 3) := by decide +kernel
theorem dX2_observe_32 : decode cX2_observe 32 = .ok (.invokevirtual 85, 3) := by decide +kernel
theorem dX2_observe_35 : decode cX2_observe 35 = .ok (.iload_n 2, 1) := by decide +kernel
theorem dX2_observe_36 : decode cX2_observe 36 = .ok (.invokestatic 88, 3) := by decide +kernel
theorem dX2_observe_39 : decode cX2_observe 39 = .ok (.iconst (-1), 1) := by decide +kernel
theorem dX2_observe_40 : decode cX2_observe 40 = .ok (.ixor, 1) := by decide +kernel
theorem dX2_observe_41 : decode cX2_observe 41 = .ok (.iand, 1) := by decide +kernel
theorem dX2_observe_42 : decode cX2_observe 42 = .ok (.istore_n 3, 1) := by decide +kernel
theorem dX2_observe_43 : decode cX2_observe 43 = .ok (.iload_n 1, 1) := by decide +kernel
theorem dX2_observe_44 : decode cX2_observe 44 = .ok (.ifCond .ne 13, 3) := by decide +kernel
theorem dX2_observe_47 : decode cX2_observe 47 = .ok (.iload_n 3, 1) := by decide +kernel
theorem dX2_observe_48 : decode cX2_observe 48 = .ok (.aload_n 0, 1) := by decide +kernel
theorem dX2_observe_49 : decode cX2_observe 49 = .ok (.getfield 22, 3) := by decide +kernel
theorem dX2_observe_52 : decode cX2_observe 52 = .ok (.iload_n 2, 1) := by decide +kernel
theorem dX2_observe_53 : decode cX2_observe 53 = .ok (.iaload, 1) := by decide +kernel
theorem dX2_observe_54 : decode cX2_observe 54 = .ok (.if_icmp .eq 7, 3) := by decide +kernel
theorem dX2_observe_57 : decode cX2_observe 57 = .ok (.iconst 1, 1) := by decide +kernel
theorem dX2_observe_58 : decode cX2_observe 58 = .ok (.goto 4, 3) := by decide +kernel
theorem dX2_observe_61 : decode cX2_observe 61 = .ok (.iconst 0, 1) := by decide +kernel
theorem dX2_observe_62 : decode cX2_observe 62 = .ok (.istore_n 1, 1) := by decide +kernel
theorem dX2_observe_63 : decode cX2_observe 63 = .ok (.aload_n 0, 1) := by decide +kernel
theorem dX2_observe_64 : decode cX2_observe 64 = .ok (.getfield 22, 3) := by decide +kernel
theorem dX2_observe_67 : decode cX2_observe 67 = .ok (.iload_n 2, 1) := by decide +kernel
theorem dX2_observe_68 : decode cX2_observe 68 = .ok (.iload_n 3, 1) := by decide +kernel
theorem dX2_observe_69 : decode cX2_observe 69 = .ok (.iastore, 1) := by decide +kernel
theorem dX2_observe_70 : decode cX2_observe 70 = .ok (.iinc 2 1, 3) := by decide +kernel
theorem dX2_observe_73 : decode cX2_observe 73 = .ok (.goto (-69), 3) := by decide +kernel
theorem dX2_observe_76 : decode cX2_observe 76 = .ok (.aload_n 0, 1) := by decide +kernel
theorem dX2_observe_77 : decode cX2_observe 77 = .ok (.getfield 25, 3) := by decide +kernel
theorem dX2_observe_80 : decode cX2_observe 80 = .ok (.iconst 0, 1) := by decide +kernel
theorem dX2_observe_81 : decode cX2_observe 81 = .ok (.invokestatic 91, 3) := by decide +kernel
theorem dX2_observe_84 : decode cX2_observe 84 = .ok (.iload_n 1, 1) := by decide +kernel
theorem dX2_observe_85 : decode cX2_observe 85 = .ok (.ireturn, 1) := by decide +kernel
theorem dX2_forget_0 : decode cX2_forget 0 = .ok (.aload_n 0, 1) := by decide +kernel
theorem dX2_forget_1 : decode cX2_forget 1 = .ok (.getfield 28, 3) := by decide +kernel
theorem dX2_forget_4 : decode cX2_forget 4 = .ok (.iconst 0, 1) := by decide +kernel
theorem dX2_forget_5 : decode cX2_forget 5 = .ok (.invokestatic 91, 3) := by decide +kernel
theorem dX2_forget_8 : decode cX2_forget 8 = .ok (.return_, 1) := by decide +kernel
theorem dX2_forgetOne_0 : decode cX2_forgetOne 0 = .ok (.iconst 0, 1) := by decide +kernel
theorem dX2_forgetOne_1 : decode cX2_forgetOne 1 = .ok (.istore_n 2, 1) := by decide +kernel
theorem dX2_forgetOne_2 : decode cX2_forgetOne 2 = .ok (.iload_n 2, 1) := by decide +kernel
theorem dX2_forgetOne_3 : decode cX2_forgetOne 3 = .ok (.bipush 32, 2) := by decide +kernel
theorem dX2_forgetOne_5 : decode cX2_forgetOne 5 = .ok (.if_icmp .ge 21, 3) := by decide +kernel
theorem dX2_forgetOne_8 : decode cX2_forgetOne 8 = .ok (.aload_n 0, 1) := by decide +kernel
theorem dX2_forgetOne_9 : decode cX2_forgetOne 9 = .ok (.getfield 28, 3) := by decide +kernel
theorem dX2_forgetOne_12 : decode cX2_forgetOne 12 = .ok (.iload_n 1, 1) := by decide +kernel
theorem dX2_forgetOne_13 : decode cX2_forgetOne 13 = .ok (.bipush 32, 2) := by decide +kernel
theorem dX2_forgetOne_15 : decode cX2_forgetOne 15 = .ok (.imul, 1) := by decide +kernel
theorem dX2_forgetOne_16 : decode cX2_forgetOne 16 = .ok (.iload_n 2, 1) := by decide +kernel
theorem dX2_forgetOne_17 : decode cX2_forgetOne 17 = .ok (.iadd, 1) := by decide +kernel
theorem dX2_forgetOne_18 : decode cX2_forgetOne 18 = .ok (.iconst 0, 1) := by decide +kernel
theorem dX2_forgetOne_19 : decode cX2_forgetOne 19 = .ok (.iastore, 1) := by decide +kernel
theorem dX2_forgetOne_20 : decode cX2_forgetOne 20 = .ok (.iinc 2 1, 3) := by decide +kernel
theorem dX2_forgetOne_23 : decode cX2_forgetOne 23 = .ok (.goto (-21), 3) := by decide +kernel
theorem dX2_forgetOne_26 : decode cX2_forgetOne 26 = .ok (.return_, 1) := by decide +kernel
theorem dX2_firstPlace_0 : decode cX2_firstPlace 0 = .ok (.aload_n 0, 1) := by decide +kernel
theorem dX2_firstPlace_1 : decode cX2_firstPlace 1 = .ok (.getfield 37, 3) := by decide +kernel
theorem dX2_firstPlace_4 : decode cX2_firstPlace 4 = .ok (.getfield 97, 3) := by decide +kernel
theorem dX2_firstPlace_7 : decode cX2_firstPlace 7 = .ok (.iload_n 1, 1) := by decide +kernel
theorem dX2_firstPlace_8 : decode cX2_firstPlace 8 = .ok (.iconst 0, 1) := by decide +kernel
theorem dX2_firstPlace_9 : decode cX2_firstPlace 9 = .ok (.invokestatic 74, 3) := by decide +kernel
theorem dX2_firstPlace_12 : decode cX2_firstPlace 12 = .ok (.aaload, 1) := by decide +kernel
theorem dX2_firstPlace_13 : decode cX2_firstPlace 13 = .ok (.iconst 0, 1) := by decide +kernel
theorem dX2_firstPlace_14 : decode cX2_firstPlace 14 = .ok (.iaload, 1) := by decide +kernel
theorem dX2_firstPlace_15 : decode cX2_firstPlace 15 = .ok (.ireturn, 1) := by decide +kernel
theorem dX2_gather_0 : decode cX2_gather 0 = .ok (.aload_n 0, 1) := by decide +kernel
theorem dX2_gather_1 : decode cX2_gather 1 = .ok (.iconst 0, 1) := by decide +kernel
theorem dX2_gather_2 : decode cX2_gather 2 = .ok (.putfield 101, 3) := by decide +kernel
theorem dX2_gather_5 : decode cX2_gather 5 = .ok (.aload_n 0, 1) := by decide +kernel
theorem dX2_gather_6 : decode cX2_gather 6 = .ok (.getfield 37, 3) := by decide +kernel
theorem dX2_gather_9 : decode cX2_gather 9 = .ok (.getfield 71, 3) := by decide +kernel
theorem dX2_gather_12 : decode cX2_gather 12 = .ok (.iconst 0, 1) := by decide +kernel
theorem dX2_gather_13 : decode cX2_gather 13 = .ok (.iaload, 1) := by decide +kernel
theorem dX2_gather_14 : decode cX2_gather 14 = .ok (.iconst 1, 1) := by decide +kernel
theorem dX2_gather_15 : decode cX2_gather 15 = .ok (.invokestatic 104, 3) := by decide +kernel
theorem dX2_gather_18 : decode cX2_gather 18 = .ok (.istore_n 1, 1) := by decide +kernel
theorem dX2_gather_19 : decode cX2_gather 19 = .ok (.iconst 0, 1) := by decide +kernel
theorem dX2_gather_20 : decode cX2_gather 20 = .ok (.istore_n 2, 1) := by decide +kernel
theorem dX2_gather_21 : decode cX2_gather 21 = .ok (.iload_n 2, 1) := by decide +kernel
theorem dX2_gather_22 : decode cX2_gather 22 = .ok (.aload_n 0, 1) := by decide +kernel
theorem dX2_gather_23 : decode cX2_gather 23 = .ok (.getfield 58, 3) := by decide +kernel
theorem dX2_gather_26 : decode cX2_gather 26 = .ok (.if_icmp .ge 95, 3) := by decide +kernel
theorem dX2_gather_29 : decode cX2_gather 29 = .ok (.aload_n 0, 1) := by decide +kernel
theorem dX2_gather_30 : decode cX2_gather 30 = .ok (.getfield 37, 3) := by decide +kernel
theorem dX2_gather_33 : decode cX2_gather 33 = .ok (.getfield 62, 3) := by decide +kernel
theorem dX2_gather_36 : decode cX2_gather 36 = .ok (.ifCond .le 19, 3) := by decide +kernel
theorem dX2_gather_39 : decode cX2_gather 39 = .ok (.iload_n 2, 1) := by decide +kernel
theorem dX2_gather_40 : decode cX2_gather 40 = .ok (.aload_n 0, 1) := by decide +kernel
theorem dX2_gather_41 : decode cX2_gather 41 = .ok (.iconst 0, 1) := by decide +kernel
theorem dX2_gather_42 : decode cX2_gather 42 = .ok (.aload_n 0, 1) := by decide +kernel
theorem dX2_gather_43 : decode cX2_gather 43 = .ok (.getfield 19, 3) := by decide +kernel
theorem dX2_gather_46 : decode cX2_gather 46 = .ok (.iload_n 2, 1) := by decide +kernel
theorem dX2_gather_47 : decode cX2_gather 47 = .ok (.iaload, 1) := by decide +kernel
theorem dX2_gather_48 : decode cX2_gather 48 = .ok (.invokevirtual 109, 3) := by decide +kernel
theorem dX2_gather_51 : decode cX2_gather 51 = .ok (.iadd, 1) := by decide +kernel
theorem dX2_gather_52 : decode cX2_gather 52 = .ok (.goto 4, 3) := by decide +kernel
theorem dX2_gather_55 : decode cX2_gather 55 = .ok (.iload_n 2, 1) := by decide +kernel
theorem dX2_gather_56 : decode cX2_gather 56 = .ok (.istore_n 3, 1) := by decide +kernel
theorem dX2_gather_57 : decode cX2_gather 57 = .ok (.iload_n 3, 1) := by decide +kernel
theorem dX2_gather_58 : decode cX2_gather 58 = .ok (.aload_n 0, 1) := by decide +kernel
theorem dX2_gather_59 : decode cX2_gather 59 = .ok (.getfield 58, 3) := by decide +kernel
theorem dX2_gather_62 : decode cX2_gather 62 = .ok (.if_icmp .ge 52, 3) := by decide +kernel
theorem dX2_gather_65 : decode cX2_gather 65 = .ok (.aload_n 0, 1) := by decide +kernel
theorem dX2_gather_66 : decode cX2_gather 66 = .ok (.getfield 101, 3) := by decide +kernel
theorem dX2_gather_69 : decode cX2_gather 69 = .ok (.sipush 1024, 3) := by decide +kernel
theorem dX2_gather_72 : decode cX2_gather 72 = .ok (.if_icmp .ge 42, 3) := by decide +kernel
theorem dX2_gather_75 : decode cX2_gather 75 = .ok (.aload_n 0, 1) := by decide +kernel
theorem dX2_gather_76 : decode cX2_gather 76 = .ok (.aload_n 0, 1) := by decide +kernel
theorem dX2_gather_77 : decode cX2_gather 77 = .ok (.getfield 15, 3) := by decide +kernel
theorem dX2_gather_80 : decode cX2_gather 80 = .ok (.iload_n 3, 1) := by decide +kernel
theorem dX2_gather_81 : decode cX2_gather 81 = .ok (.iaload, 1) := by decide +kernel
theorem dX2_gather_82 : decode cX2_gather 82 = .ok (.aload_n 0, 1) := by decide +kernel
theorem dX2_gather_83 : decode cX2_gather 83 = .ok (.getfield 19, 3) := by decide +kernel
theorem dX2_gather_86 : decode cX2_gather 86 = .ok (.iload_n 3, 1) := by decide +kernel
theorem dX2_gather_87 : decode cX2_gather 87 = .ok (.iaload, 1) := by decide +kernel
theorem dX2_gather_88 : decode cX2_gather 88 = .ok (.invokevirtual 112, 3) := by decide +kernel
theorem dX2_gather_91 : decode cX2_gather 91 = .ok (.ifCond .eq 23, 3) := by decide +kernel
theorem dX2_gather_94 : decode cX2_gather 94 = .ok (.aload_n 0, 1) := by decide +kernel
theorem dX2_gather_95 : decode cX2_gather 95 = .ok (.getfield 31, 3) := by decide +kernel
theorem dX2_gather_98 : decode cX2_gather 98 = .ok (.aload_n 0, 1) := by decide +kernel
theorem dX2_gather_99 : decode cX2_gather 99 = .ok (.getfield 101, 3) := by decide +kernel
theorem dX2_gather_102 : decode cX2_gather 102 = .ok (.iload_n 3, 1) := by decide +kernel
theorem dX2_gather_103 : decode cX2_gather 103 = .ok (.iastore, 1) := by decide +kernel
theorem dX2_gather_104 : decode cX2_gather 104 = .ok (.aload_n 0, 1) := by decide +kernel
theorem dX2_gather_105 : decode cX2_gather 105 = .ok (.dup, 1) := by decide +kernel
theorem dX2_gather_106 : decode cX2_gather 106 = .ok (.getfield 101, 3) := by decide +kernel
theorem dX2_gather_109 : decode cX2_gather 109 = .ok (.iconst 1, 1) := by decide +kernel
theorem dX2_gather_110 : decode cX2_gather 110 = .ok (.iadd, 1) := by decide +kernel
theorem dX2_gather_111 : decode cX2_gather 111 = .ok (.putfield 101, 3) := by decide +kernel
theorem dX2_gather_114 : decode cX2_gather 114 = .ok (.iload_n 2, 1) := by decide +kernel
theorem dX2_gather_115 : decode cX2_gather 115 = .ok (.iload_n 1, 1) := by decide +kernel
theorem dX2_gather_116 : decode cX2_gather 116 = .ok (.iadd, 1) := by decide +kernel
theorem dX2_gather_117 : decode cX2_gather 117 = .ok (.istore_n 2, 1) := by decide +kernel
theorem dX2_gather_118 : decode cX2_gather 118 = .ok (.goto (-97), 3) := by decide +kernel
theorem dX2_gather_121 : decode cX2_gather 121 = .ok (.return_, 1) := by decide +kernel
theorem dX2_isHeld_0 : decode cX2_isHeld 0 = .ok (.iconst 0, 1) := by decide +kernel
theorem dX2_isHeld_1 : decode cX2_isHeld 1 = .ok (.istore_n 3, 1) := by decide +kernel
theorem dX2_isHeld_2 : decode cX2_isHeld 2 = .ok (.iload_n 3, 1) := by decide +kernel
theorem dX2_isHeld_3 : decode cX2_isHeld 3 = .ok (.aload_n 0, 1) := by decide +kernel
theorem dX2_isHeld_4 : decode cX2_isHeld 4 = .ok (.getfield 37, 3) := by decide +kernel
theorem dX2_isHeld_7 : decode cX2_isHeld 7 = .ok (.getfield 62, 3) := by decide +kernel
theorem dX2_isHeld_10 : decode cX2_isHeld 10 = .ok (.if_icmp .ge 25, 3) := by decide +kernel
theorem dX2_isHeld_13 : decode cX2_isHeld 13 = .ok (.aload_n 0, 1) := by decide +kernel
theorem dX2_isHeld_14 : decode cX2_isHeld 14 = .ok (.iload_n 3, 1) := by decide +kernel
theorem dX2_isHeld_15 : decode cX2_isHeld 15 = .ok (.iload_n 2, 1) := by decide +kernel
theorem dX2_isHeld_16 : decode cX2_isHeld 16 = .ok (.invokevirtual 109, 3) := by decide +kernel
theorem dX2_isHeld_19 : decode cX2_isHeld 19 = .ok (.iload_n 1, 1) := by decide +kernel
theorem dX2_isHeld_20 : decode cX2_isHeld 20 = .ok (.iload_n 3, 1) := by decide +kernel
theorem dX2_isHeld_21 : decode cX2_isHeld 21 = .ok (.invokestatic 116, 3) := by decide +kernel
theorem dX2_isHeld_24 : decode cX2_isHeld 24 = .ok (.if_icmp .eq 5, 3) := by decide +kernel
theorem dX2_isHeld_27 : decode cX2_isHeld 27 = .ok (.iconst 0, 1) := by decide +kernel
theorem dX2_isHeld_28 : decode cX2_isHeld 28 = .ok (.ireturn, 1) := by decide +kernel
theorem dX2_isHeld_29 : decode cX2_isHeld 29 = .ok (.iinc 3 1, 3) := by decide +kernel
theorem dX2_isHeld_32 : decode cX2_isHeld 32 = .ok (.goto (-30), 3) := by decide +kernel
theorem dX2_isHeld_35 : decode cX2_isHeld 35 = .ok (.iconst 1, 1) := by decide +kernel
theorem dX2_isHeld_36 : decode cX2_isHeld 36 = .ok (.ireturn, 1) := by decide +kernel
theorem dX2_lawful_0 : decode cX2_lawful 0 = .ok (.aload_n 0, 1) := by decide +kernel
theorem dX2_lawful_1 : decode cX2_lawful 1 = .ok (.getfield 22, 3) := by decide +kernel
theorem dX2_lawful_4 : decode cX2_lawful 4 = .ok (.iload_n 1, 1) := by decide +kernel
theorem dX2_lawful_5 : decode cX2_lawful 5 = .ok (.iaload, 1) := by decide +kernel
theorem dX2_lawful_6 : decode cX2_lawful 6 = .ok (.iload_n 2, 1) := by decide +kernel
theorem dX2_lawful_7 : decode cX2_lawful 7 = .ok (.iand, 1) := by decide +kernel
theorem dX2_lawful_8 : decode cX2_lawful 8 = .ok (.invokestatic 119, 3) := by decide +kernel
theorem dX2_lawful_11 : decode cX2_lawful 11 = .ok (.aload_n 0, 1) := by decide +kernel
theorem dX2_lawful_12 : decode cX2_lawful 12 = .ok (.getfield 25, 3) := by decide +kernel
theorem dX2_lawful_15 : decode cX2_lawful 15 = .ok (.iload_n 1, 1) := by decide +kernel
theorem dX2_lawful_16 : decode cX2_lawful 16 = .ok (.iaload, 1) := by decide +kernel
theorem dX2_lawful_17 : decode cX2_lawful 17 = .ok (.ior, 1) := by decide +kernel
theorem dX2_lawful_18 : decode cX2_lawful 18 = .ok (.istore_n 3, 1) := by decide +kernel
theorem dX2_lawful_19 : decode cX2_lawful 19 = .ok (.aload_n 0, 1) := by decide +kernel
theorem dX2_lawful_20 : decode cX2_lawful 20 = .ok (.getfield 28, 3) := by decide +kernel
theorem dX2_lawful_23 : decode cX2_lawful 23 = .ok (.iload_n 1, 1) := by decide +kernel
theorem dX2_lawful_24 : decode cX2_lawful 24 = .ok (.bipush 32, 2) := by decide +kernel
theorem dX2_lawful_26 : decode cX2_lawful 26 = .ok (.imul, 1) := by decide +kernel
theorem dX2_lawful_27 : decode cX2_lawful 27 = .ok (.iload_n 3, 1) := by decide +kernel
theorem dX2_lawful_28 : decode cX2_lawful 28 = .ok (.iadd, 1) := by decide +kernel
theorem dX2_lawful_29 : decode cX2_lawful 29 = .ok (.iaload, 1) := by decide +kernel
theorem dX2_lawful_30 : decode cX2_lawful 30 = .ok (.istore 4, 2) := by decide +kernel
theorem dX2_lawful_32 : decode cX2_lawful 32 = .ok (.iload 4, 2) := by decide +kernel
theorem dX2_lawful_34 : decode cX2_lawful 34 = .ok (.ifCond .ne 74, 3) := by decide +kernel
theorem dX2_lawful_37 : decode cX2_lawful 37 = .ok (.aload_n 0, 1) := by decide +kernel
theorem dX2_lawful_38 : decode cX2_lawful 38 = .ok (.getfield 41, 3) := by decide +kernel
theorem dX2_lawful_41 : decode cX2_lawful 41 = .ok (.iload_n 3, 1) := by decide +kernel
theorem dX2_lawful_42 : decode cX2_lawful 42 = .ok (.iload_n 1, 1) := by decide +kernel
theorem dX2_lawful_43 : decode cX2_lawful 43 = .ok (.aload_n 0, 1) := by decide +kernel
theorem dX2_lawful_44 : decode cX2_lawful 44 = .ok (.getfield 37, 3) := by decide +kernel
theorem dX2_lawful_47 : decode cX2_lawful 47 = .ok (.iload_n 1, 1) := by decide +kernel
theorem dX2_lawful_48 : decode cX2_lawful 48 = .ok (.invokevirtual 122, 3) := by decide +kernel
theorem dX2_lawful_51 : decode cX2_lawful 51 = .ok (.aload_n 0, 1) := by decide +kernel
theorem dX2_lawful_52 : decode cX2_lawful 52 = .ok (.getfield 37, 3) := by decide +kernel
theorem dX2_lawful_55 : decode cX2_lawful 55 = .ok (.getfield 71, 3) := by decide +kernel
theorem dX2_lawful_58 : decode cX2_lawful 58 = .ok (.iload_n 1, 1) := by decide +kernel
theorem dX2_lawful_59 : decode cX2_lawful 59 = .ok (.iaload, 1) := by decide +kernel
theorem dX2_lawful_60 : decode cX2_lawful 60 = .ok (.aload_n 0, 1) := by decide +kernel
theorem dX2_lawful_61 : decode cX2_lawful 61 = .ok (.getfield 37, 3) := by decide +kernel
theorem dX2_lawful_64 : decode cX2_lawful 64 = .ok (.iload_n 1, 1) := by decide +kernel
theorem dX2_lawful_65 : decode cX2_lawful 65 = .ok (.invokevirtual 82, 3) := by decide +kernel
theorem dX2_lawful_68 : decode cX2_lawful 68 = .ok (.invokevirtual 125, 3) := by decide +kernel
theorem dX2_lawful_71 : decode cX2_lawful 71 = .ok (.istore 5, 2) := by decide +kernel
theorem dX2_lawful_73 : decode cX2_lawful 73 = .ok (.iconst 1, 1) := by decide +kernel
theorem dX2_lawful_74 : decode cX2_lawful 74 = .ok (.iload 5, 2) := by decide +kernel
theorem dX2_lawful_76 : decode cX2_lawful 76 = .ok (.aload_n 0, 1) := by decide +kernel
theorem dX2_lawful_77 : decode cX2_lawful 77 = .ok (.getfield 37, 3) := by decide +kernel
theorem dX2_lawful_80 : decode cX2_lawful 80 = .ok (.getfield 71, 3) := by decide +kernel
theorem dX2_lawful_83 : decode cX2_lawful 83 = .ok (.iload_n 1, 1) := by decide +kernel
theorem dX2_lawful_84 : decode cX2_lawful 84 = .ok (.iaload, 1) := by decide +kernel
theorem dX2_lawful_85 : decode cX2_lawful 85 = .ok (.iconst 1, 1) := by decide +kernel
theorem dX2_lawful_86 : decode cX2_lawful 86 = .ok (.invokestatic 104, 3) := by decide +kernel
theorem dX2_lawful_89 : decode cX2_lawful 89 = .ok (.invokestatic 131, 3) := by decide +kernel
theorem dX2_lawful_92 : decode cX2_lawful 92 = .ok (.iadd, 1) := by decide +kernel
theorem dX2_lawful_93 : decode cX2_lawful 93 = .ok (.istore 4, 2) := by decide +kernel
theorem dX2_lawful_95 : decode cX2_lawful 95 = .ok (.aload_n 0, 1) := by decide +kernel
theorem dX2_lawful_96 : decode cX2_lawful 96 = .ok (.getfield 28, 3) := by decide +kernel
theorem dX2_lawful_99 : decode cX2_lawful 99 = .ok (.iload_n 1, 1) := by decide +kernel
theorem dX2_lawful_100 : decode cX2_lawful 100 = .ok (.bipush 32, 2) := by decide +kernel
theorem dX2_lawful_102 : decode cX2_lawful 102 = .ok (.imul, 1) := by decide +kernel
theorem dX2_lawful_103 : decode cX2_lawful 103 = .ok (.iload_n 3, 1) := by decide +kernel
theorem dX2_lawful_104 : decode cX2_lawful 104 = .ok (.iadd, 1) := by decide +kernel
theorem dX2_lawful_105 : decode cX2_lawful 105 = .ok (.iload 4, 2) := by decide +kernel
theorem dX2_lawful_107 : decode cX2_lawful 107 = .ok (.iastore, 1) := by decide +kernel
theorem dX2_lawful_108 : decode cX2_lawful 108 = .ok (.iload 4, 2) := by decide +kernel
theorem dX2_lawful_110 : decode cX2_lawful 110 = .ok (.iconst 1, 1) := by decide +kernel
theorem dX2_lawful_111 : decode cX2_lawful 111 = .ok (.isub, 1) := by decide +kernel
theorem dX2_lawful_112 : decode cX2_lawful 112 = .ok (.ireturn, 1) := by decide +kernel
theorem dX2_heldDay_0 : decode cX2_heldDay 0 = .ok (.iload_n 1, 1) := by decide +kernel
theorem dX2_heldDay_1 : decode cX2_heldDay 1 = .ok (.ifCond .lt 25, 3) := by decide +kernel
theorem dX2_heldDay_4 : decode cX2_heldDay 4 = .ok (.iload_n 1, 1) := by decide +kernel
theorem dX2_heldDay_5 : decode cX2_heldDay 5 = .ok (.aload_n 0, 1) := by decide +kernel
theorem dX2_heldDay_6 : decode cX2_heldDay 6 = .ok (.getfield 101, 3) := by decide +kernel
theorem dX2_heldDay_9 : decode cX2_heldDay 9 = .ok (.if_icmp .ge 17, 3) := by decide +kernel
theorem dX2_heldDay_12 : decode cX2_heldDay 12 = .ok (.aload_n 0, 1) := by decide +kernel
theorem dX2_heldDay_13 : decode cX2_heldDay 13 = .ok (.getfield 15, 3) := by decide +kernel
theorem dX2_heldDay_16 : decode cX2_heldDay 16 = .ok (.aload_n 0, 1) := by decide +kernel
theorem dX2_heldDay_17 : decode cX2_heldDay 17 = .ok (.getfield 31, 3) := by decide +kernel
theorem dX2_heldDay_20 : decode cX2_heldDay 20 = .ok (.iload_n 1, 1) := by decide +kernel
theorem dX2_heldDay_21 : decode cX2_heldDay 21 = .ok (.iaload, 1) := by decide +kernel
theorem dX2_heldDay_22 : decode cX2_heldDay 22 = .ok (.iaload, 1) := by decide +kernel
theorem dX2_heldDay_23 : decode cX2_heldDay 23 = .ok (.goto 5, 3) := by decide +kernel
theorem dX2_heldDay_26 : decode cX2_heldDay 26 = .ok (.bipush (-2), 2) := by decide +kernel
theorem dX2_heldDay_28 : decode cX2_heldDay 28 = .ok (.ireturn, 1) := by decide +kernel
theorem dX2_costOf_0 : decode cX2_costOf 0 = .ok (.iconst 0, 1) := by decide +kernel
theorem dX2_costOf_1 : decode cX2_costOf 1 = .ok (.istore_n 3, 1) := by decide +kernel
theorem dX2_costOf_2 : decode cX2_costOf 2 = .ok (.iconst 0, 1) := by decide +kernel
theorem dX2_costOf_3 : decode cX2_costOf 3 = .ok (.istore 4, 2) := by decide +kernel
theorem dX2_costOf_5 : decode cX2_costOf 5 = .ok (.iload 4, 2) := by decide +kernel
theorem dX2_costOf_7 : decode cX2_costOf 7 = .ok (.aload_n 0, 1) := by decide +kernel
theorem dX2_costOf_8 : decode cX2_costOf 8 = .ok (.getfield 37, 3) := by decide +kernel
theorem dX2_costOf_11 : decode cX2_costOf 11 = .ok (.getfield 62, 3) := by decide +kernel
theorem dX2_costOf_14 : decode cX2_costOf 14 = .ok (.if_icmp .ge 38, 3) := by decide +kernel
theorem dX2_costOf_17 : decode cX2_costOf 17 = .ok (.aload_n 0, 1) := by decide +kernel
theorem dX2_costOf_18 : decode cX2_costOf 18 = .ok (.iload 4, 2) := by decide +kernel
theorem dX2_costOf_20 : decode cX2_costOf 20 = .ok (.iload_n 2, 1) := by decide +kernel
theorem dX2_costOf_21 : decode cX2_costOf 21 = .ok (.invokevirtual 109, 3) := by decide +kernel
theorem dX2_costOf_24 : decode cX2_costOf 24 = .ok (.iload_n 1, 1) := by decide +kernel
theorem dX2_costOf_25 : decode cX2_costOf 25 = .ok (.iload 4, 2) := by decide +kernel
theorem dX2_costOf_27 : decode cX2_costOf 27 = .ok (.invokestatic 116, 3) := by decide +kernel
theorem dX2_costOf_30 : decode cX2_costOf 30 = .ok (.if_icmp .eq 16, 3) := by decide +kernel
theorem dX2_costOf_33 : decode cX2_costOf 33 = .ok (.iload_n 3, 1) := by decide +kernel
theorem dX2_costOf_34 : decode cX2_costOf 34 = .ok (.aload_n 0, 1) := by decide +kernel
theorem dX2_costOf_35 : decode cX2_costOf 35 = .ok (.getfield 37, 3) := by decide +kernel
theorem dX2_costOf_38 : decode cX2_costOf 38 = .ok (.iload 4, 2) := by decide +kernel
theorem dX2_costOf_40 : decode cX2_costOf 40 = .ok (.iconst 2, 1) := by decide +kernel
theorem dX2_costOf_41 : decode cX2_costOf 41 = .ok (.invokevirtual 134, 3) := by decide +kernel
theorem dX2_costOf_44 : decode cX2_costOf 44 = .ok (.iadd, 1) := by decide +kernel
theorem dX2_costOf_45 : decode cX2_costOf 45 = .ok (.istore_n 3, 1) := by decide +kernel
theorem dX2_costOf_46 : decode cX2_costOf 46 = .ok (.iinc 4 1, 3) := by decide +kernel
theorem dX2_costOf_49 : decode cX2_costOf 49 = .ok (.goto (-44), 3) := by decide +kernel
theorem dX2_costOf_52 : decode cX2_costOf 52 = .ok (.iload_n 3, 1) := by decide +kernel
theorem dX2_costOf_53 : decode cX2_costOf 53 = .ok (.ireturn, 1) := by decide +kernel
theorem dX2_nextDay_0 : decode cX2_nextDay 0 = .ok (.aload_n 0, 1) := by decide +kernel
theorem dX2_nextDay_1 : decode cX2_nextDay 1 = .ok (.getfield 37, 3) := by decide +kernel
theorem dX2_nextDay_4 : decode cX2_nextDay 4 = .ok (.iload_n 1, 1) := by decide +kernel
theorem dX2_nextDay_5 : decode cX2_nextDay 5 = .ok (.invokevirtual 137, 3) := by decide +kernel
theorem dX2_nextDay_8 : decode cX2_nextDay 8 = .ok (.istore_n 2, 1) := by decide +kernel
theorem dX2_nextDay_9 : decode cX2_nextDay 9 = .ok (.iconst 0, 1) := by decide +kernel
theorem dX2_nextDay_10 : decode cX2_nextDay 10 = .ok (.istore_n 3, 1) := by decide +kernel
theorem dX2_nextDay_11 : decode cX2_nextDay 11 = .ok (.iconst 0, 1) := by decide +kernel
theorem dX2_nextDay_12 : decode cX2_nextDay 12 = .ok (.istore 4, 2) := by decide +kernel
theorem dX2_nextDay_14 : decode cX2_nextDay 14 = .ok (.iload 4, 2) := by decide +kernel
theorem dX2_nextDay_16 : decode cX2_nextDay 16 = .ok (.aload_n 0, 1) := by decide +kernel
theorem dX2_nextDay_17 : decode cX2_nextDay 17 = .ok (.getfield 37, 3) := by decide +kernel
theorem dX2_nextDay_20 : decode cX2_nextDay 20 = .ok (.getfield 62, 3) := by decide +kernel
theorem dX2_nextDay_23 : decode cX2_nextDay 23 = .ok (.if_icmp .ge 24, 3) := by decide +kernel
theorem dX2_nextDay_26 : decode cX2_nextDay 26 = .ok (.iload_n 3, 1) := by decide +kernel
theorem dX2_nextDay_27 : decode cX2_nextDay 27 = .ok (.aload_n 0, 1) := by decide +kernel
theorem dX2_nextDay_28 : decode cX2_nextDay 28 = .ok (.iload 4, 2) := by decide +kernel
theorem dX2_nextDay_30 : decode cX2_nextDay 30 = .ok (.iload_n 2, 1) := by decide +kernel
theorem dX2_nextDay_31 : decode cX2_nextDay 31 = .ok (.invokevirtual 109, 3) := by decide +kernel
theorem dX2_nextDay_34 : decode cX2_nextDay 34 = .ok (.iconst 2, 1) := by decide +kernel
theorem dX2_nextDay_35 : decode cX2_nextDay 35 = .ok (.iload 4, 2) := by decide +kernel
theorem dX2_nextDay_37 : decode cX2_nextDay 37 = .ok (.imul, 1) := by decide +kernel
theorem dX2_nextDay_38 : decode cX2_nextDay 38 = .ok (.ishl, 1) := by decide +kernel
theorem dX2_nextDay_39 : decode cX2_nextDay 39 = .ok (.ior, 1) := by decide +kernel
theorem dX2_nextDay_40 : decode cX2_nextDay 40 = .ok (.istore_n 3, 1) := by decide +kernel
theorem dX2_nextDay_41 : decode cX2_nextDay 41 = .ok (.iinc 4 1, 3) := by decide +kernel
theorem dX2_nextDay_44 : decode cX2_nextDay 44 = .ok (.goto (-30), 3) := by decide +kernel
theorem dX2_nextDay_47 : decode cX2_nextDay 47 = .ok (.iload_n 3, 1) := by decide +kernel
theorem dX2_nextDay_48 : decode cX2_nextDay 48 = .ok (.ireturn, 1) := by decide +kernel
theorem dX2_followed_0 : decode cX2_followed 0 = .ok (.aload_n 0, 1) := by decide +kernel
theorem dX2_followed_1 : decode cX2_followed 1 = .ok (.getfield 34, 3) := by decide +kernel
theorem dX2_followed_4 : decode cX2_followed 4 = .ok (.iconst (-1), 1) := by decide +kernel
theorem dX2_followed_5 : decode cX2_followed 5 = .ok (.invokestatic 91, 3) := by decide +kernel
theorem dX2_followed_8 : decode cX2_followed 8 = .ok (.iload_n 1, 1) := by decide +kernel
theorem dX2_followed_9 : decode cX2_followed 9 = .ok (.istore_n 3, 1) := by decide +kernel
theorem dX2_followed_10 : decode cX2_followed 10 = .ok (.iconst 0, 1) := by decide +kernel
theorem dX2_followed_11 : decode cX2_followed 11 = .ok (.istore 4, 2) := by decide +kernel
theorem dX2_followed_13 : decode cX2_followed 13 = .ok (.iload 4, 2) := by decide +kernel
theorem dX2_followed_15 : decode cX2_followed 15 = .ok (.sipush 1024, 3) := by decide +kernel
theorem dX2_followed_18 : decode cX2_followed 18 = .ok (.if_icmp .ge 32, 3) := by decide +kernel
theorem dX2_followed_21 : decode cX2_followed 21 = .ok (.aload_n 0, 1) := by decide +kernel
theorem dX2_followed_22 : decode cX2_followed 22 = .ok (.getfield 34, 3) := by decide +kernel
theorem dX2_followed_25 : decode cX2_followed 25 = .ok (.iload_n 3, 1) := by decide +kernel
theorem dX2_followed_26 : decode cX2_followed 26 = .ok (.iaload, 1) := by decide +kernel
theorem dX2_followed_27 : decode cX2_followed 27 = .ok (.ifCond .ge 23, 3) := by decide +kernel
theorem dX2_followed_30 : decode cX2_followed 30 = .ok (.aload_n 0, 1) := by decide +kernel
theorem dX2_followed_31 : decode cX2_followed 31 = .ok (.getfield 34, 3) := by decide +kernel
theorem dX2_followed_34 : decode cX2_followed 34 = .ok (.iload_n 3, 1) := by decide +kernel
theorem dX2_followed_35 : decode cX2_followed 35 = .ok (.iload 4, 2) := by decide +kernel
theorem dX2_followed_37 : decode cX2_followed 37 = .ok (.iastore, 1) := by decide +kernel
theorem dX2_followed_38 : decode cX2_followed 38 = .ok (.aload_n 0, 1) := by decide +kernel
theorem dX2_followed_39 : decode cX2_followed 39 = .ok (.iload_n 3, 1) := by decide +kernel
theorem dX2_followed_40 : decode cX2_followed 40 = .ok (.invokevirtual 140, 3) := by decide +kernel
theorem dX2_followed_43 : decode cX2_followed 43 = .ok (.istore_n 3, 1) := by decide +kernel
theorem dX2_followed_44 : decode cX2_followed 44 = .ok (.iinc 4 1, 3) := by decide +kernel
theorem dX2_followed_47 : decode cX2_followed 47 = .ok (.goto (-34), 3) := by decide +kernel
theorem dX2_followed_50 : decode cX2_followed 50 = .ok (.iload_n 2, 1) := by decide +kernel
theorem dX2_followed_51 : decode cX2_followed 51 = .ok (.ifCond .ne 6, 3) := by decide +kernel
theorem dX2_followed_54 : decode cX2_followed 54 = .ok (.iload 4, 2) := by decide +kernel
theorem dX2_followed_56 : decode cX2_followed 56 = .ok (.ireturn, 1) := by decide +kernel
theorem dX2_followed_57 : decode cX2_followed 57 = .ok (.iload_n 2, 1) := by decide +kernel
theorem dX2_followed_58 : decode cX2_followed 58 = .ok (.iconst 1, 1) := by decide +kernel
theorem dX2_followed_59 : decode cX2_followed 59 = .ok (.if_icmp .ne 15, 3) := by decide +kernel
theorem dX2_followed_62 : decode cX2_followed 62 = .ok (.iload 4, 2) := by decide +kernel
theorem dX2_followed_64 : decode cX2_followed 64 = .ok (.aload_n 0, 1) := by decide +kernel
theorem dX2_followed_65 : decode cX2_followed 65 = .ok (.getfield 34, 3) := by decide +kernel
theorem dX2_followed_68 : decode cX2_followed 68 = .ok (.iload_n 3, 1) := by decide +kernel
theorem dX2_followed_69 : decode cX2_followed 69 = .ok (.iaload, 1) := by decide +kernel
theorem dX2_followed_70 : decode cX2_followed 70 = .ok (.isub, 1) := by decide +kernel
theorem dX2_followed_71 : decode cX2_followed 71 = .ok (.goto 4, 3) := by decide +kernel
theorem dX2_followed_74 : decode cX2_followed 74 = .ok (.iload_n 3, 1) := by decide +kernel
theorem dX2_followed_75 : decode cX2_followed 75 = .ok (.ireturn, 1) := by decide +kernel
theorem dX2_paint_0 : decode cX2_paint 0 = .ok (.iconst 0, 1) := by decide +kernel
theorem dX2_paint_1 : decode cX2_paint 1 = .ok (.istore_n 3, 1) := by decide +kernel
theorem dX2_paint_2 : decode cX2_paint 2 = .ok (.iload_n 3, 1) := by decide +kernel
theorem dX2_paint_3 : decode cX2_paint 3 = .ok (.aload_n 0, 1) := by decide +kernel
theorem dX2_paint_4 : decode cX2_paint 4 = .ok (.getfield 37, 3) := by decide +kernel
theorem dX2_paint_7 : decode cX2_paint 7 = .ok (.getfield 62, 3) := by decide +kernel
theorem dX2_paint_10 : decode cX2_paint 10 = .ok (.if_icmp .ge 35, 3) := by decide +kernel
theorem dX2_paint_13 : decode cX2_paint 13 = .ok (.iload_n 3, 1) := by decide +kernel
theorem dX2_paint_14 : decode cX2_paint 14 = .ok (.iload_n 1, 1) := by decide +kernel
theorem dX2_paint_15 : decode cX2_paint 15 = .ok (.if_icmp .eq 24, 3) := by decide +kernel
theorem dX2_paint_18 : decode cX2_paint 18 = .ok (.aload_n 0, 1) := by decide +kernel
theorem dX2_paint_19 : decode cX2_paint 19 = .ok (.iload_n 3, 1) := by decide +kernel
theorem dX2_paint_20 : decode cX2_paint 20 = .ok (.invokevirtual 78, 3) := by decide +kernel
theorem dX2_paint_23 : decode cX2_paint 23 = .ok (.iload_n 2, 1) := by decide +kernel
theorem dX2_paint_24 : decode cX2_paint 24 = .ok (.if_icmp .ne 15, 3) := by decide +kernel
theorem dX2_paint_27 : decode cX2_paint 27 = .ok (.aload_n 0, 1) := by decide +kernel
theorem dX2_paint_28 : decode cX2_paint 28 = .ok (.getfield 25, 3) := by decide +kernel
theorem dX2_paint_31 : decode cX2_paint 31 = .ok (.iload_n 3, 1) := by decide +kernel
theorem dX2_paint_32 : decode cX2_paint 32 = .ok (.dup2, 1) := by decide +kernel
theorem dX2_paint_33 : decode cX2_paint 33 = .ok (.iaload, 1) := by decide +kernel
theorem dX2_paint_34 : decode cX2_paint 34 = .ok (.iconst 1, 1) := by decide +kernel
theorem dX2_paint_35 : decode cX2_paint 35 = .ok (.iload_n 1, 1) := by decide +kernel
theorem dX2_paint_36 : decode cX2_paint 36 = .ok (.ishl, 1) := by decide +kernel
theorem dX2_paint_37 : decode cX2_paint 37 = .ok (.ior, 1) := by decide +kernel
theorem dX2_paint_38 : decode cX2_paint 38 = .ok (.iastore, 1) := by decide +kernel
theorem dX2_paint_39 : decode cX2_paint 39 = .ok (.iinc 3 1, 3) := by decide +kernel
theorem dX2_paint_42 : decode cX2_paint 42 = .ok (.goto (-40), 3) := by decide +kernel
theorem dX2_paint_45 : decode cX2_paint 45 = .ok (.return_, 1) := by decide +kernel
theorem dX2_drown_0 : decode cX2_drown 0 = .ok (.iconst 0, 1) := by decide +kernel
theorem dX2_drown_1 : decode cX2_drown 1 = .ok (.istore 4, 2) := by decide +kernel
theorem dX2_drown_3 : decode cX2_drown 3 = .ok (.iload 4, 2) := by decide +kernel
theorem dX2_drown_5 : decode cX2_drown 5 = .ok (.aload_n 0, 1) := by decide +kernel
theorem dX2_drown_6 : decode cX2_drown 6 = .ok (.getfield 37, 3) := by decide +kernel
theorem dX2_drown_9 : decode cX2_drown 9 = .ok (.getfield 62, 3) := by decide +kernel
theorem dX2_drown_12 : decode cX2_drown 12 = .ok (.if_icmp .ge 53, 3) := by decide +kernel
theorem dX2_drown_15 : decode cX2_drown 15 = .ok (.aload_n 0, 1) := by decide +kernel
theorem dX2_drown_16 : decode cX2_drown 16 = .ok (.iload 4, 2) := by decide +kernel
theorem dX2_drown_18 : decode cX2_drown 18 = .ok (.invokevirtual 78, 3) := by decide +kernel
theorem dX2_drown_21 : decode cX2_drown 21 = .ok (.iload_n 1, 1) := by decide +kernel
theorem dX2_drown_22 : decode cX2_drown 22 = .ok (.if_icmp .ne 37, 3) := by decide +kernel
theorem dX2_drown_25 : decode cX2_drown 25 = .ok (.aload_n 0, 1) := by decide +kernel
theorem dX2_drown_26 : decode cX2_drown 26 = .ok (.getfield 37, 3) := by decide +kernel
theorem dX2_drown_29 : decode cX2_drown 29 = .ok (.iload 4, 2) := by decide +kernel
theorem dX2_drown_31 : decode cX2_drown 31 = .ok (.invokevirtual 82, 3) := by decide +kernel
theorem dX2_drown_34 : decode cX2_drown 34 = .ok (.iload_n 2, 1) := by decide +kernel
theorem dX2_drown_35 : decode cX2_drown 35 = .ok (.if_icmp .lt 24, 3) := by decide +kernel
theorem dX2_drown_38 : decode cX2_drown 38 = .ok (.aload_n 0, 1) := by decide +kernel
theorem dX2_drown_39 : decode cX2_drown 39 = .ok (.getfield 37, 3) := by decide +kernel
theorem dX2_drown_42 : decode cX2_drown 42 = .ok (.iload 4, 2) := by decide +kernel
theorem dX2_drown_44 : decode cX2_drown 44 = .ok (.invokevirtual 82, 3) := by decide +kernel
theorem dX2_drown_47 : decode cX2_drown 47 = .ok (.iload_n 3, 1) := by decide +kernel
theorem dX2_drown_48 : decode cX2_drown 48 = .ok (.if_icmp .gt 11, 3) := by decide +kernel
theorem dX2_drown_51 : decode cX2_drown 51 = .ok (.aload_n 0, 1) := by decide +kernel
theorem dX2_drown_52 : decode cX2_drown 52 = .ok (.getfield 22, 3) := by decide +kernel
theorem dX2_drown_55 : decode cX2_drown 55 = .ok (.iload 4, 2) := by decide +kernel
theorem dX2_drown_57 : decode cX2_drown 57 = .ok (.iconst 0, 1) := by decide +kernel
theorem dX2_drown_58 : decode cX2_drown 58 = .ok (.iastore, 1) := by decide +kernel
theorem dX2_drown_59 : decode cX2_drown 59 = .ok (.iinc 4 1, 3) := by decide +kernel
theorem dX2_drown_62 : decode cX2_drown 62 = .ok (.goto (-59), 3) := by decide +kernel
theorem dX2_drown_65 : decode cX2_drown 65 = .ok (.return_, 1) := by decide +kernel
theorem dX2_lawNamesLead_0 : decode cX2_lawNamesLead 0 = .ok (.aload_n 0, 1) := by decide +kernel
theorem dX2_lawNamesLead_1 : decode cX2_lawNamesLead 1 = .ok (.getfield 41, 3) := by decide +kernel
theorem dX2_lawNamesLead_4 : decode cX2_lawNamesLead 4 = .ok (.invokevirtual 143, 3) := by decide +kernel
theorem dX2_lawNamesLead_7 : decode cX2_lawNamesLead 7 = .ok (.ireturn, 1) := by decide +kernel
theorem dX3_init_0 : decode cX3_init 0 = .ok (.aload_n 0, 1) := by decide +kernel
theorem dX3_init_1 : decode cX3_init 1 = .ok (.invokespecial 3, 3) := by decide +kernel
theorem dX3_init_4 : decode cX3_init 4 = .ok (.aload_n 0, 1) := by decide +kernel
theorem dX3_init_5 : decode cX3_init 5 = .ok (.iconst 4, 1) := by decide +kernel
theorem dX3_init_6 : decode cX3_init 6 = .ok (.newarray .int, 2) := by decide +kernel
theorem dX3_init_8 : decode cX3_init 8 = .ok (.putfield 11, 3) := by decide +kernel
theorem dX3_init_11 : decode cX3_init 11 = .ok (.aload_n 0, 1) := by decide +kernel
theorem dX3_init_12 : decode cX3_init 12 = .ok (.iconst 4, 1) := by decide +kernel
theorem dX3_init_13 : decode cX3_init 13 = .ok (.newarray .int, 2) := by decide +kernel
theorem dX3_init_15 : decode cX3_init 15 = .ok (.putfield 15, 3) := by decide +kernel
theorem dX3_init_18 : decode cX3_init 18 = .ok (.aload_n 0, 1) := by decide +kernel
theorem dX3_init_19 : decode cX3_init 19 = .ok (.getfield 11, 3) := by decide +kernel
theorem dX3_init_22 : decode cX3_init 22 = .ok (.iconst 3, 1) := by decide +kernel
theorem dX3_init_23 : decode cX3_init 23 = .ok (.bipush (-2), 2) := by decide +kernel
theorem dX3_init_25 : decode cX3_init 25 = .ok (.iastore, 1) := by decide +kernel
theorem dX3_init_26 : decode cX3_init 26 = .ok (.return_, 1) := by decide +kernel
theorem dX3_told_0 : decode cX3_told 0 = .ok (.aload_n 0, 1) := by decide +kernel
theorem dX3_told_1 : decode cX3_told 1 = .ok (.getfield 11, 3) := by decide +kernel
theorem dX3_told_4 : decode cX3_told 4 = .ok (.iload_n 1, 1) := by decide +kernel
theorem dX3_told_5 : decode cX3_told 5 = .ok (.iaload, 1) := by decide +kernel
theorem dX3_told_6 : decode cX3_told 6 = .ok (.ireturn, 1) := by decide +kernel
theorem dX3_lived_0 : decode cX3_lived 0 = .ok (.aload_n 0, 1) := by decide +kernel
theorem dX3_lived_1 : decode cX3_lived 1 = .ok (.getfield 11, 3) := by decide +kernel
theorem dX3_lived_4 : decode cX3_lived 4 = .ok (.iconst 0, 1) := by decide +kernel
theorem dX3_lived_5 : decode cX3_lived 5 = .ok (.dup2, 1) := by decide +kernel
theorem dX3_lived_6 : decode cX3_lived 6 = .ok (.iaload, 1) := by decide +kernel
theorem dX3_lived_7 : decode cX3_lived 7 = .ok (.iconst 1, 1) := by decide +kernel
theorem dX3_lived_8 : decode cX3_lived 8 = .ok (.iadd, 1) := by decide +kernel
theorem dX3_lived_9 : decode cX3_lived 9 = .ok (.iastore, 1) := by decide +kernel
theorem dX3_lived_10 : decode cX3_lived 10 = .ok (.aload_n 0, 1) := by decide +kernel
theorem dX3_lived_11 : decode cX3_lived 11 = .ok (.getfield 11, 3) := by decide +kernel
theorem dX3_lived_14 : decode cX3_lived 14 = .ok (.iconst 1, 1) := by decide +kernel
theorem dX3_lived_15 : decode cX3_lived 15 = .ok (.dup2, 1) := by decide +kernel
theorem dX3_lived_16 : decode cX3_lived 16 = .ok (.iaload, 1) := by decide +kernel
theorem dX3_lived_17 : decode cX3_lived 17 = .ok (.iload_n 2, 1) := by decide +kernel
theorem dX3_lived_18 : decode cX3_lived 18 = .ok (.iadd, 1) := by decide +kernel
theorem dX3_lived_19 : decode cX3_lived 19 = .ok (.iastore, 1) := by decide +kernel
theorem dX3_lived_20 : decode cX3_lived 20 = .ok (.aload_n 0, 1) := by decide +kernel
theorem dX3_lived_21 : decode cX3_lived 21 = .ok (.getfield 11, 3) := by decide +kernel
theorem dX3_lived_24 : decode cX3_lived 24 = .ok (.iconst 2, 1) := by decide +kernel
theorem dX3_lived_25 : decode cX3_lived 25 = .ok (.dup2, 1) := by decide +kernel
theorem dX3_lived_26 : decode cX3_lived 26 = .ok (.iaload, 1) := by decide +kernel
theorem dX3_lived_27 : decode cX3_lived 27 = .ok (.iload_n 3, 1) := by decide +kernel
theorem dX3_lived_28 : decode cX3_lived 28 = .ok (.iadd, 1) := by decide +kernel
theorem dX3_lived_29 : decode cX3_lived 29 = .ok (.iastore, 1) := by decide +kernel
theorem dX3_lived_30 : decode cX3_lived 30 = .ok (.aload_n 0, 1) := by decide +kernel
theorem dX3_lived_31 : decode cX3_lived 31 = .ok (.getfield 11, 3) := by decide +kernel
theorem dX3_lived_34 : decode cX3_lived 34 = .ok (.iconst 3, 1) := by decide +kernel
theorem dX3_lived_35 : decode cX3_lived 35 = .ok (.iload_n 1, 1) := by decide +kernel
theorem dX3_lived_36 : decode cX3_lived 36 = .ok (.iastore, 1) := by decide +kernel
theorem dX3_lived_37 : decode cX3_lived 37 = .ok (.return_, 1) := by decide +kernel
theorem dX3_keepImage_0 : decode cX3_keepImage 0 = .ok (.aload_n 0, 1) := by decide +kernel
theorem dX3_keepImage_1 : decode cX3_keepImage 1 = .ok (.getfield 11, 3) := by decide +kernel
theorem dX3_keepImage_4 : decode cX3_keepImage 4 = .ok (.iconst 0, 1) := by decide +kernel
theorem dX3_keepImage_5 : decode cX3_keepImage 5 = .ok (.aload_n 0, 1) := by decide +kernel
theorem dX3_keepImage_6 : decode cX3_keepImage 6 = .ok (.getfield 15, 3) := by decide +kernel
theorem dX3_keepImage_9 : decode cX3_keepImage 9 = .ok (.iconst 0, 1) := by decide +kernel
theorem dX3_keepImage_10 : decode cX3_keepImage 10 = .ok (.aload_n 0, 1) := by decide +kernel
theorem dX3_keepImage_11 : decode cX3_keepImage 11 = .ok (.getfield 11, 3) := by decide +kernel
theorem dX3_keepImage_14 : decode cX3_keepImage 14 = .ok (.arraylength, 1) := by decide +kernel
theorem dX3_keepImage_15 : decode cX3_keepImage 15 = .ok (.invokestatic 18, 3) := by decide +kernel
theorem dX3_keepImage_18 : decode cX3_keepImage 18 = .ok (.aload_n 0, 1) := by decide +kernel
theorem dX3_keepImage_19 : decode cX3_keepImage 19 = .ok (.iconst 1, 1) := by decide +kernel
theorem dX3_keepImage_20 : decode cX3_keepImage 20 = .ok (.putfield 24, 3) := by decide +kernel
theorem dX3_keepImage_23 : decode cX3_keepImage 23 = .ok (.return_, 1) := by decide +kernel
theorem dX3_layBack_0 : decode cX3_layBack 0 = .ok (.aload_n 0, 1) := by decide +kernel
theorem dX3_layBack_1 : decode cX3_layBack 1 = .ok (.getfield 24, 3) := by decide +kernel
theorem dX3_layBack_4 : decode cX3_layBack 4 = .ok (.ifCond .eq 21, 3) := by decide +kernel
theorem dX3_layBack_7 : decode cX3_layBack 7 = .ok (.aload_n 0, 1) := by decide +kernel
theorem dX3_layBack_8 : decode cX3_layBack 8 = .ok (.getfield 15, 3) := by decide +kernel
theorem dX3_layBack_11 : decode cX3_layBack 11 = .ok (.iconst 0, 1) := by decide +kernel
theorem dX3_layBack_12 : decode cX3_layBack 12 = .ok (.aload_n 0, 1) := by decide +kernel
theorem dX3_layBack_13 : decode cX3_layBack 13 = .ok (.getfield 11, 3) := by decide +kernel
theorem dX3_layBack_16 : decode cX3_layBack 16 = .ok (.iconst 0, 1) := by decide +kernel
theorem dX3_layBack_17 : decode cX3_layBack 17 = .ok (.aload_n 0, 1) := by decide +kernel
theorem dX3_layBack_18 : decode cX3_layBack 18 = .ok (.getfield 11, 3) := by decide +kernel
theorem dX3_layBack_21 : decode cX3_layBack 21 = .ok (.arraylength, 1) := by decide +kernel
theorem dX3_layBack_22 : decode cX3_layBack 22 = .ok (.invokestatic 18, 3) := by decide +kernel
theorem dX3_layBack_25 : decode cX3_layBack 25 = .ok (.aload_n 0, 1) := by decide +kernel
theorem dX3_layBack_26 : decode cX3_layBack 26 = .ok (.getfield 24, 3) := by decide +kernel
theorem dX3_layBack_29 : decode cX3_layBack 29 = .ok (.ireturn, 1) := by decide +kernel
theorem dX4_init_0 : decode cX4_init 0 = .ok (.aload_n 0, 1) := by decide +kernel
theorem dX4_init_1 : decode cX4_init 1 = .ok (.invokespecial 1, 3) := by decide +kernel
theorem dX4_init_4 : decode cX4_init 4 = .ok (.aload_n 0, 1) := by decide +kernel
theorem dX4_init_5 : decode cX4_init 5 = .ok (.bipush 120, 2) := by decide +kernel
theorem dX4_init_7 : decode cX4_init 7 = .ok (.newarray .int, 2) := by decide +kernel
theorem dX4_init_9 : decode cX4_init 9 = .ok (.putfield 9, 3) := by decide +kernel
theorem dX4_init_12 : decode cX4_init 12 = .ok (.aload_n 0, 1) := by decide +kernel
theorem dX4_init_13 : decode cX4_init 13 = .ok (.bipush 121, 2) := by decide +kernel
theorem dX4_init_15 : decode cX4_init 15 = .ok (.newarray .int, 2) := by decide +kernel
theorem dX4_init_17 : decode cX4_init 17 = .ok (.putfield 13, 3) := by decide +kernel
theorem dX4_init_20 : decode cX4_init 20 = .ok (.aload_n 0, 1) := by decide +kernel
theorem dX4_init_21 : decode cX4_init 21 = .ok (.bipush 121, 2) := by decide +kernel
theorem dX4_init_23 : decode cX4_init 23 = .ok (.newarray .int, 2) := by decide +kernel
theorem dX4_init_25 : decode cX4_init 25 = .ok (.putfield 16, 3) := by decide +kernel
theorem dX4_init_28 : decode cX4_init 28 = .ok (.aload_n 0, 1) := by decide +kernel
theorem dX4_init_29 : decode cX4_init 29 = .ok (.bipush 121, 2) := by decide +kernel
theorem dX4_init_31 : decode cX4_init 31 = .ok (.newarray .int, 2) := by decide +kernel
theorem dX4_init_33 : decode cX4_init 33 = .ok (.putfield 19, 3) := by decide +kernel
theorem dX4_init_36 : decode cX4_init 36 = .ok (.aload_n 0, 1) := by decide +kernel
theorem dX4_init_37 : decode cX4_init 37 = .ok (.getfield 16, 3) := by decide +kernel
theorem dX4_init_40 : decode cX4_init 40 = .ok (.iconst 0, 1) := by decide +kernel
theorem dX4_init_41 : decode cX4_init 41 = .ok (.sipush 10110, 3) := by decide +kernel
theorem dX4_init_44 : decode cX4_init 44 = .ok (.iastore, 1) := by decide +kernel
theorem dX4_init_45 : decode cX4_init 45 = .ok (.aload_n 0, 1) := by decide +kernel
theorem dX4_init_46 : decode cX4_init 46 = .ok (.getfield 16, 3) := by decide +kernel
theorem dX4_init_49 : decode cX4_init 49 = .ok (.iconst 1, 1) := by decide +kernel
theorem dX4_init_50 : decode cX4_init 50 = .ok (.sipush 10059, 3) := by decide +kernel
theorem dX4_init_53 : decode cX4_init 53 = .ok (.iastore, 1) := by decide +kernel
theorem dX4_init_54 : decode cX4_init 54 = .ok (.aload_n 0, 1) := by decide +kernel
theorem dX4_init_55 : decode cX4_init 55 = .ok (.iconst 2, 1) := by decide +kernel
theorem dX4_init_56 : decode cX4_init 56 = .ok (.putfield 22, 3) := by decide +kernel
theorem dX4_init_59 : decode cX4_init 59 = .ok (.return_, 1) := by decide +kernel
theorem dX4_write_0 : decode cX4_write 0 = .ok (.aload_n 0, 1) := by decide +kernel
theorem dX4_write_1 : decode cX4_write 1 = .ok (.getfield 26, 3) := by decide +kernel
theorem dX4_write_4 : decode cX4_write 4 = .ok (.bipush 120, 2) := by decide +kernel
theorem dX4_write_6 : decode cX4_write 6 = .ok (.if_icmp .lt 5, 3) := by decide +kernel
theorem dX4_write_9 : decode cX4_write 9 = .ok (.iconst 0, 1) := by decide +kernel
theorem dX4_write_10 : decode cX4_write 10 = .ok (.ireturn, 1) := by decide +kernel
theorem dX4_write_11 : decode cX4_write 11 = .ok (.aload_n 0, 1) := by decide +kernel
theorem dX4_write_12 : decode cX4_write 12 = .ok (.getfield 9, 3) := by decide +kernel
theorem dX4_write_15 : decode cX4_write 15 = .ok (.aload_n 0, 1) := by decide +kernel
theorem dX4_write_16 : decode cX4_write 16 = .ok (.getfield 26, 3) := by decide +kernel
theorem dX4_write_19 : decode cX4_write 19 = .ok (.iload_n 1, 1) := by decide +kernel
theorem dX4_write_20 : decode cX4_write 20 = .ok (.iastore, 1) := by decide +kernel
theorem dX4_write_21 : decode cX4_write 21 = .ok (.aload_n 0, 1) := by decide +kernel
theorem dX4_write_22 : decode cX4_write 22 = .ok (.dup, 1) := by decide +kernel
theorem dX4_write_23 : decode cX4_write 23 = .ok (.getfield 26, 3) := by decide +kernel
theorem dX4_write_26 : decode cX4_write 26 = .ok (.iconst 1, 1) := by decide +kernel
theorem dX4_write_27 : decode cX4_write 27 = .ok (.iadd, 1) := by decide +kernel
theorem dX4_write_28 : decode cX4_write 28 = .ok (.putfield 26, 3) := by decide +kernel
theorem dX4_write_31 : decode cX4_write 31 = .ok (.iconst 1, 1) := by decide +kernel
theorem dX4_write_32 : decode cX4_write 32 = .ok (.ireturn, 1) := by decide +kernel
theorem dX4_adopt_0 : decode cX4_adopt 0 = .ok (.aload_n 0, 1) := by decide +kernel
theorem dX4_adopt_1 : decode cX4_adopt 1 = .ok (.iconst 0, 1) := by decide +kernel
theorem dX4_adopt_2 : decode cX4_adopt 2 = .ok (.putfield 29, 3) := by decide +kernel
theorem dX4_adopt_5 : decode cX4_adopt 5 = .ok (.aload_n 0, 1) := by decide +kernel
theorem dX4_adopt_6 : decode cX4_adopt 6 = .ok (.iconst 0, 1) := by decide +kernel
theorem dX4_adopt_7 : decode cX4_adopt 7 = .ok (.putfield 32, 3) := by decide +kernel
theorem dX4_adopt_10 : decode cX4_adopt 10 = .ok (.aload_n 0, 1) := by decide +kernel
theorem dX4_adopt_11 : decode cX4_adopt 11 = .ok (.invokevirtual 35, 3) := by decide +kernel
theorem dX4_adopt_14 : decode cX4_adopt 14 = .ok (.istore_n 1, 1) := by decide +kernel
theorem dX4_adopt_15 : decode cX4_adopt 15 = .ok (.aload_n 0, 1) := by decide +kernel
theorem dX4_adopt_16 : decode cX4_adopt 16 = .ok (.iconst 0, 1) := by decide +kernel
theorem dX4_adopt_17 : decode cX4_adopt 17 = .ok (.putfield 26, 3) := by decide +kernel
theorem dX4_adopt_20 : decode cX4_adopt 20 = .ok (.iload_n 1, 1) := by decide +kernel
theorem dX4_adopt_21 : decode cX4_adopt 21 = .ok (.ifCond .ne 8, 3) := by decide +kernel
theorem dX4_adopt_24 : decode cX4_adopt 24 = .ok (.aload_n 0, 1) := by decide +kernel
theorem dX4_adopt_25 : decode cX4_adopt 25 = .ok (.getfield 29, 3) := by decide +kernel
theorem dX4_adopt_28 : decode cX4_adopt 28 = .ok (.ireturn, 1) := by decide +kernel
theorem dX4_adopt_29 : decode cX4_adopt 29 = .ok (.aload_n 0, 1) := by decide +kernel
theorem dX4_adopt_30 : decode cX4_adopt 30 = .ok (.getfield 13, 3) := by decide +kernel
theorem dX4_adopt_33 : decode cX4_adopt 33 = .ok (.iconst 0, 1) := by decide +kernel
theorem dX4_adopt_34 : decode cX4_adopt 34 = .ok (.aload_n 0, 1) := by decide +kernel
theorem dX4_adopt_35 : decode cX4_adopt 35 = .ok (.getfield 16, 3) := by decide +kernel
theorem dX4_adopt_38 : decode cX4_adopt 38 = .ok (.iconst 0, 1) := by decide +kernel
theorem dX4_adopt_39 : decode cX4_adopt 39 = .ok (.aload_n 0, 1) := by decide +kernel
theorem dX4_adopt_40 : decode cX4_adopt 40 = .ok (.getfield 32, 3) := by decide +kernel
theorem dX4_adopt_43 : decode cX4_adopt 43 = .ok (.invokestatic 39, 3) := by decide +kernel
theorem dX4_adopt_46 : decode cX4_adopt 46 = .ok (.aload_n 0, 1) := by decide +kernel
theorem dX4_adopt_47 : decode cX4_adopt 47 = .ok (.aload_n 0, 1) := by decide +kernel
theorem dX4_adopt_48 : decode cX4_adopt 48 = .ok (.getfield 32, 3) := by decide +kernel
theorem dX4_adopt_51 : decode cX4_adopt 51 = .ok (.putfield 22, 3) := by decide +kernel
theorem dX4_adopt_54 : decode cX4_adopt 54 = .ok (.iconst (-1), 1) := by decide +kernel
theorem dX4_adopt_55 : decode cX4_adopt 55 = .ok (.ireturn, 1) := by decide +kernel
theorem dX4_text_0 : decode cX4_text 0 = .ok (.iconst 0, 1) := by decide +kernel
theorem dX4_text_1 : decode cX4_text 1 = .ok (.istore_n 1, 1) := by decide +kernel
theorem dX4_text_2 : decode cX4_text 2 = .ok (.iload_n 1, 1) := by decide +kernel
theorem dX4_text_3 : decode cX4_text 3 = .ok (.bipush 120, 2) := by decide +kernel
theorem dX4_text_5 : decode cX4_text 5 = .ok (.if_icmp .ge 52, 3) := by decide +kernel
theorem dX4_text_8 : decode cX4_text 8 = .ok (.aload_n 0, 1) := by decide +kernel
theorem dX4_text_9 : decode cX4_text 9 = .ok (.invokevirtual 45, 3) := by decide +kernel
theorem dX4_text_12 : decode cX4_text 12 = .ok (.ifCond .ne 5, 3) := by decide +kernel
theorem dX4_text_15 : decode cX4_text 15 = .ok (.iconst 0, 1) := by decide +kernel
theorem dX4_text_16 : decode cX4_text 16 = .ok (.ireturn, 1) := by decide +kernel
theorem dX4_text_17 : decode cX4_text 17 = .ok (.aload_n 0, 1) := by decide +kernel
theorem dX4_text_18 : decode cX4_text 18 = .ok (.getfield 29, 3) := by decide +kernel
theorem dX4_text_21 : decode cX4_text 21 = .ok (.aload_n 0, 1) := by decide +kernel
theorem dX4_text_22 : decode cX4_text 22 = .ok (.getfield 26, 3) := by decide +kernel
theorem dX4_text_25 : decode cX4_text 25 = .ok (.if_icmp .ne 5, 3) := by decide +kernel
theorem dX4_text_28 : decode cX4_text 28 = .ok (.iconst 1, 1) := by decide +kernel
theorem dX4_text_29 : decode cX4_text 29 = .ok (.ireturn, 1) := by decide +kernel
theorem dX4_text_30 : decode cX4_text 30 = .ok (.aload_n 0, 1) := by decide +kernel
theorem dX4_text_31 : decode cX4_text 31 = .ok (.invokevirtual 48, 3) := by decide +kernel
theorem dX4_text_34 : decode cX4_text 34 = .ok (.bipush 59, 2) := by decide +kernel
theorem dX4_text_36 : decode cX4_text 36 = .ok (.if_icmp .eq 5, 3) := by decide +kernel
theorem dX4_text_39 : decode cX4_text 39 = .ok (.iconst 0, 1) := by decide +kernel
theorem dX4_text_40 : decode cX4_text 40 = .ok (.ireturn, 1) := by decide +kernel
theorem dX4_text_41 : decode cX4_text 41 = .ok (.aload_n 0, 1) := by decide +kernel
theorem dX4_text_42 : decode cX4_text 42 = .ok (.dup, 1) := by decide +kernel
theorem dX4_text_43 : decode cX4_text 43 = .ok (.getfield 29, 3) := by decide +kernel
theorem dX4_text_46 : decode cX4_text 46 = .ok (.iconst 1, 1) := by decide +kernel
theorem dX4_text_47 : decode cX4_text 47 = .ok (.iadd, 1) := by decide +kernel
theorem dX4_text_48 : decode cX4_text 48 = .ok (.putfield 29, 3) := by decide +kernel
theorem dX4_text_51 : decode cX4_text 51 = .ok (.iinc 1 1, 3) := by decide +kernel
theorem dX4_text_54 : decode cX4_text 54 = .ok (.goto (-52), 3) := by decide +kernel
theorem dX4_text_57 : decode cX4_text 57 = .ok (.iconst 0, 1) := by decide +kernel
theorem dX4_text_58 : decode cX4_text 58 = .ok (.ireturn, 1) := by decide +kernel
theorem dX4_line_0 : decode cX4_line 0 = .ok (.aload_n 0, 1) := by decide +kernel
theorem dX4_line_1 : decode cX4_line 1 = .ok (.iconst 0, 1) := by decide +kernel
theorem dX4_line_2 : decode cX4_line 2 = .ok (.iconst 0, 1) := by decide +kernel
theorem dX4_line_3 : decode cX4_line 3 = .ok (.invokevirtual 52, 3) := by decide +kernel
theorem dX4_line_6 : decode cX4_line 6 = .ok (.ifCond .ne 5, 3) := by decide +kernel
theorem dX4_line_9 : decode cX4_line 9 = .ok (.iconst 0, 1) := by decide +kernel
theorem dX4_line_10 : decode cX4_line 10 = .ok (.ireturn, 1) := by decide +kernel
theorem dX4_line_11 : decode cX4_line 11 = .ok (.aload_n 0, 1) := by decide +kernel
theorem dX4_line_12 : decode cX4_line 12 = .ok (.invokevirtual 48, 3) := by decide +kernel
theorem dX4_line_15 : decode cX4_line 15 = .ok (.bipush 63, 2) := by decide +kernel
theorem dX4_line_17 : decode cX4_line 17 = .ok (.if_icmp .ne 31, 3) := by decide +kernel
theorem dX4_line_20 : decode cX4_line 20 = .ok (.aload_n 0, 1) := by decide +kernel
theorem dX4_line_21 : decode cX4_line 21 = .ok (.dup, 1) := by decide +kernel
theorem dX4_line_22 : decode cX4_line 22 = .ok (.getfield 29, 3) := by decide +kernel
theorem dX4_line_25 : decode cX4_line 25 = .ok (.iconst 1, 1) := by decide +kernel
theorem dX4_line_26 : decode cX4_line 26 = .ok (.iadd, 1) := by decide +kernel
theorem dX4_line_27 : decode cX4_line 27 = .ok (.putfield 29, 3) := by decide +kernel
theorem dX4_line_30 : decode cX4_line 30 = .ok (.aload_n 0, 1) := by decide +kernel
theorem dX4_line_31 : decode cX4_line 31 = .ok (.sipush 10063, 3) := by decide +kernel
theorem dX4_line_34 : decode cX4_line 34 = .ok (.invokevirtual 56, 3) := by decide +kernel
theorem dX4_line_37 : decode cX4_line 37 = .ok (.aload_n 0, 1) := by decide +kernel
theorem dX4_line_38 : decode cX4_line 38 = .ok (.iconst 0, 1) := by decide +kernel
theorem dX4_line_39 : decode cX4_line 39 = .ok (.iconst 0, 1) := by decide +kernel
theorem dX4_line_40 : decode cX4_line 40 = .ok (.invokevirtual 52, 3) := by decide +kernel
theorem dX4_line_43 : decode cX4_line 43 = .ok (.ifCond .ne 5, 3) := by decide +kernel
theorem dX4_line_46 : decode cX4_line 46 = .ok (.iconst 0, 1) := by decide +kernel
theorem dX4_line_47 : decode cX4_line 47 = .ok (.ireturn, 1) := by decide +kernel
theorem dX4_line_48 : decode cX4_line 48 = .ok (.aload_n 0, 1) := by decide +kernel
theorem dX4_line_49 : decode cX4_line 49 = .ok (.sipush 10059, 3) := by decide +kernel
theorem dX4_line_52 : decode cX4_line 52 = .ok (.invokevirtual 56, 3) := by decide +kernel
theorem dX4_line_55 : decode cX4_line 55 = .ok (.iconst 1, 1) := by decide +kernel
theorem dX4_line_56 : decode cX4_line 56 = .ok (.ireturn, 1) := by decide +kernel
theorem dX4_chain_0 : decode cX4_chain 0 = .ok (.iload_n 1, 1) := by decide +kernel
theorem dX4_chain_1 : decode cX4_chain 1 = .ok (.iconst 5, 1) := by decide +kernel
theorem dX4_chain_2 : decode cX4_chain 2 = .ok (.if_icmp .lt 9, 3) := by decide +kernel
theorem dX4_chain_5 : decode cX4_chain 5 = .ok (.aload_n 0, 1) := by decide +kernel
theorem dX4_chain_6 : decode cX4_chain 6 = .ok (.iload_n 2, 1) := by decide +kernel
theorem dX4_chain_7 : decode cX4_chain 7 = .ok (.invokevirtual 60, 3) := by decide +kernel
theorem dX4_chain_10 : decode cX4_chain 10 = .ok (.ireturn, 1) := by decide +kernel
theorem dX4_chain_11 : decode cX4_chain 11 = .ok (.aload_n 0, 1) := by decide +kernel
theorem dX4_chain_12 : decode cX4_chain 12 = .ok (.iload_n 1, 1) := by decide +kernel
theorem dX4_chain_13 : decode cX4_chain 13 = .ok (.iconst 1, 1) := by decide +kernel
theorem dX4_chain_14 : decode cX4_chain 14 = .ok (.iadd, 1) := by decide +kernel
theorem dX4_chain_15 : decode cX4_chain 15 = .ok (.iload_n 2, 1) := by decide +kernel
theorem dX4_chain_16 : decode cX4_chain 16 = .ok (.invokevirtual 52, 3) := by decide +kernel
theorem dX4_chain_19 : decode cX4_chain 19 = .ok (.ifCond .ne 5, 3) := by decide +kernel
theorem dX4_chain_22 : decode cX4_chain 22 = .ok (.iconst 0, 1) := by decide +kernel
theorem dX4_chain_23 : decode cX4_chain 23 = .ok (.ireturn, 1) := by decide +kernel
theorem dX4_chain_24 : decode cX4_chain 24 = .ok (.iload_n 1, 1) := by decide +kernel
theorem dX4_chain_25 : decode cX4_chain 25 = .ok (.iconst 2, 1) := by decide +kernel
theorem dX4_chain_26 : decode cX4_chain 26 = .ok (.if_icmp .ne 7, 3) := by decide +kernel
theorem dX4_chain_29 : decode cX4_chain 29 = .ok (.iconst 1, 1) := by decide +kernel
theorem dX4_chain_30 : decode cX4_chain 30 = .ok (.goto 5, 3) := by decide +kernel
theorem dX4_chain_33 : decode cX4_chain 33 = .ok (.bipush 120, 2) := by decide +kernel
theorem dX4_chain_35 : decode cX4_chain 35 = .ok (.istore_n 3, 1) := by decide +kernel
theorem dX4_chain_36 : decode cX4_chain 36 = .ok (.iconst 0, 1) := by decide +kernel
theorem dX4_chain_37 : decode cX4_chain 37 = .ok (.istore 4, 2) := by decide +kernel
theorem dX4_chain_39 : decode cX4_chain 39 = .ok (.iload 4, 2) := by decide +kernel
theorem dX4_chain_41 : decode cX4_chain 41 = .ok (.iload_n 3, 1) := by decide +kernel
theorem dX4_chain_42 : decode cX4_chain 42 = .ok (.if_icmp .ge 59, 3) := by decide +kernel
theorem dX4_chain_45 : decode cX4_chain 45 = .ok (.aload_n 0, 1) := by decide +kernel
theorem dX4_chain_46 : decode cX4_chain 46 = .ok (.invokevirtual 48, 3) := by decide +kernel
theorem dX4_chain_49 : decode cX4_chain 49 = .ok (.invokestatic 64, 3) := by decide +kernel
theorem dX4_chain_52 : decode cX4_chain 52 = .ok (.iload_n 1, 1) := by decide +kernel
theorem dX4_chain_53 : decode cX4_chain 53 = .ok (.if_icmp .ne 48, 3) := by decide +kernel
theorem dX4_chain_56 : decode cX4_chain 56 = .ok (.aload_n 0, 1) := by decide +kernel
theorem dX4_chain_57 : decode cX4_chain 57 = .ok (.invokevirtual 48, 3) := by decide +kernel
theorem dX4_chain_60 : decode cX4_chain 60 = .ok (.istore 5, 2) := by decide +kernel
theorem dX4_chain_62 : decode cX4_chain 62 = .ok (.aload_n 0, 1) := by decide +kernel
theorem dX4_chain_63 : decode cX4_chain 63 = .ok (.dup, 1) := by decide +kernel
theorem dX4_chain_64 : decode cX4_chain 64 = .ok (.getfield 29, 3) := by decide +kernel
theorem dX4_chain_67 : decode cX4_chain 67 = .ok (.iconst 1, 1) := by decide +kernel
theorem dX4_chain_68 : decode cX4_chain 68 = .ok (.iadd, 1) := by decide +kernel
theorem dX4_chain_69 : decode cX4_chain 69 = .ok (.putfield 29, 3) := by decide +kernel
theorem dX4_chain_72 : decode cX4_chain 72 = .ok (.aload_n 0, 1) := by decide +kernel
theorem dX4_chain_73 : decode cX4_chain 73 = .ok (.iload_n 1, 1) := by decide +kernel
theorem dX4_chain_74 : decode cX4_chain 74 = .ok (.iconst 1, 1) := by decide +kernel
theorem dX4_chain_75 : decode cX4_chain 75 = .ok (.iadd, 1) := by decide +kernel
theorem dX4_chain_76 : decode cX4_chain 76 = .ok (.iload_n 2, 1) := by decide +kernel
theorem dX4_chain_77 : decode cX4_chain 77 = .ok (.invokevirtual 52, 3) := by decide +kernel
theorem dX4_chain_80 : decode cX4_chain 80 = .ok (.ifCond .ne 5, 3) := by decide +kernel
theorem dX4_chain_83 : decode cX4_chain 83 = .ok (.iconst 0, 1) := by decide +kernel
theorem dX4_chain_84 : decode cX4_chain 84 = .ok (.ireturn, 1) := by decide +kernel
theorem dX4_chain_85 : decode cX4_chain 85 = .ok (.aload_n 0, 1) := by decide +kernel
theorem dX4_chain_86 : decode cX4_chain 86 = .ok (.sipush 10000, 3) := by decide +kernel
theorem dX4_chain_89 : decode cX4_chain 89 = .ok (.iload 5, 2) := by decide +kernel
theorem dX4_chain_91 : decode cX4_chain 91 = .ok (.iadd, 1) := by decide +kernel
theorem dX4_chain_92 : decode cX4_chain 92 = .ok (.invokevirtual 56, 3) := by decide +kernel
theorem dX4_chain_95 : decode cX4_chain 95 = .ok (.iinc 4 1, 3) := by decide +kernel
theorem dX4_chain_98 : decode cX4_chain 98 = .ok (.goto (-59), 3) := by decide +kernel
theorem dX4_chain_101 : decode cX4_chain 101 = .ok (.iconst 1, 1) := by decide +kernel
theorem dX4_chain_102 : decode cX4_chain 102 = .ok (.ireturn, 1) := by decide +kernel
theorem dX4_rankOf_0 : decode cX4_rankOf 0 = .ok (.iload_n 0, 1) := by decide +kernel
theorem dX4_rankOf_1 : decode cX4_rankOf 1 = .ok (.lookupswitch 101 #[(37, 99), (38, 93), (42, 99), (43, 97), (45, 97), (47, 99), (60, 95), (61, 95), (62, 95), (124, 91)], 91) := by decide +kernel
theorem dX4_rankOf_92 : decode cX4_rankOf 92 = .ok (.iconst 0, 1) := by decide +kernel
theorem dX4_rankOf_93 : decode cX4_rankOf 93 = .ok (.ireturn, 1) := by decide +kernel
theorem dX4_rankOf_94 : decode cX4_rankOf 94 = .ok (.iconst 1, 1) := by decide +kernel
theorem dX4_rankOf_95 : decode cX4_rankOf 95 = .ok (.ireturn, 1) := by decide +kernel
theorem dX4_rankOf_96 : decode cX4_rankOf 96 = .ok (.iconst 2, 1) := by decide +kernel
theorem dX4_rankOf_97 : decode cX4_rankOf 97 = .ok (.ireturn, 1) := by decide +kernel
theorem dX4_rankOf_98 : decode cX4_rankOf 98 = .ok (.iconst 3, 1) := by decide +kernel
theorem dX4_rankOf_99 : decode cX4_rankOf 99 = .ok (.ireturn, 1) := by decide +kernel
theorem dX4_rankOf_100 : decode cX4_rankOf 100 = .ok (.iconst 4, 1) := by decide +kernel
theorem dX4_rankOf_101 : decode cX4_rankOf 101 = .ok (.ireturn, 1) := by decide +kernel
theorem dX4_rankOf_102 : decode cX4_rankOf 102 = .ok (.iconst (-1), 1) := by decide +kernel
theorem dX4_rankOf_103 : decode cX4_rankOf 103 = .ok (.ireturn, 1) := by decide +kernel
theorem dX4_operand_0 : decode cX4_operand 0 = .ok (.aload_n 0, 1) := by decide +kernel
theorem dX4_operand_1 : decode cX4_operand 1 = .ok (.invokevirtual 48, 3) := by decide +kernel
theorem dX4_operand_4 : decode cX4_operand 4 = .ok (.istore_n 2, 1) := by decide +kernel
theorem dX4_operand_5 : decode cX4_operand 5 = .ok (.iload_n 2, 1) := by decide +kernel
theorem dX4_operand_6 : decode cX4_operand 6 = .ok (.invokestatic 68, 3) := by decide +kernel
theorem dX4_operand_9 : decode cX4_operand 9 = .ok (.ifCond .eq 9, 3) := by decide +kernel
theorem dX4_operand_12 : decode cX4_operand 12 = .ok (.aload_n 0, 1) := by decide +kernel
theorem dX4_operand_13 : decode cX4_operand 13 = .ok (.invokevirtual 71, 3) := by decide +kernel
theorem dX4_operand_16 : decode cX4_operand 16 = .ok (.iconst 1, 1) := by decide +kernel
theorem dX4_operand_17 : decode cX4_operand 17 = .ok (.ireturn, 1) := by decide +kernel
theorem dX4_operand_18 : decode cX4_operand 18 = .ok (.iload_n 2, 1) := by decide +kernel
theorem dX4_operand_19 : decode cX4_operand 19 = .ok (.invokestatic 74, 3) := by decide +kernel
theorem dX4_operand_22 : decode cX4_operand 22 = .ok (.ifCond .eq 24, 3) := by decide +kernel
theorem dX4_operand_25 : decode cX4_operand 25 = .ok (.aload_n 0, 1) := by decide +kernel
theorem dX4_operand_26 : decode cX4_operand 26 = .ok (.dup, 1) := by decide +kernel
theorem dX4_operand_27 : decode cX4_operand 27 = .ok (.getfield 29, 3) := by decide +kernel
theorem dX4_operand_30 : decode cX4_operand 30 = .ok (.iconst 1, 1) := by decide +kernel
theorem dX4_operand_31 : decode cX4_operand 31 = .ok (.iadd, 1) := by decide +kernel
theorem dX4_operand_32 : decode cX4_operand 32 = .ok (.putfield 29, 3) := by decide +kernel
theorem dX4_operand_35 : decode cX4_operand 35 = .ok (.aload_n 0, 1) := by decide +kernel
theorem dX4_operand_36 : decode cX4_operand 36 = .ok (.sipush 10000, 3) := by decide +kernel
theorem dX4_operand_39 : decode cX4_operand 39 = .ok (.iload_n 2, 1) := by decide +kernel
theorem dX4_operand_40 : decode cX4_operand 40 = .ok (.iadd, 1) := by decide +kernel
theorem dX4_operand_41 : decode cX4_operand 41 = .ok (.invokevirtual 56, 3) := by decide +kernel
theorem dX4_operand_44 : decode cX4_operand 44 = .ok (.iconst 1, 1) := by decide +kernel
theorem dX4_operand_45 : decode cX4_operand 45 = .ok (.ireturn, 1) := by decide +kernel
theorem dX4_operand_46 : decode cX4_operand 46 = .ok (.iload_n 2, 1) := by decide +kernel
theorem dX4_operand_47 : decode cX4_operand 47 = .ok (.bipush 40, 2) := by decide +kernel
theorem dX4_operand_49 : decode cX4_operand 49 = .ok (.if_icmp .eq 15, 3) := by decide +kernel
theorem dX4_operand_52 : decode cX4_operand 52 = .ok (.iload_n 2, 1) := by decide +kernel
theorem dX4_operand_53 : decode cX4_operand 53 = .ok (.bipush 33, 2) := by decide +kernel
theorem dX4_operand_55 : decode cX4_operand 55 = .ok (.if_icmp .eq 9, 3) := by decide +kernel
theorem dX4_operand_58 : decode cX4_operand 58 = .ok (.iload_n 2, 1) := by decide +kernel
theorem dX4_operand_59 : decode cX4_operand 59 = .ok (.bipush 45, 2) := by decide +kernel
theorem dX4_operand_61 : decode cX4_operand 61 = .ok (.if_icmp .ne 9, 3) := by decide +kernel
theorem dX4_operand_64 : decode cX4_operand 64 = .ok (.iload_n 1, 1) := by decide +kernel
theorem dX4_operand_65 : decode cX4_operand 65 = .ok (.bipush 6, 2) := by decide +kernel
theorem dX4_operand_67 : decode cX4_operand 67 = .ok (.if_icmp .lt 5, 3) := by decide +kernel
theorem dX4_operand_70 : decode cX4_operand 70 = .ok (.iconst 0, 1) := by decide +kernel
theorem dX4_operand_71 : decode cX4_operand 71 = .ok (.ireturn, 1) := by decide +kernel
theorem dX4_operand_72 : decode cX4_operand 72 = .ok (.aload_n 0, 1) := by decide +kernel
theorem dX4_operand_73 : decode cX4_operand 73 = .ok (.dup, 1) := by decide +kernel
theorem dX4_operand_74 : decode cX4_operand 74 = .ok (.getfield 29, 3) := by decide +kernel
theorem dX4_operand_77 : decode cX4_operand 77 = .ok (.iconst 1, 1) := by decide +kernel
theorem dX4_operand_78 : decode cX4_operand 78 = .ok (.iadd, 1) := by decide +kernel
theorem dX4_operand_79 : decode cX4_operand 79 = .ok (.putfield 29, 3) := by decide +kernel
theorem dX4_operand_82 : decode cX4_operand 82 = .ok (.iload_n 2, 1) := by decide +kernel
theorem dX4_operand_83 : decode cX4_operand 83 = .ok (.bipush 40, 2) := by decide +kernel
theorem dX4_operand_85 : decode cX4_operand 85 = .ok (.if_icmp .ne 13, 3) := by decide +kernel
theorem dX4_operand_88 : decode cX4_operand 88 = .ok (.aload_n 0, 1) := by decide +kernel
theorem dX4_operand_89 : decode cX4_operand 89 = .ok (.iload_n 1, 1) := by decide +kernel
theorem dX4_operand_90 : decode cX4_operand 90 = .ok (.iconst 1, 1) := by decide +kernel
theorem dX4_operand_91 : decode cX4_operand 91 = .ok (.iadd, 1) := by decide +kernel
theorem dX4_operand_92 : decode cX4_operand 92 = .ok (.invokevirtual 77, 3) := by decide +kernel
theorem dX4_operand_95 : decode cX4_operand 95 = .ok (.goto 11, 3) := by decide +kernel
theorem dX4_operand_98 : decode cX4_operand 98 = .ok (.aload_n 0, 1) := by decide +kernel
theorem dX4_operand_99 : decode cX4_operand 99 = .ok (.iload_n 2, 1) := by decide +kernel
theorem dX4_operand_100 : decode cX4_operand 100 = .ok (.iload_n 1, 1) := by decide +kernel
theorem dX4_operand_101 : decode cX4_operand 101 = .ok (.iconst 1, 1) := by decide +kernel
theorem dX4_operand_102 : decode cX4_operand 102 = .ok (.iadd, 1) := by decide +kernel
theorem dX4_operand_103 : decode cX4_operand 103 = .ok (.invokevirtual 80, 3) := by decide +kernel
theorem dX4_operand_106 : decode cX4_operand 106 = .ok (.ireturn, 1) := by decide +kernel
theorem dX4_bracketed_0 : decode cX4_bracketed 0 = .ok (.aload_n 0, 1) := by decide +kernel
theorem dX4_bracketed_1 : decode cX4_bracketed 1 = .ok (.iconst 0, 1) := by decide +kernel
theorem dX4_bracketed_2 : decode cX4_bracketed 2 = .ok (.iload_n 1, 1) := by decide +kernel
theorem dX4_bracketed_3 : decode cX4_bracketed 3 = .ok (.invokevirtual 52, 3) := by decide +kernel
theorem dX4_bracketed_6 : decode cX4_bracketed 6 = .ok (.ifCond .eq 12, 3) := by decide +kernel
theorem dX4_bracketed_9 : decode cX4_bracketed 9 = .ok (.aload_n 0, 1) := by decide +kernel
theorem dX4_bracketed_10 : decode cX4_bracketed 10 = .ok (.invokevirtual 48, 3) := by decide +kernel
theorem dX4_bracketed_13 : decode cX4_bracketed 13 = .ok (.bipush 41, 2) := by decide +kernel
theorem dX4_bracketed_15 : decode cX4_bracketed 15 = .ok (.if_icmp .eq 5, 3) := by decide +kernel
theorem dX4_bracketed_18 : decode cX4_bracketed 18 = .ok (.iconst 0, 1) := by decide +kernel
theorem dX4_bracketed_19 : decode cX4_bracketed 19 = .ok (.ireturn, 1) := by decide +kernel
theorem dX4_bracketed_20 : decode cX4_bracketed 20 = .ok (.aload_n 0, 1) := by decide +kernel
theorem dX4_bracketed_21 : decode cX4_bracketed 21 = .ok (.dup, 1) := by decide +kernel
theorem dX4_bracketed_22 : decode cX4_bracketed 22 = .ok (.getfield 29, 3) := by decide +kernel
theorem dX4_bracketed_25 : decode cX4_bracketed 25 = .ok (.iconst 1, 1) := by decide +kernel
theorem dX4_bracketed_26 : decode cX4_bracketed 26 = .ok (.iadd, 1) := by decide +kernel
theorem dX4_bracketed_27 : decode cX4_bracketed 27 = .ok (.putfield 29, 3) := by decide +kernel
theorem dX4_bracketed_30 : decode cX4_bracketed 30 = .ok (.iconst 1, 1) := by decide +kernel
theorem dX4_bracketed_31 : decode cX4_bracketed 31 = .ok (.ireturn, 1) := by decide +kernel
theorem dX4_prefixed_0 : decode cX4_prefixed 0 = .ok (.aload_n 0, 1) := by decide +kernel
theorem dX4_prefixed_1 : decode cX4_prefixed 1 = .ok (.iload_n 2, 1) := by decide +kernel
theorem dX4_prefixed_2 : decode cX4_prefixed 2 = .ok (.invokevirtual 60, 3) := by decide +kernel
theorem dX4_prefixed_5 : decode cX4_prefixed 5 = .ok (.ifCond .ne 5, 3) := by decide +kernel
theorem dX4_prefixed_8 : decode cX4_prefixed 8 = .ok (.iconst 0, 1) := by decide +kernel
theorem dX4_prefixed_9 : decode cX4_prefixed 9 = .ok (.ireturn, 1) := by decide +kernel
theorem dX4_prefixed_10 : decode cX4_prefixed 10 = .ok (.aload_n 0, 1) := by decide +kernel
theorem dX4_prefixed_11 : decode cX4_prefixed 11 = .ok (.sipush 10000, 3) := by decide +kernel
theorem dX4_prefixed_14 : decode cX4_prefixed 14 = .ok (.iload_n 1, 1) := by decide +kernel
theorem dX4_prefixed_15 : decode cX4_prefixed 15 = .ok (.bipush 45, 2) := by decide +kernel
theorem dX4_prefixed_17 : decode cX4_prefixed 17 = .ok (.if_icmp .ne 8, 3) := by decide +kernel
theorem dX4_prefixed_20 : decode cX4_prefixed 20 = .ok (.bipush 126, 2) := by decide +kernel
theorem dX4_prefixed_22 : decode cX4_prefixed 22 = .ok (.goto 4, 3) := by decide +kernel
theorem dX4_prefixed_25 : decode cX4_prefixed 25 = .ok (.iload_n 1, 1) := by decide +kernel
theorem dX4_prefixed_26 : decode cX4_prefixed 26 = .ok (.iadd, 1) := by decide +kernel
theorem dX4_prefixed_27 : decode cX4_prefixed 27 = .ok (.invokevirtual 56, 3) := by decide +kernel
theorem dX4_prefixed_30 : decode cX4_prefixed 30 = .ok (.iconst 1, 1) := by decide +kernel
theorem dX4_prefixed_31 : decode cX4_prefixed 31 = .ok (.ireturn, 1) := by decide +kernel
theorem dX4_number_0 : decode cX4_number 0 = .ok (.iconst 0, 1) := by decide +kernel
theorem dX4_number_1 : decode cX4_number 1 = .ok (.istore_n 1, 1) := by decide +kernel
theorem dX4_number_2 : decode cX4_number 2 = .ok (.iconst 0, 1) := by decide +kernel
theorem dX4_number_3 : decode cX4_number 3 = .ok (.istore_n 2, 1) := by decide +kernel
theorem dX4_number_4 : decode cX4_number 4 = .ok (.iload_n 2, 1) := by decide +kernel
theorem dX4_number_5 : decode cX4_number 5 = .ok (.iconst 4, 1) := by decide +kernel
theorem dX4_number_6 : decode cX4_number 6 = .ok (.if_icmp .ge 42, 3) := by decide +kernel
theorem dX4_number_9 : decode cX4_number 9 = .ok (.aload_n 0, 1) := by decide +kernel
theorem dX4_number_10 : decode cX4_number 10 = .ok (.invokevirtual 48, 3) := by decide +kernel
theorem dX4_number_13 : decode cX4_number 13 = .ok (.invokestatic 68, 3) := by decide +kernel
theorem dX4_number_16 : decode cX4_number 16 = .ok (.ifCond .eq 32, 3) := by decide +kernel
theorem dX4_number_19 : decode cX4_number 19 = .ok (.iload_n 1, 1) := by decide +kernel
theorem dX4_number_20 : decode cX4_number 20 = .ok (.bipush 10, 2) := by decide +kernel
theorem dX4_number_22 : decode cX4_number 22 = .ok (.imul, 1) := by decide +kernel
theorem dX4_number_23 : decode cX4_number 23 = .ok (.aload_n 0, 1) := by decide +kernel
theorem dX4_number_24 : decode cX4_number 24 = .ok (.invokevirtual 48, 3) := by decide +kernel
theorem dX4_number_27 : decode cX4_number 27 = .ok (.iadd, 1) := by decide +kernel
theorem dX4_number_28 : decode cX4_number 28 = .ok (.bipush 48, 2) := by decide +kernel
theorem dX4_number_30 : decode cX4_number 30 = .ok (.isub, 1) := by decide +kernel
theorem dX4_number_31 : decode cX4_number 31 = .ok (.istore_n 1, 1) := by decide +kernel
theorem dX4_number_32 : decode cX4_number 32 = .ok (.aload_n 0, 1) := by decide +kernel
theorem dX4_number_33 : decode cX4_number 33 = .ok (.dup, 1) := by decide +kernel
theorem dX4_number_34 : decode cX4_number 34 = .ok (.getfield 29, 3) := by decide +kernel
theorem dX4_number_37 : decode cX4_number 37 = .ok (.iconst 1, 1) := by decide +kernel
theorem dX4_number_38 : decode cX4_number 38 = .ok (.iadd, 1) := by decide +kernel
theorem dX4_number_39 : decode cX4_number 39 = .ok (.putfield 29, 3) := by decide +kernel
theorem dX4_number_42 : decode cX4_number 42 = .ok (.iinc 2 1, 3) := by decide +kernel
theorem dX4_number_45 : decode cX4_number 45 = .ok (.goto (-41), 3) := by decide +kernel
theorem dX4_number_48 : decode cX4_number 48 = .ok (.aload_n 0, 1) := by decide +kernel
theorem dX4_number_49 : decode cX4_number 49 = .ok (.iload_n 1, 1) := by decide +kernel
theorem dX4_number_50 : decode cX4_number 50 = .ok (.invokevirtual 56, 3) := by decide +kernel
theorem dX4_number_53 : decode cX4_number 53 = .ok (.return_, 1) := by decide +kernel
theorem dX4_isDigit_0 : decode cX4_isDigit 0 = .ok (.iload_n 0, 1) := by decide +kernel
theorem dX4_isDigit_1 : decode cX4_isDigit 1 = .ok (.bipush 48, 2) := by decide +kernel
theorem dX4_isDigit_3 : decode cX4_isDigit 3 = .ok (.if_icmp .lt 13, 3) := by decide +kernel
theorem dX4_isDigit_6 : decode cX4_isDigit 6 = .ok (.iload_n 0, 1) := by decide +kernel
theorem dX4_isDigit_7 : decode cX4_isDigit 7 = .ok (.bipush 57, 2) := by decide +kernel
theorem dX4_isDigit_9 : decode cX4_isDigit 9 = .ok (.if_icmp .gt 7, 3) := by decide +kernel
theorem dX4_isDigit_12 : decode cX4_isDigit 12 = .ok (.iconst 1, 1) := by decide +kernel
theorem dX4_isDigit_13 : decode cX4_isDigit 13 = .ok (.goto 4, 3) := by decide +kernel
theorem dX4_isDigit_16 : decode cX4_isDigit 16 = .ok (.iconst 0, 1) := by decide +kernel
theorem dX4_isDigit_17 : decode cX4_isDigit 17 = .ok (.ireturn, 1) := by decide +kernel
theorem dX4_isName_0 : decode cX4_isName 0 = .ok (.iload_n 0, 1) := by decide +kernel
theorem dX4_isName_1 : decode cX4_isName 1 = .ok (.bipush 110, 2) := by decide +kernel
theorem dX4_isName_3 : decode cX4_isName 3 = .ok (.if_icmp .eq 33, 3) := by decide +kernel
theorem dX4_isName_6 : decode cX4_isName 6 = .ok (.iload_n 0, 1) := by decide +kernel
theorem dX4_isName_7 : decode cX4_isName 7 = .ok (.bipush 115, 2) := by decide +kernel
theorem dX4_isName_9 : decode cX4_isName 9 = .ok (.if_icmp .eq 27, 3) := by decide +kernel
theorem dX4_isName_12 : decode cX4_isName 12 = .ok (.iload_n 0, 1) := by decide +kernel
theorem dX4_isName_13 : decode cX4_isName 13 = .ok (.bipush 107, 2) := by decide +kernel
theorem dX4_isName_15 : decode cX4_isName 15 = .ok (.if_icmp .eq 21, 3) := by decide +kernel
theorem dX4_isName_18 : decode cX4_isName 18 = .ok (.iload_n 0, 1) := by decide +kernel
theorem dX4_isName_19 : decode cX4_isName 19 = .ok (.bipush 108, 2) := by decide +kernel
theorem dX4_isName_21 : decode cX4_isName 21 = .ok (.if_icmp .eq 15, 3) := by decide +kernel
theorem dX4_isName_24 : decode cX4_isName 24 = .ok (.iload_n 0, 1) := by decide +kernel
theorem dX4_isName_25 : decode cX4_isName 25 = .ok (.bipush 119, 2) := by decide +kernel
theorem dX4_isName_27 : decode cX4_isName 27 = .ok (.if_icmp .eq 9, 3) := by decide +kernel
theorem dX4_isName_30 : decode cX4_isName 30 = .ok (.iload_n 0, 1) := by decide +kernel
theorem dX4_isName_31 : decode cX4_isName 31 = .ok (.bipush 109, 2) := by decide +kernel
theorem dX4_isName_33 : decode cX4_isName 33 = .ok (.if_icmp .ne 7, 3) := by decide +kernel
theorem dX4_isName_36 : decode cX4_isName 36 = .ok (.iconst 1, 1) := by decide +kernel
theorem dX4_isName_37 : decode cX4_isName 37 = .ok (.goto 4, 3) := by decide +kernel
theorem dX4_isName_40 : decode cX4_isName 40 = .ok (.iconst 0, 1) := by decide +kernel
theorem dX4_isName_41 : decode cX4_isName 41 = .ok (.ireturn, 1) := by decide +kernel
theorem dX4_next_0 : decode cX4_next 0 = .ok (.aload_n 0, 1) := by decide +kernel
theorem dX4_next_1 : decode cX4_next 1 = .ok (.getfield 29, 3) := by decide +kernel
theorem dX4_next_4 : decode cX4_next 4 = .ok (.aload_n 0, 1) := by decide +kernel
theorem dX4_next_5 : decode cX4_next 5 = .ok (.getfield 26, 3) := by decide +kernel
theorem dX4_next_8 : decode cX4_next 8 = .ok (.if_icmp .ge 24, 3) := by decide +kernel
theorem dX4_next_11 : decode cX4_next 11 = .ok (.aload_n 0, 1) := by decide +kernel
theorem dX4_next_12 : decode cX4_next 12 = .ok (.getfield 29, 3) := by decide +kernel
theorem dX4_next_15 : decode cX4_next 15 = .ok (.bipush 120, 2) := by decide +kernel
theorem dX4_next_17 : decode cX4_next 17 = .ok (.if_icmp .ge 15, 3) := by decide +kernel
theorem dX4_next_20 : decode cX4_next 20 = .ok (.aload_n 0, 1) := by decide +kernel
theorem dX4_next_21 : decode cX4_next 21 = .ok (.getfield 9, 3) := by decide +kernel
theorem dX4_next_24 : decode cX4_next 24 = .ok (.aload_n 0, 1) := by decide +kernel
theorem dX4_next_25 : decode cX4_next 25 = .ok (.getfield 29, 3) := by decide +kernel
theorem dX4_next_28 : decode cX4_next 28 = .ok (.iaload, 1) := by decide +kernel
theorem dX4_next_29 : decode cX4_next 29 = .ok (.goto 4, 3) := by decide +kernel
theorem dX4_next_32 : decode cX4_next 32 = .ok (.iconst (-1), 1) := by decide +kernel
theorem dX4_next_33 : decode cX4_next 33 = .ok (.ireturn, 1) := by decide +kernel
theorem dX4_emit_0 : decode cX4_emit 0 = .ok (.aload_n 0, 1) := by decide +kernel
theorem dX4_emit_1 : decode cX4_emit 1 = .ok (.getfield 32, 3) := by decide +kernel
theorem dX4_emit_4 : decode cX4_emit 4 = .ok (.aload_n 0, 1) := by decide +kernel
theorem dX4_emit_5 : decode cX4_emit 5 = .ok (.getfield 13, 3) := by decide +kernel
theorem dX4_emit_8 : decode cX4_emit 8 = .ok (.arraylength, 1) := by decide +kernel
theorem dX4_emit_9 : decode cX4_emit 9 = .ok (.if_icmp .ge 23, 3) := by decide +kernel
theorem dX4_emit_12 : decode cX4_emit 12 = .ok (.aload_n 0, 1) := by decide +kernel
theorem dX4_emit_13 : decode cX4_emit 13 = .ok (.getfield 13, 3) := by decide +kernel
theorem dX4_emit_16 : decode cX4_emit 16 = .ok (.aload_n 0, 1) := by decide +kernel
theorem dX4_emit_17 : decode cX4_emit 17 = .ok (.getfield 32, 3) := by decide +kernel
theorem dX4_emit_20 : decode cX4_emit 20 = .ok (.iload_n 1, 1) := by decide +kernel
theorem dX4_emit_21 : decode cX4_emit 21 = .ok (.iastore, 1) := by decide +kernel
theorem dX4_emit_22 : decode cX4_emit 22 = .ok (.aload_n 0, 1) := by decide +kernel
theorem dX4_emit_23 : decode cX4_emit 23 = .ok (.dup, 1) := by decide +kernel
theorem dX4_emit_24 : decode cX4_emit 24 = .ok (.getfield 32, 3) := by decide +kernel
theorem dX4_emit_27 : decode cX4_emit 27 = .ok (.iconst 1, 1) := by decide +kernel
theorem dX4_emit_28 : decode cX4_emit 28 = .ok (.iadd, 1) := by decide +kernel
theorem dX4_emit_29 : decode cX4_emit 29 = .ok (.putfield 32, 3) := by decide +kernel
theorem dX4_emit_32 : decode cX4_emit 32 = .ok (.return_, 1) := by decide +kernel
theorem dX4_namesLead_0 : decode cX4_namesLead 0 = .ok (.iconst 0, 1) := by decide +kernel
theorem dX4_namesLead_1 : decode cX4_namesLead 1 = .ok (.istore_n 1, 1) := by decide +kernel
theorem dX4_namesLead_2 : decode cX4_namesLead 2 = .ok (.iload_n 1, 1) := by decide +kernel
theorem dX4_namesLead_3 : decode cX4_namesLead 3 = .ok (.aload_n 0, 1) := by decide +kernel
theorem dX4_namesLead_4 : decode cX4_namesLead 4 = .ok (.getfield 22, 3) := by decide +kernel
theorem dX4_namesLead_7 : decode cX4_namesLead 7 = .ok (.if_icmp .ge 23, 3) := by decide +kernel
theorem dX4_namesLead_10 : decode cX4_namesLead 10 = .ok (.aload_n 0, 1) := by decide +kernel
theorem dX4_namesLead_11 : decode cX4_namesLead 11 = .ok (.getfield 16, 3) := by decide +kernel
theorem dX4_namesLead_14 : decode cX4_namesLead 14 = .ok (.iload_n 1, 1) := by decide +kernel
theorem dX4_namesLead_15 : decode cX4_namesLead 15 = .ok (.iaload, 1) := by decide +kernel
theorem dX4_namesLead_16 : decode cX4_namesLead 16 = .ok (.sipush 10108, 3) := by decide +kernel
theorem dX4_namesLead_19 : decode cX4_namesLead 19 = .ok (.if_icmp .ne 5, 3) := by decide +kernel
theorem dX4_namesLead_22 : decode cX4_namesLead 22 = .ok (.iconst 1, 1) := by decide +kernel
theorem dX4_namesLead_23 : decode cX4_namesLead 23 = .ok (.ireturn, 1) := by decide +kernel
theorem dX4_namesLead_24 : decode cX4_namesLead 24 = .ok (.iinc 1 1, 3) := by decide +kernel
theorem dX4_namesLead_27 : decode cX4_namesLead 27 = .ok (.goto (-25), 3) := by decide +kernel
theorem dX4_namesLead_30 : decode cX4_namesLead 30 = .ok (.iconst 0, 1) := by decide +kernel
theorem dX4_namesLead_31 : decode cX4_namesLead 31 = .ok (.ireturn, 1) := by decide +kernel
theorem dX4_gives_0 : decode cX4_gives 0 = .ok (.iload_n 1, 1) := by decide +kernel
theorem dX4_gives_1 : decode cX4_gives 1 = .ok (.invokestatic 83, 3) := by decide +kernel
theorem dX4_gives_4 : decode cX4_gives 4 = .ok (.istore 6, 2) := by decide +kernel
theorem dX4_gives_6 : decode cX4_gives 6 = .ok (.aload_n 0, 1) := by decide +kernel
theorem dX4_gives_7 : decode cX4_gives 7 = .ok (.iconst 0, 1) := by decide +kernel
theorem dX4_gives_8 : decode cX4_gives 8 = .ok (.putfield 88, 3) := by decide +kernel
theorem dX4_gives_11 : decode cX4_gives 11 = .ok (.iconst 0, 1) := by decide +kernel
theorem dX4_gives_12 : decode cX4_gives 12 = .ok (.istore 7, 2) := by decide +kernel
theorem dX4_gives_14 : decode cX4_gives 14 = .ok (.iload 7, 2) := by decide +kernel
theorem dX4_gives_16 : decode cX4_gives 16 = .ok (.aload_n 0, 1) := by decide +kernel
theorem dX4_gives_17 : decode cX4_gives 17 = .ok (.getfield 22, 3) := by decide +kernel
theorem dX4_gives_20 : decode cX4_gives 20 = .ok (.if_icmp .ge 163, 3) := by decide +kernel
theorem dX4_gives_23 : decode cX4_gives 23 = .ok (.aload_n 0, 1) := by decide +kernel
theorem dX4_gives_24 : decode cX4_gives 24 = .ok (.getfield 16, 3) := by decide +kernel
theorem dX4_gives_27 : decode cX4_gives 27 = .ok (.iload 7, 2) := by decide +kernel
theorem dX4_gives_29 : decode cX4_gives 29 = .ok (.iaload, 1) := by decide +kernel
theorem dX4_gives_30 : decode cX4_gives 30 = .ok (.sipush 10000, 3) := by decide +kernel
theorem dX4_gives_33 : decode cX4_gives 33 = .ok (.isub, 1) := by decide +kernel
theorem dX4_gives_34 : decode cX4_gives 34 = .ok (.istore 8, 2) := by decide +kernel
theorem dX4_gives_36 : decode cX4_gives 36 = .ok (.iload 8, 2) := by decide +kernel
theorem dX4_gives_38 : decode cX4_gives 38 = .ok (.bipush 59, 2) := by decide +kernel
theorem dX4_gives_40 : decode cX4_gives 40 = .ok (.if_icmp .ne 8, 3) := by decide +kernel
theorem dX4_gives_43 : decode cX4_gives 43 = .ok (.aload_n 0, 1) := by decide +kernel
theorem dX4_gives_44 : decode cX4_gives 44 = .ok (.invokevirtual 91, 3) := by decide +kernel
theorem dX4_gives_47 : decode cX4_gives 47 = .ok (.ireturn, 1) := by decide +kernel
theorem dX4_gives_48 : decode cX4_gives 48 = .ok (.iload 8, 2) := by decide +kernel
theorem dX4_gives_50 : decode cX4_gives 50 = .ok (.bipush 63, 2) := by decide +kernel
theorem dX4_gives_52 : decode cX4_gives 52 = .ok (.if_icmp .ne 26, 3) := by decide +kernel
theorem dX4_gives_55 : decode cX4_gives 55 = .ok (.aload_n 0, 1) := by decide +kernel
theorem dX4_gives_56 : decode cX4_gives 56 = .ok (.invokevirtual 91, 3) := by decide +kernel
theorem dX4_gives_59 : decode cX4_gives 59 = .ok (.ifCond .ne 12, 3) := by decide +kernel
theorem dX4_gives_62 : decode cX4_gives 62 = .ok (.aload_n 0, 1) := by decide +kernel
theorem dX4_gives_63 : decode cX4_gives 63 = .ok (.iload 7, 2) := by decide +kernel
theorem dX4_gives_65 : decode cX4_gives 65 = .ok (.invokevirtual 94, 3) := by decide +kernel
theorem dX4_gives_68 : decode cX4_gives 68 = .ok (.goto 5, 3) := by decide +kernel
theorem dX4_gives_71 : decode cX4_gives 71 = .ok (.iload 7, 2) := by decide +kernel
theorem dX4_gives_73 : decode cX4_gives 73 = .ok (.istore 7, 2) := by decide +kernel
theorem dX4_gives_75 : decode cX4_gives 75 = .ok (.goto 102, 3) := by decide +kernel
theorem dX4_gives_78 : decode cX4_gives 78 = .ok (.iload 8, 2) := by decide +kernel
theorem dX4_gives_80 : decode cX4_gives 80 = .ok (.ifCond .ge 17, 3) := by decide +kernel
theorem dX4_gives_83 : decode cX4_gives 83 = .ok (.aload_n 0, 1) := by decide +kernel
theorem dX4_gives_84 : decode cX4_gives 84 = .ok (.aload_n 0, 1) := by decide +kernel
theorem dX4_gives_85 : decode cX4_gives 85 = .ok (.getfield 16, 3) := by decide +kernel
theorem dX4_gives_88 : decode cX4_gives 88 = .ok (.iload 7, 2) := by decide +kernel
theorem dX4_gives_90 : decode cX4_gives 90 = .ok (.iaload, 1) := by decide +kernel
theorem dX4_gives_91 : decode cX4_gives 91 = .ok (.invokevirtual 97, 3) := by decide +kernel
theorem dX4_gives_94 : decode cX4_gives 94 = .ok (.goto 83, 3) := by decide +kernel
theorem dX4_gives_97 : decode cX4_gives 97 = .ok (.iload 8, 2) := by decide +kernel
theorem dX4_gives_99 : decode cX4_gives 99 = .ok (.invokestatic 74, 3) := by decide +kernel
theorem dX4_gives_102 : decode cX4_gives 102 = .ok (.ifCond .eq 24, 3) := by decide +kernel
theorem dX4_gives_105 : decode cX4_gives 105 = .ok (.aload_n 0, 1) := by decide +kernel
theorem dX4_gives_106 : decode cX4_gives 106 = .ok (.iload 8, 2) := by decide +kernel
theorem dX4_gives_108 : decode cX4_gives 108 = .ok (.iload 6, 2) := by decide +kernel
theorem dX4_gives_110 : decode cX4_gives 110 = .ok (.iload_n 1, 1) := by decide +kernel
theorem dX4_gives_111 : decode cX4_gives 111 = .ok (.iload_n 2, 1) := by decide +kernel
theorem dX4_gives_112 : decode cX4_gives 112 = .ok (.iload_n 3, 1) := by decide +kernel
theorem dX4_gives_113 : decode cX4_gives 113 = .ok (.iload 4, 2) := by decide +kernel
theorem dX4_gives_115 : decode cX4_gives 115 = .ok (.iload 5, 2) := by decide +kernel
theorem dX4_gives_117 : decode cX4_gives 117 = .ok (.invokestatic 100, 3) := by decide +kernel
theorem dX4_gives_120 : decode cX4_gives 120 = .ok (.invokevirtual 97, 3) := by decide +kernel
theorem dX4_gives_123 : decode cX4_gives 123 = .ok (.goto 54, 3) := by decide +kernel
theorem dX4_gives_126 : decode cX4_gives 126 = .ok (.iload 8, 2) := by decide +kernel
theorem dX4_gives_128 : decode cX4_gives 128 = .ok (.bipush 33, 2) := by decide +kernel
theorem dX4_gives_130 : decode cX4_gives 130 = .ok (.if_icmp .eq 10, 3) := by decide +kernel
theorem dX4_gives_133 : decode cX4_gives 133 = .ok (.iload 8, 2) := by decide +kernel
theorem dX4_gives_135 : decode cX4_gives 135 = .ok (.bipush 126, 2) := by decide +kernel
theorem dX4_gives_137 : decode cX4_gives 137 = .ok (.if_icmp .ne 19, 3) := by decide +kernel
theorem dX4_gives_140 : decode cX4_gives 140 = .ok (.aload_n 0, 1) := by decide +kernel
theorem dX4_gives_141 : decode cX4_gives 141 = .ok (.iload 8, 2) := by decide +kernel
theorem dX4_gives_143 : decode cX4_gives 143 = .ok (.aload_n 0, 1) := by decide +kernel
theorem dX4_gives_144 : decode cX4_gives 144 = .ok (.invokevirtual 91, 3) := by decide +kernel
theorem dX4_gives_147 : decode cX4_gives 147 = .ok (.invokestatic 104, 3) := by decide +kernel
theorem dX4_gives_150 : decode cX4_gives 150 = .ok (.invokevirtual 97, 3) := by decide +kernel
theorem dX4_gives_153 : decode cX4_gives 153 = .ok (.goto 24, 3) := by decide +kernel
theorem dX4_gives_156 : decode cX4_gives 156 = .ok (.aload_n 0, 1) := by decide +kernel
theorem dX4_gives_157 : decode cX4_gives 157 = .ok (.invokevirtual 91, 3) := by decide +kernel
theorem dX4_gives_160 : decode cX4_gives 160 = .ok (.istore 9, 2) := by decide +kernel
theorem dX4_gives_162 : decode cX4_gives 162 = .ok (.aload_n 0, 1) := by decide +kernel
theorem dX4_gives_163 : decode cX4_gives 163 = .ok (.iload 8, 2) := by decide +kernel
theorem dX4_gives_165 : decode cX4_gives 165 = .ok (.aload_n 0, 1) := by decide +kernel
theorem dX4_gives_166 : decode cX4_gives 166 = .ok (.invokevirtual 91, 3) := by decide +kernel
theorem dX4_gives_169 : decode cX4_gives 169 = .ok (.iload 9, 2) := by decide +kernel
theorem dX4_gives_171 : decode cX4_gives 171 = .ok (.invokestatic 108, 3) := by decide +kernel
theorem dX4_gives_174 : decode cX4_gives 174 = .ok (.invokevirtual 97, 3) := by decide +kernel
theorem dX4_gives_177 : decode cX4_gives 177 = .ok (.iinc 7 1, 3) := by decide +kernel
theorem dX4_gives_180 : decode cX4_gives 180 = .ok (.goto (-166), 3) := by decide +kernel
theorem dX4_gives_183 : decode cX4_gives 183 = .ok (.iconst 0, 1) := by decide +kernel
theorem dX4_gives_184 : decode cX4_gives 184 = .ok (.ireturn, 1) := by decide +kernel
theorem dX4_endOfLine_0 : decode cX4_endOfLine 0 = .ok (.iload_n 1, 1) := by decide +kernel
theorem dX4_endOfLine_1 : decode cX4_endOfLine 1 = .ok (.istore_n 2, 1) := by decide +kernel
theorem dX4_endOfLine_2 : decode cX4_endOfLine 2 = .ok (.iload_n 2, 1) := by decide +kernel
theorem dX4_endOfLine_3 : decode cX4_endOfLine 3 = .ok (.aload_n 0, 1) := by decide +kernel
theorem dX4_endOfLine_4 : decode cX4_endOfLine 4 = .ok (.getfield 22, 3) := by decide +kernel
theorem dX4_endOfLine_7 : decode cX4_endOfLine 7 = .ok (.if_icmp .ge 23, 3) := by decide +kernel
theorem dX4_endOfLine_10 : decode cX4_endOfLine 10 = .ok (.aload_n 0, 1) := by decide +kernel
theorem dX4_endOfLine_11 : decode cX4_endOfLine 11 = .ok (.getfield 16, 3) := by decide +kernel
theorem dX4_endOfLine_14 : decode cX4_endOfLine 14 = .ok (.iload_n 2, 1) := by decide +kernel
theorem dX4_endOfLine_15 : decode cX4_endOfLine 15 = .ok (.iaload, 1) := by decide +kernel
theorem dX4_endOfLine_16 : decode cX4_endOfLine 16 = .ok (.sipush 10059, 3) := by decide +kernel
theorem dX4_endOfLine_19 : decode cX4_endOfLine 19 = .ok (.if_icmp .ne 5, 3) := by decide +kernel
theorem dX4_endOfLine_22 : decode cX4_endOfLine 22 = .ok (.iload_n 2, 1) := by decide +kernel
theorem dX4_endOfLine_23 : decode cX4_endOfLine 23 = .ok (.ireturn, 1) := by decide +kernel
theorem dX4_endOfLine_24 : decode cX4_endOfLine 24 = .ok (.iinc 2 1, 3) := by decide +kernel
theorem dX4_endOfLine_27 : decode cX4_endOfLine 27 = .ok (.goto (-25), 3) := by decide +kernel
theorem dX4_endOfLine_30 : decode cX4_endOfLine 30 = .ok (.aload_n 0, 1) := by decide +kernel
theorem dX4_endOfLine_31 : decode cX4_endOfLine 31 = .ok (.getfield 22, 3) := by decide +kernel
theorem dX4_endOfLine_34 : decode cX4_endOfLine 34 = .ok (.ireturn, 1) := by decide +kernel
theorem dX4_named_0 : decode cX4_named 0 = .ok (.iload_n 0, 1) := by decide +kernel
theorem dX4_named_1 : decode cX4_named 1 = .ok (.tableswitch 80 107 119 #[69, 71, 77, 80, 80, 80, 80, 80, 67, 80, 80, 80, 74], 67) := by decide +kernel
theorem dX4_named_68 : decode cX4_named 68 = .ok (.iload_n 2, 1) := by decide +kernel
theorem dX4_named_69 : decode cX4_named 69 = .ok (.ireturn, 1) := by decide +kernel
theorem dX4_named_70 : decode cX4_named 70 = .ok (.iload_n 3, 1) := by decide +kernel
theorem dX4_named_71 : decode cX4_named 71 = .ok (.ireturn, 1) := by decide +kernel
theorem dX4_named_72 : decode cX4_named 72 = .ok (.iload 4, 2) := by decide +kernel
theorem dX4_named_74 : decode cX4_named 74 = .ok (.ireturn, 1) := by decide +kernel
theorem dX4_named_75 : decode cX4_named 75 = .ok (.iload 5, 2) := by decide +kernel
theorem dX4_named_77 : decode cX4_named 77 = .ok (.ireturn, 1) := by decide +kernel
theorem dX4_named_78 : decode cX4_named 78 = .ok (.iload 6, 2) := by decide +kernel
theorem dX4_named_80 : decode cX4_named 80 = .ok (.ireturn, 1) := by decide +kernel
theorem dX4_named_81 : decode cX4_named 81 = .ok (.iload_n 1, 1) := by decide +kernel
theorem dX4_named_82 : decode cX4_named 82 = .ok (.ireturn, 1) := by decide +kernel
theorem dX4_prefixing_0 : decode cX4_prefixing 0 = .ok (.iload_n 0, 1) := by decide +kernel
theorem dX4_prefixing_1 : decode cX4_prefixing 1 = .ok (.bipush 126, 2) := by decide +kernel
theorem dX4_prefixing_3 : decode cX4_prefixing 3 = .ok (.if_icmp .ne 6, 3) := by decide +kernel
theorem dX4_prefixing_6 : decode cX4_prefixing 6 = .ok (.iload_n 1, 1) := by decide +kernel
theorem dX4_prefixing_7 : decode cX4_prefixing 7 = .ok (.ineg, 1) := by decide +kernel
theorem dX4_prefixing_8 : decode cX4_prefixing 8 = .ok (.ireturn, 1) := by decide +kernel
theorem dX4_prefixing_9 : decode cX4_prefixing 9 = .ok (.iload_n 1, 1) := by decide +kernel
theorem dX4_prefixing_10 : decode cX4_prefixing 10 = .ok (.ifCond .ne 7, 3) := by decide +kernel
theorem dX4_prefixing_13 : decode cX4_prefixing 13 = .ok (.iconst 1, 1) := by decide +kernel
theorem dX4_prefixing_14 : decode cX4_prefixing 14 = .ok (.goto 4, 3) := by decide +kernel
theorem dX4_prefixing_17 : decode cX4_prefixing 17 = .ok (.iconst 0, 1) := by decide +kernel
theorem dX4_prefixing_18 : decode cX4_prefixing 18 = .ok (.ireturn, 1) := by decide +kernel
theorem dX4_joining_0 : decode cX4_joining 0 = .ok (.iload_n 0, 1) := by decide +kernel
theorem dX4_joining_1 : decode cX4_joining 1 = .ok (.lookupswitch 168 #[(38, 97), (42, 152), (43, 144), (45, 148), (47, 156), (60, 111), (61, 122), (62, 133), (124, 83)], 83) := by decide +kernel
theorem dX4_joining_84 : decode cX4_joining 84 = .ok (.iload_n 1, 1) := by decide +kernel
theorem dX4_joining_85 : decode cX4_joining 85 = .ok (.ifCond .ne 7, 3) := by decide +kernel
theorem dX4_joining_88 : decode cX4_joining 88 = .ok (.iload_n 2, 1) := by decide +kernel
theorem dX4_joining_89 : decode cX4_joining 89 = .ok (.ifCond .eq 7, 3) := by decide +kernel
theorem dX4_joining_92 : decode cX4_joining 92 = .ok (.iconst 1, 1) := by decide +kernel
theorem dX4_joining_93 : decode cX4_joining 93 = .ok (.goto 4, 3) := by decide +kernel
theorem dX4_joining_96 : decode cX4_joining 96 = .ok (.iconst 0, 1) := by decide +kernel
theorem dX4_joining_97 : decode cX4_joining 97 = .ok (.ireturn, 1) := by decide +kernel
theorem dX4_joining_98 : decode cX4_joining 98 = .ok (.iload_n 1, 1) := by decide +kernel
theorem dX4_joining_99 : decode cX4_joining 99 = .ok (.ifCond .eq 11, 3) := by decide +kernel
theorem dX4_joining_102 : decode cX4_joining 102 = .ok (.iload_n 2, 1) := by decide +kernel
theorem dX4_joining_103 : decode cX4_joining 103 = .ok (.ifCond .eq 7, 3) := by decide +kernel
theorem dX4_joining_106 : decode cX4_joining 106 = .ok (.iconst 1, 1) := by decide +kernel
theorem dX4_joining_107 : decode cX4_joining 107 = .ok (.goto 4, 3) := by decide +kernel
theorem dX4_joining_110 : decode cX4_joining 110 = .ok (.iconst 0, 1) := by decide +kernel
theorem dX4_joining_111 : decode cX4_joining 111 = .ok (.ireturn, 1) := by decide +kernel
theorem dX4_joining_112 : decode cX4_joining 112 = .ok (.iload_n 1, 1) := by decide +kernel
theorem dX4_joining_113 : decode cX4_joining 113 = .ok (.iload_n 2, 1) := by decide +kernel
theorem dX4_joining_114 : decode cX4_joining 114 = .ok (.if_icmp .ge 7, 3) := by decide +kernel
theorem dX4_joining_117 : decode cX4_joining 117 = .ok (.iconst 1, 1) := by decide +kernel
theorem dX4_joining_118 : decode cX4_joining 118 = .ok (.goto 4, 3) := by decide +kernel
theorem dX4_joining_121 : decode cX4_joining 121 = .ok (.iconst 0, 1) := by decide +kernel
theorem dX4_joining_122 : decode cX4_joining 122 = .ok (.ireturn, 1) := by decide +kernel
theorem dX4_joining_123 : decode cX4_joining 123 = .ok (.iload_n 1, 1) := by decide +kernel
theorem dX4_joining_124 : decode cX4_joining 124 = .ok (.iload_n 2, 1) := by decide +kernel
theorem dX4_joining_125 : decode cX4_joining 125 = .ok (.if_icmp .ne 7, 3) := by decide +kernel
theorem dX4_joining_128 : decode cX4_joining 128 = .ok (.iconst 1, 1) := by decide +kernel
theorem dX4_joining_129 : decode cX4_joining 129 = .ok (.goto 4, 3) := by decide +kernel
theorem dX4_joining_132 : decode cX4_joining 132 = .ok (.iconst 0, 1) := by decide +kernel
theorem dX4_joining_133 : decode cX4_joining 133 = .ok (.ireturn, 1) := by decide +kernel
theorem dX4_joining_134 : decode cX4_joining 134 = .ok (.iload_n 1, 1) := by decide +kernel
theorem dX4_joining_135 : decode cX4_joining 135 = .ok (.iload_n 2, 1) := by decide +kernel
theorem dX4_joining_136 : decode cX4_joining 136 = .ok (.if_icmp .le 7, 3) := by decide +kernel
theorem dX4_joining_139 : decode cX4_joining 139 = .ok (.iconst 1, 1) := by decide +kernel
theorem dX4_joining_140 : decode cX4_joining 140 = .ok (.goto 4, 3) := by decide +kernel
theorem dX4_joining_143 : decode cX4_joining 143 = .ok (.iconst 0, 1) := by decide +kernel
theorem dX4_joining_144 : decode cX4_joining 144 = .ok (.ireturn, 1) := by decide +kernel
theorem dX4_joining_145 : decode cX4_joining 145 = .ok (.iload_n 1, 1) := by decide +kernel
theorem dX4_joining_146 : decode cX4_joining 146 = .ok (.iload_n 2, 1) := by decide +kernel
theorem dX4_joining_147 : decode cX4_joining 147 = .ok (.iadd, 1) := by decide +kernel
theorem dX4_joining_148 : decode cX4_joining 148 = .ok (.ireturn, 1) := by decide +kernel
theorem dX4_joining_149 : decode cX4_joining 149 = .ok (.iload_n 1, 1) := by decide +kernel
theorem dX4_joining_150 : decode cX4_joining 150 = .ok (.iload_n 2, 1) := by decide +kernel
theorem dX4_joining_151 : decode cX4_joining 151 = .ok (.isub, 1) := by decide +kernel
theorem dX4_joining_152 : decode cX4_joining 152 = .ok (.ireturn, 1) := by decide +kernel
theorem dX4_joining_153 : decode cX4_joining 153 = .ok (.iload_n 1, 1) := by decide +kernel
theorem dX4_joining_154 : decode cX4_joining 154 = .ok (.iload_n 2, 1) := by decide +kernel
theorem dX4_joining_155 : decode cX4_joining 155 = .ok (.imul, 1) := by decide +kernel
theorem dX4_joining_156 : decode cX4_joining 156 = .ok (.ireturn, 1) := by decide +kernel
theorem dX4_joining_157 : decode cX4_joining 157 = .ok (.iload_n 2, 1) := by decide +kernel
theorem dX4_joining_158 : decode cX4_joining 158 = .ok (.ifCond .ne 7, 3) := by decide +kernel
theorem dX4_joining_161 : decode cX4_joining 161 = .ok (.iconst 0, 1) := by decide +kernel
theorem dX4_joining_162 : decode cX4_joining 162 = .ok (.goto 6, 3) := by decide +kernel
theorem dX4_joining_165 : decode cX4_joining 165 = .ok (.iload_n 1, 1) := by decide +kernel
theorem dX4_joining_166 : decode cX4_joining 166 = .ok (.iload_n 2, 1) := by decide +kernel
theorem dX4_joining_167 : decode cX4_joining 167 = .ok (.idiv, 1) := by decide +kernel
theorem dX4_joining_168 : decode cX4_joining 168 = .ok (.ireturn, 1) := by decide +kernel
theorem dX4_joining_169 : decode cX4_joining 169 = .ok (.iload_n 2, 1) := by decide +kernel
theorem dX4_joining_170 : decode cX4_joining 170 = .ok (.ifCond .ne 7, 3) := by decide +kernel
theorem dX4_joining_173 : decode cX4_joining 173 = .ok (.iconst 0, 1) := by decide +kernel
theorem dX4_joining_174 : decode cX4_joining 174 = .ok (.goto 6, 3) := by decide +kernel
theorem dX4_joining_177 : decode cX4_joining 177 = .ok (.iload_n 1, 1) := by decide +kernel
theorem dX4_joining_178 : decode cX4_joining 178 = .ok (.iload_n 2, 1) := by decide +kernel
theorem dX4_joining_179 : decode cX4_joining 179 = .ok (.irem, 1) := by decide +kernel
theorem dX4_joining_180 : decode cX4_joining 180 = .ok (.ireturn, 1) := by decide +kernel
theorem dX4_push_0 : decode cX4_push 0 = .ok (.aload_n 0, 1) := by decide +kernel
theorem dX4_push_1 : decode cX4_push 1 = .ok (.getfield 88, 3) := by decide +kernel
theorem dX4_push_4 : decode cX4_push 4 = .ok (.aload_n 0, 1) := by decide +kernel
theorem dX4_push_5 : decode cX4_push 5 = .ok (.getfield 19, 3) := by decide +kernel
theorem dX4_push_8 : decode cX4_push 8 = .ok (.arraylength, 1) := by decide +kernel
theorem dX4_push_9 : decode cX4_push 9 = .ok (.if_icmp .ge 23, 3) := by decide +kernel
theorem dX4_push_12 : decode cX4_push 12 = .ok (.aload_n 0, 1) := by decide +kernel
theorem dX4_push_13 : decode cX4_push 13 = .ok (.getfield 19, 3) := by decide +kernel
theorem dX4_push_16 : decode cX4_push 16 = .ok (.aload_n 0, 1) := by decide +kernel
theorem dX4_push_17 : decode cX4_push 17 = .ok (.getfield 88, 3) := by decide +kernel
theorem dX4_push_20 : decode cX4_push 20 = .ok (.iload_n 1, 1) := by decide +kernel
theorem dX4_push_21 : decode cX4_push 21 = .ok (.iastore, 1) := by decide +kernel
theorem dX4_push_22 : decode cX4_push 22 = .ok (.aload_n 0, 1) := by decide +kernel
theorem dX4_push_23 : decode cX4_push 23 = .ok (.dup, 1) := by decide +kernel
theorem dX4_push_24 : decode cX4_push 24 = .ok (.getfield 88, 3) := by decide +kernel
theorem dX4_push_27 : decode cX4_push 27 = .ok (.iconst 1, 1) := by decide +kernel
theorem dX4_push_28 : decode cX4_push 28 = .ok (.iadd, 1) := by decide +kernel
theorem dX4_push_29 : decode cX4_push 29 = .ok (.putfield 88, 3) := by decide +kernel
theorem dX4_push_32 : decode cX4_push 32 = .ok (.return_, 1) := by decide +kernel
theorem dX4_pop_0 : decode cX4_pop 0 = .ok (.aload_n 0, 1) := by decide +kernel
theorem dX4_pop_1 : decode cX4_pop 1 = .ok (.getfield 88, 3) := by decide +kernel
theorem dX4_pop_4 : decode cX4_pop 4 = .ok (.ifCond .gt 5, 3) := by decide +kernel
theorem dX4_pop_7 : decode cX4_pop 7 = .ok (.iconst 0, 1) := by decide +kernel
theorem dX4_pop_8 : decode cX4_pop 8 = .ok (.ireturn, 1) := by decide +kernel
theorem dX4_pop_9 : decode cX4_pop 9 = .ok (.aload_n 0, 1) := by decide +kernel
theorem dX4_pop_10 : decode cX4_pop 10 = .ok (.dup, 1) := by decide +kernel
theorem dX4_pop_11 : decode cX4_pop 11 = .ok (.getfield 88, 3) := by decide +kernel
theorem dX4_pop_14 : decode cX4_pop 14 = .ok (.iconst 1, 1) := by decide +kernel
theorem dX4_pop_15 : decode cX4_pop 15 = .ok (.isub, 1) := by decide +kernel
theorem dX4_pop_16 : decode cX4_pop 16 = .ok (.putfield 88, 3) := by decide +kernel
theorem dX4_pop_19 : decode cX4_pop 19 = .ok (.aload_n 0, 1) := by decide +kernel
theorem dX4_pop_20 : decode cX4_pop 20 = .ok (.getfield 19, 3) := by decide +kernel
theorem dX4_pop_23 : decode cX4_pop 23 = .ok (.aload_n 0, 1) := by decide +kernel
theorem dX4_pop_24 : decode cX4_pop 24 = .ok (.getfield 88, 3) := by decide +kernel
theorem dX4_pop_27 : decode cX4_pop 27 = .ok (.iaload, 1) := by decide +kernel
theorem dX4_pop_28 : decode cX4_pop 28 = .ok (.ireturn, 1) := by decide +kernel
theorem dX5_init_0 : decode cX5_init 0 = .ok (.aload_n 0, 1) := by decide +kernel
theorem dX5_init_1 : decode cX5_init 1 = .ok (.invokespecial 3, 3) := by decide +kernel
theorem dX5_init_4 : decode cX5_init 4 = .ok (.aload_n 0, 1) := by decide +kernel
theorem dX5_init_5 : decode cX5_init 5 = .ok (.sipush 1024, 3) := by decide +kernel
theorem dX5_init_8 : decode cX5_init 8 = .ok (.newarray .int, 2) := by decide +kernel
theorem dX5_init_10 : decode cX5_init 10 = .ok (.putfield 9, 3) := by decide +kernel
theorem dX5_init_13 : decode cX5_init 13 = .ok (.aload_n 0, 1) := by decide +kernel
theorem dX5_init_14 : decode cX5_init 14 = .ok (.bipush 32, 2) := by decide +kernel
theorem dX5_init_16 : decode cX5_init 16 = .ok (.newarray .int, 2) := by decide +kernel
theorem dX5_init_18 : decode cX5_init 18 = .ok (.putfield 15, 3) := by decide +kernel
theorem dX5_init_21 : decode cX5_init 21 = .ok (.aload_n 0, 1) := by decide +kernel
theorem dX5_init_22 : decode cX5_init 22 = .ok (.sipush 3208, 3) := by decide +kernel
theorem dX5_init_25 : decode cX5_init 25 = .ok (.newarray .int, 2) := by decide +kernel
theorem dX5_init_27 : decode cX5_init 27 = .ok (.putfield 18, 3) := by decide +kernel
theorem dX5_init_30 : decode cX5_init 30 = .ok (.aload_n 0, 1) := by decide +kernel
theorem dX5_init_31 : decode cX5_init 31 = .ok (.aload_n 1, 1) := by decide +kernel
theorem dX5_init_32 : decode cX5_init 32 = .ok (.putfield 21, 3) := by decide +kernel
theorem dX5_init_35 : decode cX5_init 35 = .ok (.aload_n 0, 1) := by decide +kernel
theorem dX5_init_36 : decode cX5_init 36 = .ok (.aload_n 2, 1) := by decide +kernel
theorem dX5_init_37 : decode cX5_init 37 = .ok (.putfield 25, 3) := by decide +kernel
theorem dX5_init_40 : decode cX5_init 40 = .ok (.return_, 1) := by decide +kernel
theorem dX5_surePlace_0 : decode cX5_surePlace 0 = .ok (.aload_n 0, 1) := by decide +kernel
theorem dX5_surePlace_1 : decode cX5_surePlace 1 = .ok (.getfield 25, 3) := by decide +kernel
theorem dX5_surePlace_4 : decode cX5_surePlace 4 = .ok (.getfield 29, 3) := by decide +kernel
theorem dX5_surePlace_7 : decode cX5_surePlace 7 = .ok (.ifCond .ne 6, 3) := by decide +kernel
theorem dX5_surePlace_10 : decode cX5_surePlace 10 = .ok (.bipush (-2), 2) := by decide +kernel
theorem dX5_surePlace_12 : decode cX5_surePlace 12 = .ok (.ireturn, 1) := by decide +kernel
theorem dX5_surePlace_13 : decode cX5_surePlace 13 = .ok (.aload_n 0, 1) := by decide +kernel
theorem dX5_surePlace_14 : decode cX5_surePlace 14 = .ok (.getfield 21, 3) := by decide +kernel
theorem dX5_surePlace_17 : decode cX5_surePlace 17 = .ok (.aload_n 0, 1) := by decide +kernel
theorem dX5_surePlace_18 : decode cX5_surePlace 18 = .ok (.getfield 25, 3) := by decide +kernel
theorem dX5_surePlace_21 : decode cX5_surePlace 21 = .ok (.iconst 0, 1) := by decide +kernel
theorem dX5_surePlace_22 : decode cX5_surePlace 22 = .ok (.invokevirtual 35, 3) := by decide +kernel
theorem dX5_surePlace_25 : decode cX5_surePlace 25 = .ok (.iload_n 1, 1) := by decide +kernel
theorem dX5_surePlace_26 : decode cX5_surePlace 26 = .ok (.invokestatic 39, 3) := by decide +kernel
theorem dX5_surePlace_29 : decode cX5_surePlace 29 = .ok (.iload_n 2, 1) := by decide +kernel
theorem dX5_surePlace_30 : decode cX5_surePlace 30 = .ok (.invokevirtual 45, 3) := by decide +kernel
theorem dX5_surePlace_33 : decode cX5_surePlace 33 = .ok (.istore_n 3, 1) := by decide +kernel
theorem dX5_surePlace_34 : decode cX5_surePlace 34 = .ok (.iconst 1, 1) := by decide +kernel
theorem dX5_surePlace_35 : decode cX5_surePlace 35 = .ok (.istore 4, 2) := by decide +kernel
theorem dX5_surePlace_37 : decode cX5_surePlace 37 = .ok (.iload 4, 2) := by decide +kernel
theorem dX5_surePlace_39 : decode cX5_surePlace 39 = .ok (.aload_n 0, 1) := by decide +kernel
theorem dX5_surePlace_40 : decode cX5_surePlace 40 = .ok (.getfield 25, 3) := by decide +kernel
theorem dX5_surePlace_43 : decode cX5_surePlace 43 = .ok (.getfield 29, 3) := by decide +kernel
theorem dX5_surePlace_46 : decode cX5_surePlace 46 = .ok (.if_icmp .ge 37, 3) := by decide +kernel
theorem dX5_surePlace_49 : decode cX5_surePlace 49 = .ok (.aload_n 0, 1) := by decide +kernel
theorem dX5_surePlace_50 : decode cX5_surePlace 50 = .ok (.getfield 21, 3) := by decide +kernel
theorem dX5_surePlace_53 : decode cX5_surePlace 53 = .ok (.aload_n 0, 1) := by decide +kernel
theorem dX5_surePlace_54 : decode cX5_surePlace 54 = .ok (.getfield 25, 3) := by decide +kernel
theorem dX5_surePlace_57 : decode cX5_surePlace 57 = .ok (.iload 4, 2) := by decide +kernel
theorem dX5_surePlace_59 : decode cX5_surePlace 59 = .ok (.invokevirtual 35, 3) := by decide +kernel
theorem dX5_surePlace_62 : decode cX5_surePlace 62 = .ok (.iload_n 1, 1) := by decide +kernel
theorem dX5_surePlace_63 : decode cX5_surePlace 63 = .ok (.invokestatic 39, 3) := by decide +kernel
theorem dX5_surePlace_66 : decode cX5_surePlace 66 = .ok (.iload_n 2, 1) := by decide +kernel
theorem dX5_surePlace_67 : decode cX5_surePlace 67 = .ok (.invokevirtual 45, 3) := by decide +kernel
theorem dX5_surePlace_70 : decode cX5_surePlace 70 = .ok (.iload_n 3, 1) := by decide +kernel
theorem dX5_surePlace_71 : decode cX5_surePlace 71 = .ok (.if_icmp .eq 6, 3) := by decide +kernel
theorem dX5_surePlace_74 : decode cX5_surePlace 74 = .ok (.bipush (-3), 2) := by decide +kernel
theorem dX5_surePlace_76 : decode cX5_surePlace 76 = .ok (.ireturn, 1) := by decide +kernel
theorem dX5_surePlace_77 : decode cX5_surePlace 77 = .ok (.iinc 4 1, 3) := by decide +kernel
theorem dX5_surePlace_80 : decode cX5_surePlace 80 = .ok (.goto (-43), 3) := by decide +kernel
theorem dX5_surePlace_83 : decode cX5_surePlace 83 = .ok (.iload_n 3, 1) := by decide +kernel
theorem dX5_surePlace_84 : decode cX5_surePlace 84 = .ok (.bipush (-2), 2) := by decide +kernel
theorem dX5_surePlace_86 : decode cX5_surePlace 86 = .ok (.if_icmp .ne 8, 3) := by decide +kernel
theorem dX5_surePlace_89 : decode cX5_surePlace 89 = .ok (.bipush (-3), 2) := by decide +kernel
theorem dX5_surePlace_91 : decode cX5_surePlace 91 = .ok (.goto 4, 3) := by decide +kernel
theorem dX5_surePlace_94 : decode cX5_surePlace 94 = .ok (.iload_n 3, 1) := by decide +kernel
theorem dX5_surePlace_95 : decode cX5_surePlace 95 = .ok (.ireturn, 1) := by decide +kernel
theorem dX5_narrowBy_0 : decode cX5_narrowBy 0 = .ok (.aload_n 1, 1) := by decide +kernel
theorem dX5_narrowBy_1 : decode cX5_narrowBy 1 = .ok (.iconst 1, 1) := by decide +kernel
theorem dX5_narrowBy_2 : decode cX5_narrowBy 2 = .ok (.invokevirtual 50, 3) := by decide +kernel
theorem dX5_narrowBy_5 : decode cX5_narrowBy 5 = .ok (.istore_n 2, 1) := by decide +kernel
theorem dX5_narrowBy_6 : decode cX5_narrowBy 6 = .ok (.iload_n 2, 1) := by decide +kernel
theorem dX5_narrowBy_7 : decode cX5_narrowBy 7 = .ok (.ifCond .eq 5, 3) := by decide +kernel
theorem dX5_narrowBy_10 : decode cX5_narrowBy 10 = .ok (.iload_n 2, 1) := by decide +kernel
theorem dX5_narrowBy_11 : decode cX5_narrowBy 11 = .ok (.ireturn, 1) := by decide +kernel
theorem dX5_narrowBy_12 : decode cX5_narrowBy 12 = .ok (.aload_n 1, 1) := by decide +kernel
theorem dX5_narrowBy_13 : decode cX5_narrowBy 13 = .ok (.invokevirtual 53, 3) := by decide +kernel
theorem dX5_narrowBy_16 : decode cX5_narrowBy 16 = .ok (.ifCond .ne 6, 3) := by decide +kernel
theorem dX5_narrowBy_19 : decode cX5_narrowBy 19 = .ok (.bipush (-5), 2) := by decide +kernel
theorem dX5_narrowBy_21 : decode cX5_narrowBy 21 = .ok (.ireturn, 1) := by decide +kernel
theorem dX5_narrowBy_22 : decode cX5_narrowBy 22 = .ok (.aload_n 0, 1) := by decide +kernel
theorem dX5_narrowBy_23 : decode cX5_narrowBy 23 = .ok (.aload_n 0, 1) := by decide +kernel
theorem dX5_narrowBy_24 : decode cX5_narrowBy 24 = .ok (.getfield 25, 3) := by decide +kernel
theorem dX5_narrowBy_27 : decode cX5_narrowBy 27 = .ok (.getfield 29, 3) := by decide +kernel
theorem dX5_narrowBy_30 : decode cX5_narrowBy 30 = .ok (.putfield 57, 3) := by decide +kernel
theorem dX5_narrowBy_33 : decode cX5_narrowBy 33 = .ok (.aload_n 0, 1) := by decide +kernel
theorem dX5_narrowBy_34 : decode cX5_narrowBy 34 = .ok (.getfield 25, 3) := by decide +kernel
theorem dX5_narrowBy_37 : decode cX5_narrowBy 37 = .ok (.getfield 60, 3) := by decide +kernel
theorem dX5_narrowBy_40 : decode cX5_narrowBy 40 = .ok (.iconst 0, 1) := by decide +kernel
theorem dX5_narrowBy_41 : decode cX5_narrowBy 41 = .ok (.aload_n 0, 1) := by decide +kernel
theorem dX5_narrowBy_42 : decode cX5_narrowBy 42 = .ok (.getfield 9, 3) := by decide +kernel
theorem dX5_narrowBy_45 : decode cX5_narrowBy 45 = .ok (.iconst 0, 1) := by decide +kernel
theorem dX5_narrowBy_46 : decode cX5_narrowBy 46 = .ok (.aload_n 0, 1) := by decide +kernel
theorem dX5_narrowBy_47 : decode cX5_narrowBy 47 = .ok (.getfield 57, 3) := by decide +kernel
theorem dX5_narrowBy_50 : decode cX5_narrowBy 50 = .ok (.invokestatic 63, 3) := by decide +kernel
theorem dX5_narrowBy_53 : decode cX5_narrowBy 53 = .ok (.iconst 0, 1) := by decide +kernel
theorem dX5_narrowBy_54 : decode cX5_narrowBy 54 = .ok (.istore_n 3, 1) := by decide +kernel
theorem dX5_narrowBy_55 : decode cX5_narrowBy 55 = .ok (.iload_n 3, 1) := by decide +kernel
theorem dX5_narrowBy_56 : decode cX5_narrowBy 56 = .ok (.iconst 2, 1) := by decide +kernel
theorem dX5_narrowBy_57 : decode cX5_narrowBy 57 = .ok (.iadd, 1) := by decide +kernel
theorem dX5_narrowBy_58 : decode cX5_narrowBy 58 = .ok (.aload_n 1, 1) := by decide +kernel
theorem dX5_narrowBy_59 : decode cX5_narrowBy 59 = .ok (.getfield 69, 3) := by decide +kernel
theorem dX5_narrowBy_62 : decode cX5_narrowBy 62 = .ok (.if_icmp .ge 38, 3) := by decide +kernel
theorem dX5_narrowBy_65 : decode cX5_narrowBy 65 = .ok (.aload_n 0, 1) := by decide +kernel
theorem dX5_narrowBy_66 : decode cX5_narrowBy 66 = .ok (.aload_n 1, 1) := by decide +kernel
theorem dX5_narrowBy_67 : decode cX5_narrowBy 67 = .ok (.getfield 72, 3) := by decide +kernel
theorem dX5_narrowBy_70 : decode cX5_narrowBy 70 = .ok (.iload_n 3, 1) := by decide +kernel
theorem dX5_narrowBy_71 : decode cX5_narrowBy 71 = .ok (.laload, 1) := by decide +kernel
theorem dX5_narrowBy_72 : decode cX5_narrowBy 72 = .ok (.l2i, 1) := by decide +kernel
theorem dX5_narrowBy_73 : decode cX5_narrowBy 73 = .ok (.aload_n 1, 1) := by decide +kernel
theorem dX5_narrowBy_74 : decode cX5_narrowBy 74 = .ok (.getfield 72, 3) := by decide +kernel
theorem dX5_narrowBy_77 : decode cX5_narrowBy 77 = .ok (.iload_n 3, 1) := by decide +kernel
theorem dX5_narrowBy_78 : decode cX5_narrowBy 78 = .ok (.iconst 1, 1) := by decide +kernel
theorem dX5_narrowBy_79 : decode cX5_narrowBy 79 = .ok (.iadd, 1) := by decide +kernel
theorem dX5_narrowBy_80 : decode cX5_narrowBy 80 = .ok (.laload, 1) := by decide +kernel
theorem dX5_narrowBy_81 : decode cX5_narrowBy 81 = .ok (.l2i, 1) := by decide +kernel
theorem dX5_narrowBy_82 : decode cX5_narrowBy 82 = .ok (.aload_n 1, 1) := by decide +kernel
theorem dX5_narrowBy_83 : decode cX5_narrowBy 83 = .ok (.getfield 72, 3) := by decide +kernel
theorem dX5_narrowBy_86 : decode cX5_narrowBy 86 = .ok (.iload_n 3, 1) := by decide +kernel
theorem dX5_narrowBy_87 : decode cX5_narrowBy 87 = .ok (.iconst 2, 1) := by decide +kernel
theorem dX5_narrowBy_88 : decode cX5_narrowBy 88 = .ok (.iadd, 1) := by decide +kernel
theorem dX5_narrowBy_89 : decode cX5_narrowBy 89 = .ok (.laload, 1) := by decide +kernel
theorem dX5_narrowBy_90 : decode cX5_narrowBy 90 = .ok (.l2i, 1) := by decide +kernel
theorem dX5_narrowBy_91 : decode cX5_narrowBy 91 = .ok (.invokevirtual 76, 3) := by decide +kernel
theorem dX5_narrowBy_94 : decode cX5_narrowBy 94 = .ok (.iinc 3 3, 3) := by decide +kernel
theorem dX5_narrowBy_97 : decode cX5_narrowBy 97 = .ok (.goto (-42), 3) := by decide +kernel
theorem dX5_narrowBy_100 : decode cX5_narrowBy 100 = .ok (.iconst 0, 1) := by decide +kernel
theorem dX5_narrowBy_101 : decode cX5_narrowBy 101 = .ok (.ireturn, 1) := by decide +kernel
theorem dX5_keepAlike_0 : decode cX5_keepAlike 0 = .ok (.aload_n 0, 1) := by decide +kernel
theorem dX5_keepAlike_1 : decode cX5_keepAlike 1 = .ok (.getfield 21, 3) := by decide +kernel
theorem dX5_keepAlike_4 : decode cX5_keepAlike 4 = .ok (.iload_n 1, 1) := by decide +kernel
theorem dX5_keepAlike_5 : decode cX5_keepAlike 5 = .ok (.iload_n 2, 1) := by decide +kernel
theorem dX5_keepAlike_6 : decode cX5_keepAlike 6 = .ok (.invokevirtual 80, 3) := by decide +kernel
theorem dX5_keepAlike_9 : decode cX5_keepAlike 9 = .ok (.istore 4, 2) := by decide +kernel
theorem dX5_keepAlike_11 : decode cX5_keepAlike 11 = .ok (.iconst 0, 1) := by decide +kernel
theorem dX5_keepAlike_12 : decode cX5_keepAlike 12 = .ok (.istore 5, 2) := by decide +kernel
theorem dX5_keepAlike_14 : decode cX5_keepAlike 14 = .ok (.iconst 0, 1) := by decide +kernel
theorem dX5_keepAlike_15 : decode cX5_keepAlike 15 = .ok (.istore 6, 2) := by decide +kernel
theorem dX5_keepAlike_17 : decode cX5_keepAlike 17 = .ok (.iload 6, 2) := by decide +kernel
theorem dX5_keepAlike_19 : decode cX5_keepAlike 19 = .ok (.aload_n 0, 1) := by decide +kernel
theorem dX5_keepAlike_20 : decode cX5_keepAlike 20 = .ok (.getfield 57, 3) := by decide +kernel
theorem dX5_keepAlike_23 : decode cX5_keepAlike 23 = .ok (.if_icmp .ge 51, 3) := by decide +kernel
theorem dX5_keepAlike_26 : decode cX5_keepAlike 26 = .ok (.iload 4, 2) := by decide +kernel
theorem dX5_keepAlike_28 : decode cX5_keepAlike 28 = .ok (.aload_n 0, 1) := by decide +kernel
theorem dX5_keepAlike_29 : decode cX5_keepAlike 29 = .ok (.getfield 25, 3) := by decide +kernel
theorem dX5_keepAlike_32 : decode cX5_keepAlike 32 = .ok (.getfield 83, 3) := by decide +kernel
theorem dX5_keepAlike_35 : decode cX5_keepAlike 35 = .ok (.aload_n 0, 1) := by decide +kernel
theorem dX5_keepAlike_36 : decode cX5_keepAlike 36 = .ok (.getfield 9, 3) := by decide +kernel
theorem dX5_keepAlike_39 : decode cX5_keepAlike 39 = .ok (.iload 6, 2) := by decide +kernel
theorem dX5_keepAlike_41 : decode cX5_keepAlike 41 = .ok (.iaload, 1) := by decide +kernel
theorem dX5_keepAlike_42 : decode cX5_keepAlike 42 = .ok (.iaload, 1) := by decide +kernel
theorem dX5_keepAlike_43 : decode cX5_keepAlike 43 = .ok (.iand, 1) := by decide +kernel
theorem dX5_keepAlike_44 : decode cX5_keepAlike 44 = .ok (.invokestatic 86, 3) := by decide +kernel
theorem dX5_keepAlike_47 : decode cX5_keepAlike 47 = .ok (.iload_n 3, 1) := by decide +kernel
theorem dX5_keepAlike_48 : decode cX5_keepAlike 48 = .ok (.if_icmp .ne 20, 3) := by decide +kernel
theorem dX5_keepAlike_51 : decode cX5_keepAlike 51 = .ok (.aload_n 0, 1) := by decide +kernel
theorem dX5_keepAlike_52 : decode cX5_keepAlike 52 = .ok (.getfield 9, 3) := by decide +kernel
theorem dX5_keepAlike_55 : decode cX5_keepAlike 55 = .ok (.iload 5, 2) := by decide +kernel
theorem dX5_keepAlike_57 : decode cX5_keepAlike 57 = .ok (.aload_n 0, 1) := by decide +kernel
theorem dX5_keepAlike_58 : decode cX5_keepAlike 58 = .ok (.getfield 9, 3) := by decide +kernel
theorem dX5_keepAlike_61 : decode cX5_keepAlike 61 = .ok (.iload 6, 2) := by decide +kernel
theorem dX5_keepAlike_63 : decode cX5_keepAlike 63 = .ok (.iaload, 1) := by decide +kernel
theorem dX5_keepAlike_64 : decode cX5_keepAlike 64 = .ok (.iastore, 1) := by decide +kernel
theorem dX5_keepAlike_65 : decode cX5_keepAlike 65 = .ok (.iinc 5 1, 3) := by decide +kernel
theorem dX5_keepAlike_68 : decode cX5_keepAlike 68 = .ok (.iinc 6 1, 3) := by decide +kernel
theorem dX5_keepAlike_71 : decode cX5_keepAlike 71 = .ok (.goto (-54), 3) := by decide +kernel
theorem dX5_keepAlike_74 : decode cX5_keepAlike 74 = .ok (.aload_n 0, 1) := by decide +kernel
theorem dX5_keepAlike_75 : decode cX5_keepAlike 75 = .ok (.iload 5, 2) := by decide +kernel
theorem dX5_keepAlike_77 : decode cX5_keepAlike 77 = .ok (.putfield 57, 3) := by decide +kernel
theorem dX5_keepAlike_80 : decode cX5_keepAlike 80 = .ok (.return_, 1) := by decide +kernel
theorem dX5_firstFitting_0 : decode cX5_firstFitting 0 = .ok (.aload_n 0, 1) := by decide +kernel
theorem dX5_firstFitting_1 : decode cX5_firstFitting 1 = .ok (.getfield 57, 3) := by decide +kernel
theorem dX5_firstFitting_4 : decode cX5_firstFitting 4 = .ok (.ifCond .ne 8, 3) := by decide +kernel
theorem dX5_firstFitting_7 : decode cX5_firstFitting 7 = .ok (.bipush (-2), 2) := by decide +kernel
theorem dX5_firstFitting_9 : decode cX5_firstFitting 9 = .ok (.goto 17, 3) := by decide +kernel
theorem dX5_firstFitting_12 : decode cX5_firstFitting 12 = .ok (.aload_n 0, 1) := by decide +kernel
theorem dX5_firstFitting_13 : decode cX5_firstFitting 13 = .ok (.getfield 25, 3) := by decide +kernel
theorem dX5_firstFitting_16 : decode cX5_firstFitting 16 = .ok (.getfield 89, 3) := by decide +kernel
theorem dX5_firstFitting_19 : decode cX5_firstFitting 19 = .ok (.aload_n 0, 1) := by decide +kernel
theorem dX5_firstFitting_20 : decode cX5_firstFitting 20 = .ok (.getfield 9, 3) := by decide +kernel
theorem dX5_firstFitting_23 : decode cX5_firstFitting 23 = .ok (.iconst 0, 1) := by decide +kernel
theorem dX5_firstFitting_24 : decode cX5_firstFitting 24 = .ok (.iaload, 1) := by decide +kernel
theorem dX5_firstFitting_25 : decode cX5_firstFitting 25 = .ok (.iaload, 1) := by decide +kernel
theorem dX5_firstFitting_26 : decode cX5_firstFitting 26 = .ok (.ireturn, 1) := by decide +kernel
theorem dX5_alikeWalkers_0 : decode cX5_alikeWalkers 0 = .ok (.aload_n 0, 1) := by decide +kernel
theorem dX5_alikeWalkers_1 : decode cX5_alikeWalkers 1 = .ok (.getfield 57, 3) := by decide +kernel
theorem dX5_alikeWalkers_4 : decode cX5_alikeWalkers 4 = .ok (.ifCond .ne 5, 3) := by decide +kernel
theorem dX5_alikeWalkers_7 : decode cX5_alikeWalkers 7 = .ok (.iconst 0, 1) := by decide +kernel
theorem dX5_alikeWalkers_8 : decode cX5_alikeWalkers 8 = .ok (.ireturn, 1) := by decide +kernel
theorem dX5_alikeWalkers_9 : decode cX5_alikeWalkers 9 = .ok (.iconst (-1), 1) := by decide +kernel
theorem dX5_alikeWalkers_10 : decode cX5_alikeWalkers 10 = .ok (.istore_n 1, 1) := by decide +kernel
theorem dX5_alikeWalkers_11 : decode cX5_alikeWalkers 11 = .ok (.iconst 0, 1) := by decide +kernel
theorem dX5_alikeWalkers_12 : decode cX5_alikeWalkers 12 = .ok (.istore_n 2, 1) := by decide +kernel
theorem dX5_alikeWalkers_13 : decode cX5_alikeWalkers 13 = .ok (.iload_n 2, 1) := by decide +kernel
theorem dX5_alikeWalkers_14 : decode cX5_alikeWalkers 14 = .ok (.aload_n 0, 1) := by decide +kernel
theorem dX5_alikeWalkers_15 : decode cX5_alikeWalkers 15 = .ok (.getfield 57, 3) := by decide +kernel
theorem dX5_alikeWalkers_18 : decode cX5_alikeWalkers 18 = .ok (.if_icmp .ge 26, 3) := by decide +kernel
theorem dX5_alikeWalkers_21 : decode cX5_alikeWalkers 21 = .ok (.iload_n 1, 1) := by decide +kernel
theorem dX5_alikeWalkers_22 : decode cX5_alikeWalkers 22 = .ok (.aload_n 0, 1) := by decide +kernel
theorem dX5_alikeWalkers_23 : decode cX5_alikeWalkers 23 = .ok (.getfield 25, 3) := by decide +kernel
theorem dX5_alikeWalkers_26 : decode cX5_alikeWalkers 26 = .ok (.getfield 83, 3) := by decide +kernel
theorem dX5_alikeWalkers_29 : decode cX5_alikeWalkers 29 = .ok (.aload_n 0, 1) := by decide +kernel
theorem dX5_alikeWalkers_30 : decode cX5_alikeWalkers 30 = .ok (.getfield 9, 3) := by decide +kernel
theorem dX5_alikeWalkers_33 : decode cX5_alikeWalkers 33 = .ok (.iload_n 2, 1) := by decide +kernel
theorem dX5_alikeWalkers_34 : decode cX5_alikeWalkers 34 = .ok (.iaload, 1) := by decide +kernel
theorem dX5_alikeWalkers_35 : decode cX5_alikeWalkers 35 = .ok (.iaload, 1) := by decide +kernel
theorem dX5_alikeWalkers_36 : decode cX5_alikeWalkers 36 = .ok (.iand, 1) := by decide +kernel
theorem dX5_alikeWalkers_37 : decode cX5_alikeWalkers 37 = .ok (.istore_n 1, 1) := by decide +kernel
theorem dX5_alikeWalkers_38 : decode cX5_alikeWalkers 38 = .ok (.iinc 2 1, 3) := by decide +kernel
theorem dX5_alikeWalkers_41 : decode cX5_alikeWalkers 41 = .ok (.goto (-28), 3) := by decide +kernel
theorem dX5_alikeWalkers_44 : decode cX5_alikeWalkers 44 = .ok (.iload_n 1, 1) := by decide +kernel
theorem dX5_alikeWalkers_45 : decode cX5_alikeWalkers 45 = .ok (.invokestatic 86, 3) := by decide +kernel
theorem dX5_alikeWalkers_48 : decode cX5_alikeWalkers 48 = .ok (.ireturn, 1) := by decide +kernel
theorem dX5_bestLook_0 : decode cX5_bestLook 0 = .ok (.aload_n 0, 1) := by decide +kernel
theorem dX5_bestLook_1 : decode cX5_bestLook 1 = .ok (.getfield 18, 3) := by decide +kernel
theorem dX5_bestLook_4 : decode cX5_bestLook 4 = .ok (.iconst 0, 1) := by decide +kernel
theorem dX5_bestLook_5 : decode cX5_bestLook 5 = .ok (.invokestatic 92, 3) := by decide +kernel
theorem dX5_bestLook_8 : decode cX5_bestLook 8 = .ok (.iconst 0, 1) := by decide +kernel
theorem dX5_bestLook_9 : decode cX5_bestLook 9 = .ok (.istore_n 1, 1) := by decide +kernel
theorem dX5_bestLook_10 : decode cX5_bestLook 10 = .ok (.iload_n 1, 1) := by decide +kernel
theorem dX5_bestLook_11 : decode cX5_bestLook 11 = .ok (.aload_n 0, 1) := by decide +kernel
theorem dX5_bestLook_12 : decode cX5_bestLook 12 = .ok (.getfield 21, 3) := by decide +kernel
theorem dX5_bestLook_15 : decode cX5_bestLook 15 = .ok (.getfield 98, 3) := by decide +kernel
theorem dX5_bestLook_18 : decode cX5_bestLook 18 = .ok (.iconst 4, 1) := by decide +kernel
theorem dX5_bestLook_19 : decode cX5_bestLook 19 = .ok (.imul, 1) := by decide +kernel
theorem dX5_bestLook_20 : decode cX5_bestLook 20 = .ok (.if_icmp .ge 14, 3) := by decide +kernel
theorem dX5_bestLook_23 : decode cX5_bestLook 23 = .ok (.aload_n 0, 1) := by decide +kernel
theorem dX5_bestLook_24 : decode cX5_bestLook 24 = .ok (.iload_n 1, 1) := by decide +kernel
theorem dX5_bestLook_25 : decode cX5_bestLook 25 = .ok (.invokevirtual 101, 3) := by decide +kernel
theorem dX5_bestLook_28 : decode cX5_bestLook 28 = .ok (.iinc 1 1, 3) := by decide +kernel
theorem dX5_bestLook_31 : decode cX5_bestLook 31 = .ok (.goto (-21), 3) := by decide +kernel
theorem dX5_bestLook_34 : decode cX5_bestLook 34 = .ok (.iconst 0, 1) := by decide +kernel
theorem dX5_bestLook_35 : decode cX5_bestLook 35 = .ok (.istore_n 1, 1) := by decide +kernel
theorem dX5_bestLook_36 : decode cX5_bestLook 36 = .ok (.aload_n 0, 1) := by decide +kernel
theorem dX5_bestLook_37 : decode cX5_bestLook 37 = .ok (.getfield 57, 3) := by decide +kernel
theorem dX5_bestLook_40 : decode cX5_bestLook 40 = .ok (.istore_n 2, 1) := by decide +kernel
theorem dX5_bestLook_41 : decode cX5_bestLook 41 = .ok (.iconst 0, 1) := by decide +kernel
theorem dX5_bestLook_42 : decode cX5_bestLook 42 = .ok (.istore_n 3, 1) := by decide +kernel
theorem dX5_bestLook_43 : decode cX5_bestLook 43 = .ok (.iload_n 3, 1) := by decide +kernel
theorem dX5_bestLook_44 : decode cX5_bestLook 44 = .ok (.sipush 488, 3) := by decide +kernel
theorem dX5_bestLook_47 : decode cX5_bestLook 47 = .ok (.if_icmp .ge 41, 3) := by decide +kernel
theorem dX5_bestLook_50 : decode cX5_bestLook 50 = .ok (.aload_n 0, 1) := by decide +kernel
theorem dX5_bestLook_51 : decode cX5_bestLook 51 = .ok (.getfield 18, 3) := by decide +kernel
theorem dX5_bestLook_54 : decode cX5_bestLook 54 = .ok (.iload_n 3, 1) := by decide +kernel
theorem dX5_bestLook_55 : decode cX5_bestLook 55 = .ok (.iaload, 1) := by decide +kernel
theorem dX5_bestLook_56 : decode cX5_bestLook 56 = .ok (.ifCond .eq 26, 3) := by decide +kernel
theorem dX5_bestLook_59 : decode cX5_bestLook 59 = .ok (.aload_n 0, 1) := by decide +kernel
theorem dX5_bestLook_60 : decode cX5_bestLook 60 = .ok (.aload_n 0, 1) := by decide +kernel
theorem dX5_bestLook_61 : decode cX5_bestLook 61 = .ok (.getfield 18, 3) := by decide +kernel
theorem dX5_bestLook_64 : decode cX5_bestLook 64 = .ok (.iload_n 3, 1) := by decide +kernel
theorem dX5_bestLook_65 : decode cX5_bestLook 65 = .ok (.iaload, 1) := by decide +kernel
theorem dX5_bestLook_66 : decode cX5_bestLook 66 = .ok (.invokevirtual 105, 3) := by decide +kernel
theorem dX5_bestLook_69 : decode cX5_bestLook 69 = .ok (.istore 4, 2) := by decide +kernel
theorem dX5_bestLook_71 : decode cX5_bestLook 71 = .ok (.iload 4, 2) := by decide +kernel
theorem dX5_bestLook_73 : decode cX5_bestLook 73 = .ok (.iload_n 2, 1) := by decide +kernel
theorem dX5_bestLook_74 : decode cX5_bestLook 74 = .ok (.if_icmp .ge 8, 3) := by decide +kernel
theorem dX5_bestLook_77 : decode cX5_bestLook 77 = .ok (.iload 4, 2) := by decide +kernel
theorem dX5_bestLook_79 : decode cX5_bestLook 79 = .ok (.istore_n 2, 1) := by decide +kernel
theorem dX5_bestLook_80 : decode cX5_bestLook 80 = .ok (.iload_n 3, 1) := by decide +kernel
theorem dX5_bestLook_81 : decode cX5_bestLook 81 = .ok (.istore_n 1, 1) := by decide +kernel
theorem dX5_bestLook_82 : decode cX5_bestLook 82 = .ok (.iinc 3 1, 3) := by decide +kernel
theorem dX5_bestLook_85 : decode cX5_bestLook 85 = .ok (.goto (-42), 3) := by decide +kernel
theorem dX5_bestLook_88 : decode cX5_bestLook 88 = .ok (.iload_n 1, 1) := by decide +kernel
theorem dX5_bestLook_89 : decode cX5_bestLook 89 = .ok (.bipush 8, 2) := by decide +kernel
theorem dX5_bestLook_91 : decode cX5_bestLook 91 = .ok (.idiv, 1) := by decide +kernel
theorem dX5_bestLook_92 : decode cX5_bestLook 92 = .ok (.bipush 10, 2) := by decide +kernel
theorem dX5_bestLook_94 : decode cX5_bestLook 94 = .ok (.imul, 1) := by decide +kernel
theorem dX5_bestLook_95 : decode cX5_bestLook 95 = .ok (.iload_n 1, 1) := by decide +kernel
theorem dX5_bestLook_96 : decode cX5_bestLook 96 = .ok (.bipush 8, 2) := by decide +kernel
theorem dX5_bestLook_98 : decode cX5_bestLook 98 = .ok (.irem, 1) := by decide +kernel
theorem dX5_bestLook_99 : decode cX5_bestLook 99 = .ok (.iadd, 1) := by decide +kernel
theorem dX5_bestLook_100 : decode cX5_bestLook 100 = .ok (.ireturn, 1) := by decide +kernel
theorem dX5_markTracks_0 : decode cX5_markTracks 0 = .ok (.aload_n 0, 1) := by decide +kernel
theorem dX5_markTracks_1 : decode cX5_markTracks 1 = .ok (.getfield 21, 3) := by decide +kernel
theorem dX5_markTracks_4 : decode cX5_markTracks 4 = .ok (.iload_n 1, 1) := by decide +kernel
theorem dX5_markTracks_5 : decode cX5_markTracks 5 = .ok (.iconst 4, 1) := by decide +kernel
theorem dX5_markTracks_6 : decode cX5_markTracks 6 = .ok (.idiv, 1) := by decide +kernel
theorem dX5_markTracks_7 : decode cX5_markTracks 7 = .ok (.invokevirtual 108, 3) := by decide +kernel
theorem dX5_markTracks_10 : decode cX5_markTracks 10 = .ok (.istore_n 2, 1) := by decide +kernel
theorem dX5_markTracks_11 : decode cX5_markTracks 11 = .ok (.iconst 0, 1) := by decide +kernel
theorem dX5_markTracks_12 : decode cX5_markTracks 12 = .ok (.istore_n 3, 1) := by decide +kernel
theorem dX5_markTracks_13 : decode cX5_markTracks 13 = .ok (.iload_n 3, 1) := by decide +kernel
theorem dX5_markTracks_14 : decode cX5_markTracks 14 = .ok (.aload_n 0, 1) := by decide +kernel
theorem dX5_markTracks_15 : decode cX5_markTracks 15 = .ok (.getfield 21, 3) := by decide +kernel
theorem dX5_markTracks_18 : decode cX5_markTracks 18 = .ok (.getfield 111, 3) := by decide +kernel
theorem dX5_markTracks_21 : decode cX5_markTracks 21 = .ok (.iload_n 1, 1) := by decide +kernel
theorem dX5_markTracks_22 : decode cX5_markTracks 22 = .ok (.iaload, 1) := by decide +kernel
theorem dX5_markTracks_23 : decode cX5_markTracks 23 = .ok (.if_icmp .ge 84, 3) := by decide +kernel
theorem dX5_markTracks_26 : decode cX5_markTracks 26 = .ok (.aload_n 0, 1) := by decide +kernel
theorem dX5_markTracks_27 : decode cX5_markTracks 27 = .ok (.getfield 21, 3) := by decide +kernel
theorem dX5_markTracks_30 : decode cX5_markTracks 30 = .ok (.getfield 114, 3) := by decide +kernel
theorem dX5_markTracks_33 : decode cX5_markTracks 33 = .ok (.iload_n 1, 1) := by decide +kernel
theorem dX5_markTracks_34 : decode cX5_markTracks 34 = .ok (.aaload, 1) := by decide +kernel
theorem dX5_markTracks_35 : decode cX5_markTracks 35 = .ok (.iload_n 3, 1) := by decide +kernel
theorem dX5_markTracks_36 : decode cX5_markTracks 36 = .ok (.iaload, 1) := by decide +kernel
theorem dX5_markTracks_37 : decode cX5_markTracks 37 = .ok (.istore 4, 2) := by decide +kernel
theorem dX5_markTracks_39 : decode cX5_markTracks 39 = .ok (.iload 4, 2) := by decide +kernel
theorem dX5_markTracks_41 : decode cX5_markTracks 41 = .ok (.iconst 1, 1) := by decide +kernel
theorem dX5_markTracks_42 : decode cX5_markTracks 42 = .ok (.isub, 1) := by decide +kernel
theorem dX5_markTracks_43 : decode cX5_markTracks 43 = .ok (.bipush 60, 2) := by decide +kernel
theorem dX5_markTracks_45 : decode cX5_markTracks 45 = .ok (.invokestatic 118, 3) := by decide +kernel
theorem dX5_markTracks_48 : decode cX5_markTracks 48 = .ok (.istore 5, 2) := by decide +kernel
theorem dX5_markTracks_50 : decode cX5_markTracks 50 = .ok (.iload 4, 2) := by decide +kernel
theorem dX5_markTracks_52 : decode cX5_markTracks 52 = .ok (.iload_n 2, 1) := by decide +kernel
theorem dX5_markTracks_53 : decode cX5_markTracks 53 = .ok (.isub, 1) := by decide +kernel
theorem dX5_markTracks_54 : decode cX5_markTracks 54 = .ok (.iconst 0, 1) := by decide +kernel
theorem dX5_markTracks_55 : decode cX5_markTracks 55 = .ok (.invokestatic 123, 3) := by decide +kernel
theorem dX5_markTracks_58 : decode cX5_markTracks 58 = .ok (.istore 6, 2) := by decide +kernel
theorem dX5_markTracks_60 : decode cX5_markTracks 60 = .ok (.iload 6, 2) := by decide +kernel
theorem dX5_markTracks_62 : decode cX5_markTracks 62 = .ok (.iload 5, 2) := by decide +kernel
theorem dX5_markTracks_64 : decode cX5_markTracks 64 = .ok (.if_icmp .gt 37, 3) := by decide +kernel
theorem dX5_markTracks_67 : decode cX5_markTracks 67 = .ok (.aload_n 0, 1) := by decide +kernel
theorem dX5_markTracks_68 : decode cX5_markTracks 68 = .ok (.getfield 18, 3) := by decide +kernel
theorem dX5_markTracks_71 : decode cX5_markTracks 71 = .ok (.iload 6, 2) := by decide +kernel
theorem dX5_markTracks_73 : decode cX5_markTracks 73 = .ok (.bipush 8, 2) := by decide +kernel
theorem dX5_markTracks_75 : decode cX5_markTracks 75 = .ok (.imul, 1) := by decide +kernel
theorem dX5_markTracks_76 : decode cX5_markTracks 76 = .ok (.aload_n 0, 1) := by decide +kernel
theorem dX5_markTracks_77 : decode cX5_markTracks 77 = .ok (.getfield 21, 3) := by decide +kernel
theorem dX5_markTracks_80 : decode cX5_markTracks 80 = .ok (.getfield 126, 3) := by decide +kernel
theorem dX5_markTracks_83 : decode cX5_markTracks 83 = .ok (.iload_n 1, 1) := by decide +kernel
theorem dX5_markTracks_84 : decode cX5_markTracks 84 = .ok (.aaload, 1) := by decide +kernel
theorem dX5_markTracks_85 : decode cX5_markTracks 85 = .ok (.iload_n 3, 1) := by decide +kernel
theorem dX5_markTracks_86 : decode cX5_markTracks 86 = .ok (.iaload, 1) := by decide +kernel
theorem dX5_markTracks_87 : decode cX5_markTracks 87 = .ok (.iadd, 1) := by decide +kernel
theorem dX5_markTracks_88 : decode cX5_markTracks 88 = .ok (.dup2, 1) := by decide +kernel
theorem dX5_markTracks_89 : decode cX5_markTracks 89 = .ok (.iaload, 1) := by decide +kernel
theorem dX5_markTracks_90 : decode cX5_markTracks 90 = .ok (.iconst 1, 1) := by decide +kernel
theorem dX5_markTracks_91 : decode cX5_markTracks 91 = .ok (.iload_n 1, 1) := by decide +kernel
theorem dX5_markTracks_92 : decode cX5_markTracks 92 = .ok (.ishl, 1) := by decide +kernel
theorem dX5_markTracks_93 : decode cX5_markTracks 93 = .ok (.ior, 1) := by decide +kernel
theorem dX5_markTracks_94 : decode cX5_markTracks 94 = .ok (.iastore, 1) := by decide +kernel
theorem dX5_markTracks_95 : decode cX5_markTracks 95 = .ok (.iinc 6 1, 3) := by decide +kernel
theorem dX5_markTracks_98 : decode cX5_markTracks 98 = .ok (.goto (-38), 3) := by decide +kernel
theorem dX5_markTracks_101 : decode cX5_markTracks 101 = .ok (.iinc 3 1, 3) := by decide +kernel
theorem dX5_markTracks_104 : decode cX5_markTracks 104 = .ok (.goto (-91), 3) := by decide +kernel
theorem dX5_markTracks_107 : decode cX5_markTracks 107 = .ok (.return_, 1) := by decide +kernel
theorem dX5_greatestPart_0 : decode cX5_greatestPart 0 = .ok (.aload_n 0, 1) := by decide +kernel
theorem dX5_greatestPart_1 : decode cX5_greatestPart 1 = .ok (.getfield 15, 3) := by decide +kernel
theorem dX5_greatestPart_4 : decode cX5_greatestPart 4 = .ok (.iconst 0, 1) := by decide +kernel
theorem dX5_greatestPart_5 : decode cX5_greatestPart 5 = .ok (.invokestatic 92, 3) := by decide +kernel
theorem dX5_greatestPart_8 : decode cX5_greatestPart 8 = .ok (.iconst 0, 1) := by decide +kernel
theorem dX5_greatestPart_9 : decode cX5_greatestPart 9 = .ok (.istore_n 2, 1) := by decide +kernel
theorem dX5_greatestPart_10 : decode cX5_greatestPart 10 = .ok (.iconst 0, 1) := by decide +kernel
theorem dX5_greatestPart_11 : decode cX5_greatestPart 11 = .ok (.istore_n 3, 1) := by decide +kernel
theorem dX5_greatestPart_12 : decode cX5_greatestPart 12 = .ok (.iload_n 3, 1) := by decide +kernel
theorem dX5_greatestPart_13 : decode cX5_greatestPart 13 = .ok (.aload_n 0, 1) := by decide +kernel
theorem dX5_greatestPart_14 : decode cX5_greatestPart 14 = .ok (.getfield 57, 3) := by decide +kernel
theorem dX5_greatestPart_17 : decode cX5_greatestPart 17 = .ok (.if_icmp .ge 53, 3) := by decide +kernel
theorem dX5_greatestPart_20 : decode cX5_greatestPart 20 = .ok (.iload_n 1, 1) := by decide +kernel
theorem dX5_greatestPart_21 : decode cX5_greatestPart 21 = .ok (.aload_n 0, 1) := by decide +kernel
theorem dX5_greatestPart_22 : decode cX5_greatestPart 22 = .ok (.getfield 25, 3) := by decide +kernel
theorem dX5_greatestPart_25 : decode cX5_greatestPart 25 = .ok (.getfield 83, 3) := by decide +kernel
theorem dX5_greatestPart_28 : decode cX5_greatestPart 28 = .ok (.aload_n 0, 1) := by decide +kernel
theorem dX5_greatestPart_29 : decode cX5_greatestPart 29 = .ok (.getfield 9, 3) := by decide +kernel
theorem dX5_greatestPart_32 : decode cX5_greatestPart 32 = .ok (.iload_n 3, 1) := by decide +kernel
theorem dX5_greatestPart_33 : decode cX5_greatestPart 33 = .ok (.iaload, 1) := by decide +kernel
theorem dX5_greatestPart_34 : decode cX5_greatestPart 34 = .ok (.iaload, 1) := by decide +kernel
theorem dX5_greatestPart_35 : decode cX5_greatestPart 35 = .ok (.iand, 1) := by decide +kernel
theorem dX5_greatestPart_36 : decode cX5_greatestPart 36 = .ok (.invokestatic 86, 3) := by decide +kernel
theorem dX5_greatestPart_39 : decode cX5_greatestPart 39 = .ok (.istore 4, 2) := by decide +kernel
theorem dX5_greatestPart_41 : decode cX5_greatestPart 41 = .ok (.aload_n 0, 1) := by decide +kernel
theorem dX5_greatestPart_42 : decode cX5_greatestPart 42 = .ok (.getfield 15, 3) := by decide +kernel
theorem dX5_greatestPart_45 : decode cX5_greatestPart 45 = .ok (.iload 4, 2) := by decide +kernel
theorem dX5_greatestPart_47 : decode cX5_greatestPart 47 = .ok (.dup2, 1) := by decide +kernel
theorem dX5_greatestPart_48 : decode cX5_greatestPart 48 = .ok (.iaload, 1) := by decide +kernel
theorem dX5_greatestPart_49 : decode cX5_greatestPart 49 = .ok (.iconst 1, 1) := by decide +kernel
theorem dX5_greatestPart_50 : decode cX5_greatestPart 50 = .ok (.iadd, 1) := by decide +kernel
theorem dX5_greatestPart_51 : decode cX5_greatestPart 51 = .ok (.iastore, 1) := by decide +kernel
theorem dX5_greatestPart_52 : decode cX5_greatestPart 52 = .ok (.iload_n 2, 1) := by decide +kernel
theorem dX5_greatestPart_53 : decode cX5_greatestPart 53 = .ok (.aload_n 0, 1) := by decide +kernel
theorem dX5_greatestPart_54 : decode cX5_greatestPart 54 = .ok (.getfield 15, 3) := by decide +kernel
theorem dX5_greatestPart_57 : decode cX5_greatestPart 57 = .ok (.iload 4, 2) := by decide +kernel
theorem dX5_greatestPart_59 : decode cX5_greatestPart 59 = .ok (.iaload, 1) := by decide +kernel
theorem dX5_greatestPart_60 : decode cX5_greatestPart 60 = .ok (.invokestatic 123, 3) := by decide +kernel
theorem dX5_greatestPart_63 : decode cX5_greatestPart 63 = .ok (.istore_n 2, 1) := by decide +kernel
theorem dX5_greatestPart_64 : decode cX5_greatestPart 64 = .ok (.iinc 3 1, 3) := by decide +kernel
theorem dX5_greatestPart_67 : decode cX5_greatestPart 67 = .ok (.goto (-55), 3) := by decide +kernel
theorem dX5_greatestPart_70 : decode cX5_greatestPart 70 = .ok (.iload_n 2, 1) := by decide +kernel
theorem dX5_greatestPart_71 : decode cX5_greatestPart 71 = .ok (.ireturn, 1) := by decide +kernel
theorem dX5_cheapestWithout_0 : decode cX5_cheapestWithout 0 = .ok (.bipush (-2), 2) := by decide +kernel
theorem dX5_cheapestWithout_2 : decode cX5_cheapestWithout 2 = .ok (.istore 4, 2) := by decide +kernel
theorem dX5_cheapestWithout_4 : decode cX5_cheapestWithout 4 = .ok (.bipush (-2), 2) := by decide +kernel
theorem dX5_cheapestWithout_6 : decode cX5_cheapestWithout 6 = .ok (.istore 5, 2) := by decide +kernel
theorem dX5_cheapestWithout_8 : decode cX5_cheapestWithout 8 = .ok (.iconst 0, 1) := by decide +kernel
theorem dX5_cheapestWithout_9 : decode cX5_cheapestWithout 9 = .ok (.istore 6, 2) := by decide +kernel
theorem dX5_cheapestWithout_11 : decode cX5_cheapestWithout 11 = .ok (.iload 6, 2) := by decide +kernel
theorem dX5_cheapestWithout_13 : decode cX5_cheapestWithout 13 = .ok (.aload_n 0, 1) := by decide +kernel
theorem dX5_cheapestWithout_14 : decode cX5_cheapestWithout 14 = .ok (.getfield 25, 3) := by decide +kernel
theorem dX5_cheapestWithout_17 : decode cX5_cheapestWithout 17 = .ok (.getfield 129, 3) := by decide +kernel
theorem dX5_cheapestWithout_20 : decode cX5_cheapestWithout 20 = .ok (.if_icmp .ge 81, 3) := by decide +kernel
theorem dX5_cheapestWithout_23 : decode cX5_cheapestWithout 23 = .ok (.aload_n 0, 1) := by decide +kernel
theorem dX5_cheapestWithout_24 : decode cX5_cheapestWithout 24 = .ok (.getfield 25, 3) := by decide +kernel
theorem dX5_cheapestWithout_27 : decode cX5_cheapestWithout 27 = .ok (.getfield 89, 3) := by decide +kernel
theorem dX5_cheapestWithout_30 : decode cX5_cheapestWithout 30 = .ok (.iload 6, 2) := by decide +kernel
theorem dX5_cheapestWithout_32 : decode cX5_cheapestWithout 32 = .ok (.iaload, 1) := by decide +kernel
theorem dX5_cheapestWithout_33 : decode cX5_cheapestWithout 33 = .ok (.istore 7, 2) := by decide +kernel
theorem dX5_cheapestWithout_35 : decode cX5_cheapestWithout 35 = .ok (.aload_n 0, 1) := by decide +kernel
theorem dX5_cheapestWithout_36 : decode cX5_cheapestWithout 36 = .ok (.getfield 21, 3) := by decide +kernel
theorem dX5_cheapestWithout_39 : decode cX5_cheapestWithout 39 = .ok (.iload 7, 2) := by decide +kernel
theorem dX5_cheapestWithout_41 : decode cX5_cheapestWithout 41 = .ok (.iload_n 1, 1) := by decide +kernel
theorem dX5_cheapestWithout_42 : decode cX5_cheapestWithout 42 = .ok (.invokestatic 39, 3) := by decide +kernel
theorem dX5_cheapestWithout_45 : decode cX5_cheapestWithout 45 = .ok (.iload_n 2, 1) := by decide +kernel
theorem dX5_cheapestWithout_46 : decode cX5_cheapestWithout 46 = .ok (.invokevirtual 130, 3) := by decide +kernel
theorem dX5_cheapestWithout_49 : decode cX5_cheapestWithout 49 = .ok (.ifCond .ne 46, 3) := by decide +kernel
theorem dX5_cheapestWithout_52 : decode cX5_cheapestWithout 52 = .ok (.aload_n 0, 1) := by decide +kernel
theorem dX5_cheapestWithout_53 : decode cX5_cheapestWithout 53 = .ok (.getfield 25, 3) := by decide +kernel
theorem dX5_cheapestWithout_56 : decode cX5_cheapestWithout 56 = .ok (.iload 7, 2) := by decide +kernel
theorem dX5_cheapestWithout_58 : decode cX5_cheapestWithout 58 = .ok (.aload_n 0, 1) := by decide +kernel
theorem dX5_cheapestWithout_59 : decode cX5_cheapestWithout 59 = .ok (.getfield 25, 3) := by decide +kernel
theorem dX5_cheapestWithout_62 : decode cX5_cheapestWithout 62 = .ok (.getfield 83, 3) := by decide +kernel
theorem dX5_cheapestWithout_65 : decode cX5_cheapestWithout 65 = .ok (.iload 6, 2) := by decide +kernel
theorem dX5_cheapestWithout_67 : decode cX5_cheapestWithout 67 = .ok (.iaload, 1) := by decide +kernel
theorem dX5_cheapestWithout_68 : decode cX5_cheapestWithout 68 = .ok (.invokevirtual 134, 3) := by decide +kernel
theorem dX5_cheapestWithout_71 : decode cX5_cheapestWithout 71 = .ok (.istore 8, 2) := by decide +kernel
theorem dX5_cheapestWithout_73 : decode cX5_cheapestWithout 73 = .ok (.iload 4, 2) := by decide +kernel
theorem dX5_cheapestWithout_75 : decode cX5_cheapestWithout 75 = .ok (.bipush (-2), 2) := by decide +kernel
theorem dX5_cheapestWithout_77 : decode cX5_cheapestWithout 77 = .ok (.if_icmp .eq 10, 3) := by decide +kernel
theorem dX5_cheapestWithout_80 : decode cX5_cheapestWithout 80 = .ok (.iload 8, 2) := by decide +kernel
theorem dX5_cheapestWithout_82 : decode cX5_cheapestWithout 82 = .ok (.iload 4, 2) := by decide +kernel
theorem dX5_cheapestWithout_84 : decode cX5_cheapestWithout 84 = .ok (.if_icmp .ge 11, 3) := by decide +kernel
theorem dX5_cheapestWithout_87 : decode cX5_cheapestWithout 87 = .ok (.iload 8, 2) := by decide +kernel
theorem dX5_cheapestWithout_89 : decode cX5_cheapestWithout 89 = .ok (.istore 4, 2) := by decide +kernel
theorem dX5_cheapestWithout_91 : decode cX5_cheapestWithout 91 = .ok (.iload 7, 2) := by decide +kernel
theorem dX5_cheapestWithout_93 : decode cX5_cheapestWithout 93 = .ok (.istore 5, 2) := by decide +kernel
theorem dX5_cheapestWithout_95 : decode cX5_cheapestWithout 95 = .ok (.iinc 6 1, 3) := by decide +kernel
theorem dX5_cheapestWithout_98 : decode cX5_cheapestWithout 98 = .ok (.goto (-87), 3) := by decide +kernel
theorem dX5_cheapestWithout_101 : decode cX5_cheapestWithout 101 = .ok (.iload_n 3, 1) := by decide +kernel
theorem dX5_cheapestWithout_102 : decode cX5_cheapestWithout 102 = .ok (.ifCond .ne 8, 3) := by decide +kernel
theorem dX5_cheapestWithout_105 : decode cX5_cheapestWithout 105 = .ok (.iload 4, 2) := by decide +kernel
theorem dX5_cheapestWithout_107 : decode cX5_cheapestWithout 107 = .ok (.goto 5, 3) := by decide +kernel
theorem dX5_cheapestWithout_110 : decode cX5_cheapestWithout 110 = .ok (.iload 5, 2) := by decide +kernel
theorem dX5_cheapestWithout_112 : decode cX5_cheapestWithout 112 = .ok (.ireturn, 1) := by decide +kernel
theorem dX5_bestGuard_0 : decode cX5_bestGuard 0 = .ok (.aload_n 0, 1) := by decide +kernel
theorem dX5_bestGuard_1 : decode cX5_bestGuard 1 = .ok (.getfield 25, 3) := by decide +kernel
theorem dX5_bestGuard_4 : decode cX5_bestGuard 4 = .ok (.getfield 29, 3) := by decide +kernel
theorem dX5_bestGuard_7 : decode cX5_bestGuard 7 = .ok (.ifCond .ne 6, 3) := by decide +kernel
theorem dX5_bestGuard_10 : decode cX5_bestGuard 10 = .ok (.bipush (-2), 2) := by decide +kernel
theorem dX5_bestGuard_12 : decode cX5_bestGuard 12 = .ok (.ireturn, 1) := by decide +kernel
theorem dX5_bestGuard_13 : decode cX5_bestGuard 13 = .ok (.aload_n 0, 1) := by decide +kernel
theorem dX5_bestGuard_14 : decode cX5_bestGuard 14 = .ok (.getfield 18, 3) := by decide +kernel
theorem dX5_bestGuard_17 : decode cX5_bestGuard 17 = .ok (.iconst 0, 1) := by decide +kernel
theorem dX5_bestGuard_18 : decode cX5_bestGuard 18 = .ok (.invokestatic 92, 3) := by decide +kernel
theorem dX5_bestGuard_21 : decode cX5_bestGuard 21 = .ok (.iconst 0, 1) := by decide +kernel
theorem dX5_bestGuard_22 : decode cX5_bestGuard 22 = .ok (.istore_n 3, 1) := by decide +kernel
theorem dX5_bestGuard_23 : decode cX5_bestGuard 23 = .ok (.iload_n 3, 1) := by decide +kernel
theorem dX5_bestGuard_24 : decode cX5_bestGuard 24 = .ok (.aload_n 0, 1) := by decide +kernel
theorem dX5_bestGuard_25 : decode cX5_bestGuard 25 = .ok (.getfield 21, 3) := by decide +kernel
theorem dX5_bestGuard_28 : decode cX5_bestGuard 28 = .ok (.getfield 98, 3) := by decide +kernel
theorem dX5_bestGuard_31 : decode cX5_bestGuard 31 = .ok (.iconst 4, 1) := by decide +kernel
theorem dX5_bestGuard_32 : decode cX5_bestGuard 32 = .ok (.imul, 1) := by decide +kernel
theorem dX5_bestGuard_33 : decode cX5_bestGuard 33 = .ok (.if_icmp .ge 24, 3) := by decide +kernel
theorem dX5_bestGuard_36 : decode cX5_bestGuard 36 = .ok (.iload_n 1, 1) := by decide +kernel
theorem dX5_bestGuard_37 : decode cX5_bestGuard 37 = .ok (.iload_n 3, 1) := by decide +kernel
theorem dX5_bestGuard_38 : decode cX5_bestGuard 38 = .ok (.iconst 4, 1) := by decide +kernel
theorem dX5_bestGuard_39 : decode cX5_bestGuard 39 = .ok (.idiv, 1) := by decide +kernel
theorem dX5_bestGuard_40 : decode cX5_bestGuard 40 = .ok (.ishr, 1) := by decide +kernel
theorem dX5_bestGuard_41 : decode cX5_bestGuard 41 = .ok (.iconst 1, 1) := by decide +kernel
theorem dX5_bestGuard_42 : decode cX5_bestGuard 42 = .ok (.iand, 1) := by decide +kernel
theorem dX5_bestGuard_43 : decode cX5_bestGuard 43 = .ok (.ifCond .eq 8, 3) := by decide +kernel
theorem dX5_bestGuard_46 : decode cX5_bestGuard 46 = .ok (.aload_n 0, 1) := by decide +kernel
theorem dX5_bestGuard_47 : decode cX5_bestGuard 47 = .ok (.iload_n 3, 1) := by decide +kernel
theorem dX5_bestGuard_48 : decode cX5_bestGuard 48 = .ok (.invokevirtual 137, 3) := by decide +kernel
theorem dX5_bestGuard_51 : decode cX5_bestGuard 51 = .ok (.iinc 3 1, 3) := by decide +kernel
theorem dX5_bestGuard_54 : decode cX5_bestGuard 54 = .ok (.goto (-31), 3) := by decide +kernel
theorem dX5_bestGuard_57 : decode cX5_bestGuard 57 = .ok (.iconst 0, 1) := by decide +kernel
theorem dX5_bestGuard_58 : decode cX5_bestGuard 58 = .ok (.istore_n 3, 1) := by decide +kernel
theorem dX5_bestGuard_59 : decode cX5_bestGuard 59 = .ok (.iconst 0, 1) := by decide +kernel
theorem dX5_bestGuard_60 : decode cX5_bestGuard 60 = .ok (.istore 4, 2) := by decide +kernel
theorem dX5_bestGuard_62 : decode cX5_bestGuard 62 = .ok (.iconst 0, 1) := by decide +kernel
theorem dX5_bestGuard_63 : decode cX5_bestGuard 63 = .ok (.istore 5, 2) := by decide +kernel
theorem dX5_bestGuard_65 : decode cX5_bestGuard 65 = .ok (.iload 5, 2) := by decide +kernel
theorem dX5_bestGuard_67 : decode cX5_bestGuard 67 = .ok (.aload_n 0, 1) := by decide +kernel
theorem dX5_bestGuard_68 : decode cX5_bestGuard 68 = .ok (.getfield 18, 3) := by decide +kernel
theorem dX5_bestGuard_71 : decode cX5_bestGuard 71 = .ok (.arraylength, 1) := by decide +kernel
theorem dX5_bestGuard_72 : decode cX5_bestGuard 72 = .ok (.if_icmp .ge 46, 3) := by decide +kernel
theorem dX5_bestGuard_75 : decode cX5_bestGuard 75 = .ok (.aload_n 0, 1) := by decide +kernel
theorem dX5_bestGuard_76 : decode cX5_bestGuard 76 = .ok (.getfield 18, 3) := by decide +kernel
theorem dX5_bestGuard_79 : decode cX5_bestGuard 79 = .ok (.iload 5, 2) := by decide +kernel
theorem dX5_bestGuard_81 : decode cX5_bestGuard 81 = .ok (.iaload, 1) := by decide +kernel
theorem dX5_bestGuard_82 : decode cX5_bestGuard 82 = .ok (.ifCond .eq 30, 3) := by decide +kernel
theorem dX5_bestGuard_85 : decode cX5_bestGuard 85 = .ok (.aload_n 0, 1) := by decide +kernel
theorem dX5_bestGuard_86 : decode cX5_bestGuard 86 = .ok (.aload_n 0, 1) := by decide +kernel
theorem dX5_bestGuard_87 : decode cX5_bestGuard 87 = .ok (.getfield 18, 3) := by decide +kernel
theorem dX5_bestGuard_90 : decode cX5_bestGuard 90 = .ok (.iload 5, 2) := by decide +kernel
theorem dX5_bestGuard_92 : decode cX5_bestGuard 92 = .ok (.iaload, 1) := by decide +kernel
theorem dX5_bestGuard_93 : decode cX5_bestGuard 93 = .ok (.invokevirtual 140, 3) := by decide +kernel
theorem dX5_bestGuard_96 : decode cX5_bestGuard 96 = .ok (.istore 6, 2) := by decide +kernel
theorem dX5_bestGuard_98 : decode cX5_bestGuard 98 = .ok (.iload 6, 2) := by decide +kernel
theorem dX5_bestGuard_100 : decode cX5_bestGuard 100 = .ok (.iload 4, 2) := by decide +kernel
theorem dX5_bestGuard_102 : decode cX5_bestGuard 102 = .ok (.if_icmp .le 10, 3) := by decide +kernel
theorem dX5_bestGuard_105 : decode cX5_bestGuard 105 = .ok (.iload 6, 2) := by decide +kernel
theorem dX5_bestGuard_107 : decode cX5_bestGuard 107 = .ok (.istore 4, 2) := by decide +kernel
theorem dX5_bestGuard_109 : decode cX5_bestGuard 109 = .ok (.iload 5, 2) := by decide +kernel
theorem dX5_bestGuard_111 : decode cX5_bestGuard 111 = .ok (.istore_n 3, 1) := by decide +kernel
theorem dX5_bestGuard_112 : decode cX5_bestGuard 112 = .ok (.iinc 5 1, 3) := by decide +kernel
theorem dX5_bestGuard_115 : decode cX5_bestGuard 115 = .ok (.goto (-50), 3) := by decide +kernel
theorem dX5_bestGuard_118 : decode cX5_bestGuard 118 = .ok (.iload_n 2, 1) := by decide +kernel
theorem dX5_bestGuard_119 : decode cX5_bestGuard 119 = .ok (.ifCond .ne 8, 3) := by decide +kernel
theorem dX5_bestGuard_122 : decode cX5_bestGuard 122 = .ok (.iload 4, 2) := by decide +kernel
theorem dX5_bestGuard_124 : decode cX5_bestGuard 124 = .ok (.goto 15, 3) := by decide +kernel
theorem dX5_bestGuard_127 : decode cX5_bestGuard 127 = .ok (.iload_n 3, 1) := by decide +kernel
theorem dX5_bestGuard_128 : decode cX5_bestGuard 128 = .ok (.bipush 8, 2) := by decide +kernel
theorem dX5_bestGuard_130 : decode cX5_bestGuard 130 = .ok (.idiv, 1) := by decide +kernel
theorem dX5_bestGuard_131 : decode cX5_bestGuard 131 = .ok (.bipush 10, 2) := by decide +kernel
theorem dX5_bestGuard_133 : decode cX5_bestGuard 133 = .ok (.imul, 1) := by decide +kernel
theorem dX5_bestGuard_134 : decode cX5_bestGuard 134 = .ok (.iload_n 3, 1) := by decide +kernel
theorem dX5_bestGuard_135 : decode cX5_bestGuard 135 = .ok (.bipush 8, 2) := by decide +kernel
theorem dX5_bestGuard_137 : decode cX5_bestGuard 137 = .ok (.irem, 1) := by decide +kernel
theorem dX5_bestGuard_138 : decode cX5_bestGuard 138 = .ok (.iadd, 1) := by decide +kernel
theorem dX5_bestGuard_139 : decode cX5_bestGuard 139 = .ok (.ireturn, 1) := by decide +kernel
theorem dX5_markVisits_0 : decode cX5_markVisits 0 = .ok (.iconst 0, 1) := by decide +kernel
theorem dX5_markVisits_1 : decode cX5_markVisits 1 = .ok (.istore_n 2, 1) := by decide +kernel
theorem dX5_markVisits_2 : decode cX5_markVisits 2 = .ok (.iload_n 2, 1) := by decide +kernel
theorem dX5_markVisits_3 : decode cX5_markVisits 3 = .ok (.aload_n 0, 1) := by decide +kernel
theorem dX5_markVisits_4 : decode cX5_markVisits 4 = .ok (.getfield 21, 3) := by decide +kernel
theorem dX5_markVisits_7 : decode cX5_markVisits 7 = .ok (.getfield 111, 3) := by decide +kernel
theorem dX5_markVisits_10 : decode cX5_markVisits 10 = .ok (.iload_n 1, 1) := by decide +kernel
theorem dX5_markVisits_11 : decode cX5_markVisits 11 = .ok (.iaload, 1) := by decide +kernel
theorem dX5_markVisits_12 : decode cX5_markVisits 12 = .ok (.if_icmp .ge 59, 3) := by decide +kernel
theorem dX5_markVisits_15 : decode cX5_markVisits 15 = .ok (.aload_n 0, 1) := by decide +kernel
theorem dX5_markVisits_16 : decode cX5_markVisits 16 = .ok (.getfield 21, 3) := by decide +kernel
theorem dX5_markVisits_19 : decode cX5_markVisits 19 = .ok (.getfield 114, 3) := by decide +kernel
theorem dX5_markVisits_22 : decode cX5_markVisits 22 = .ok (.iload_n 1, 1) := by decide +kernel
theorem dX5_markVisits_23 : decode cX5_markVisits 23 = .ok (.aaload, 1) := by decide +kernel
theorem dX5_markVisits_24 : decode cX5_markVisits 24 = .ok (.iload_n 2, 1) := by decide +kernel
theorem dX5_markVisits_25 : decode cX5_markVisits 25 = .ok (.iaload, 1) := by decide +kernel
theorem dX5_markVisits_26 : decode cX5_markVisits 26 = .ok (.istore_n 3, 1) := by decide +kernel
theorem dX5_markVisits_27 : decode cX5_markVisits 27 = .ok (.iload_n 3, 1) := by decide +kernel
theorem dX5_markVisits_28 : decode cX5_markVisits 28 = .ok (.ifCond .lt 37, 3) := by decide +kernel
theorem dX5_markVisits_31 : decode cX5_markVisits 31 = .ok (.iload_n 3, 1) := by decide +kernel
theorem dX5_markVisits_32 : decode cX5_markVisits 32 = .ok (.sipush 400, 3) := by decide +kernel
theorem dX5_markVisits_35 : decode cX5_markVisits 35 = .ok (.if_icmp .gt 30, 3) := by decide +kernel
theorem dX5_markVisits_38 : decode cX5_markVisits 38 = .ok (.aload_n 0, 1) := by decide +kernel
theorem dX5_markVisits_39 : decode cX5_markVisits 39 = .ok (.getfield 18, 3) := by decide +kernel
theorem dX5_markVisits_42 : decode cX5_markVisits 42 = .ok (.iload_n 3, 1) := by decide +kernel
theorem dX5_markVisits_43 : decode cX5_markVisits 43 = .ok (.bipush 8, 2) := by decide +kernel
theorem dX5_markVisits_45 : decode cX5_markVisits 45 = .ok (.imul, 1) := by decide +kernel
theorem dX5_markVisits_46 : decode cX5_markVisits 46 = .ok (.aload_n 0, 1) := by decide +kernel
theorem dX5_markVisits_47 : decode cX5_markVisits 47 = .ok (.getfield 21, 3) := by decide +kernel
theorem dX5_markVisits_50 : decode cX5_markVisits 50 = .ok (.getfield 126, 3) := by decide +kernel
theorem dX5_markVisits_53 : decode cX5_markVisits 53 = .ok (.iload_n 1, 1) := by decide +kernel
theorem dX5_markVisits_54 : decode cX5_markVisits 54 = .ok (.aaload, 1) := by decide +kernel
theorem dX5_markVisits_55 : decode cX5_markVisits 55 = .ok (.iload_n 2, 1) := by decide +kernel
theorem dX5_markVisits_56 : decode cX5_markVisits 56 = .ok (.iaload, 1) := by decide +kernel
theorem dX5_markVisits_57 : decode cX5_markVisits 57 = .ok (.iadd, 1) := by decide +kernel
theorem dX5_markVisits_58 : decode cX5_markVisits 58 = .ok (.dup2, 1) := by decide +kernel
theorem dX5_markVisits_59 : decode cX5_markVisits 59 = .ok (.iaload, 1) := by decide +kernel
theorem dX5_markVisits_60 : decode cX5_markVisits 60 = .ok (.iconst 1, 1) := by decide +kernel
theorem dX5_markVisits_61 : decode cX5_markVisits 61 = .ok (.iload_n 1, 1) := by decide +kernel
theorem dX5_markVisits_62 : decode cX5_markVisits 62 = .ok (.ishl, 1) := by decide +kernel
theorem dX5_markVisits_63 : decode cX5_markVisits 63 = .ok (.ior, 1) := by decide +kernel
theorem dX5_markVisits_64 : decode cX5_markVisits 64 = .ok (.iastore, 1) := by decide +kernel
theorem dX5_markVisits_65 : decode cX5_markVisits 65 = .ok (.iinc 2 1, 3) := by decide +kernel
theorem dX5_markVisits_68 : decode cX5_markVisits 68 = .ok (.goto (-66), 3) := by decide +kernel
theorem dX5_markVisits_71 : decode cX5_markVisits 71 = .ok (.return_, 1) := by decide +kernel
theorem dX5_daysWithAny_0 : decode cX5_daysWithAny 0 = .ok (.iconst 0, 1) := by decide +kernel
theorem dX5_daysWithAny_1 : decode cX5_daysWithAny 1 = .ok (.istore_n 2, 1) := by decide +kernel
theorem dX5_daysWithAny_2 : decode cX5_daysWithAny 2 = .ok (.iconst 0, 1) := by decide +kernel
theorem dX5_daysWithAny_3 : decode cX5_daysWithAny 3 = .ok (.istore_n 3, 1) := by decide +kernel
theorem dX5_daysWithAny_4 : decode cX5_daysWithAny 4 = .ok (.iload_n 3, 1) := by decide +kernel
theorem dX5_daysWithAny_5 : decode cX5_daysWithAny 5 = .ok (.aload_n 0, 1) := by decide +kernel
theorem dX5_daysWithAny_6 : decode cX5_daysWithAny 6 = .ok (.getfield 25, 3) := by decide +kernel
theorem dX5_daysWithAny_9 : decode cX5_daysWithAny 9 = .ok (.getfield 29, 3) := by decide +kernel
theorem dX5_daysWithAny_12 : decode cX5_daysWithAny 12 = .ok (.if_icmp .ge 34, 3) := by decide +kernel
theorem dX5_daysWithAny_15 : decode cX5_daysWithAny 15 = .ok (.aload_n 0, 1) := by decide +kernel
theorem dX5_daysWithAny_16 : decode cX5_daysWithAny 16 = .ok (.getfield 25, 3) := by decide +kernel
theorem dX5_daysWithAny_19 : decode cX5_daysWithAny 19 = .ok (.getfield 83, 3) := by decide +kernel
theorem dX5_daysWithAny_22 : decode cX5_daysWithAny 22 = .ok (.aload_n 0, 1) := by decide +kernel
theorem dX5_daysWithAny_23 : decode cX5_daysWithAny 23 = .ok (.getfield 25, 3) := by decide +kernel
theorem dX5_daysWithAny_26 : decode cX5_daysWithAny 26 = .ok (.getfield 60, 3) := by decide +kernel
theorem dX5_daysWithAny_29 : decode cX5_daysWithAny 29 = .ok (.iload_n 3, 1) := by decide +kernel
theorem dX5_daysWithAny_30 : decode cX5_daysWithAny 30 = .ok (.iaload, 1) := by decide +kernel
theorem dX5_daysWithAny_31 : decode cX5_daysWithAny 31 = .ok (.iaload, 1) := by decide +kernel
theorem dX5_daysWithAny_32 : decode cX5_daysWithAny 32 = .ok (.iload_n 1, 1) := by decide +kernel
theorem dX5_daysWithAny_33 : decode cX5_daysWithAny 33 = .ok (.iand, 1) := by decide +kernel
theorem dX5_daysWithAny_34 : decode cX5_daysWithAny 34 = .ok (.ifCond .eq 6, 3) := by decide +kernel
theorem dX5_daysWithAny_37 : decode cX5_daysWithAny 37 = .ok (.iinc 2 1, 3) := by decide +kernel
theorem dX5_daysWithAny_40 : decode cX5_daysWithAny 40 = .ok (.iinc 3 1, 3) := by decide +kernel
theorem dX5_daysWithAny_43 : decode cX5_daysWithAny 43 = .ok (.goto (-39), 3) := by decide +kernel
theorem dX5_daysWithAny_46 : decode cX5_daysWithAny 46 = .ok (.iload_n 2, 1) := by decide +kernel
theorem dX5_daysWithAny_47 : decode cX5_daysWithAny 47 = .ok (.ireturn, 1) := by decide +kernel
theorem dX6_init_0 : decode cX6_init 0 = .ok (.aload_n 0, 1) := by decide +kernel
theorem dX6_init_1 : decode cX6_init 1 = .ok (.invokespecial 3, 3) := by decide +kernel
theorem dX6_init_4 : decode cX6_init 4 = .ok (.aload_n 0, 1) := by decide +kernel
theorem dX6_init_5 : decode cX6_init 5 = .ok (.iconst (-1), 1) := by decide +kernel
theorem dX6_init_6 : decode cX6_init 6 = .ok (.putfield 11, 3) := by decide +kernel
theorem dX6_init_9 : decode cX6_init 9 = .ok (.aload_n 0, 1) := by decide +kernel
theorem dX6_init_10 : decode cX6_init 10 = .ok (.bipush 60, 2) := by decide +kernel
theorem dX6_init_12 : decode cX6_init 12 = .ok (.newarray .long, 2) := by decide +kernel
theorem dX6_init_14 : decode cX6_init 14 = .ok (.putfield 15, 3) := by decide +kernel
theorem dX6_init_17 : decode cX6_init 17 = .ok (.return_, 1) := by decide +kernel
theorem dX6_clear_0 : decode cX6_clear 0 = .ok (.aload_n 0, 1) := by decide +kernel
theorem dX6_clear_1 : decode cX6_clear 1 = .ok (.iconst (-1), 1) := by decide +kernel
theorem dX6_clear_2 : decode cX6_clear 2 = .ok (.putfield 11, 3) := by decide +kernel
theorem dX6_clear_5 : decode cX6_clear 5 = .ok (.aload_n 0, 1) := by decide +kernel
theorem dX6_clear_6 : decode cX6_clear 6 = .ok (.iconst 0, 1) := by decide +kernel
theorem dX6_clear_7 : decode cX6_clear 7 = .ok (.putfield 19, 3) := by decide +kernel
theorem dX6_clear_10 : decode cX6_clear 10 = .ok (.return_, 1) := by decide +kernel
theorem dX6_holdBody_0 : decode cX6_holdBody 0 = .ok (.aload_n 0, 1) := by decide +kernel
theorem dX6_holdBody_1 : decode cX6_holdBody 1 = .ok (.iconst 5, 1) := by decide +kernel
theorem dX6_holdBody_2 : decode cX6_holdBody 2 = .ok (.putfield 11, 3) := by decide +kernel
theorem dX6_holdBody_5 : decode cX6_holdBody 5 = .ok (.aload_n 0, 1) := by decide +kernel
theorem dX6_holdBody_6 : decode cX6_holdBody 6 = .ok (.iconst 0, 1) := by decide +kernel
theorem dX6_holdBody_7 : decode cX6_holdBody 7 = .ok (.putfield 19, 3) := by decide +kernel
theorem dX6_holdBody_10 : decode cX6_holdBody 10 = .ok (.aload_n 0, 1) := by decide +kernel
theorem dX6_holdBody_11 : decode cX6_holdBody 11 = .ok (.iload_n 1, 1) := by decide +kernel
theorem dX6_holdBody_12 : decode cX6_holdBody 12 = .ok (.putfield 22, 3) := by decide +kernel
theorem dX6_holdBody_15 : decode cX6_holdBody 15 = .ok (.return_, 1) := by decide +kernel
theorem dX6_holdRow_0 : decode cX6_holdRow 0 = .ok (.aload_n 0, 1) := by decide +kernel
theorem dX6_holdRow_1 : decode cX6_holdRow 1 = .ok (.iload_n 1, 1) := by decide +kernel
theorem dX6_holdRow_2 : decode cX6_holdRow 2 = .ok (.putfield 11, 3) := by decide +kernel
theorem dX6_holdRow_5 : decode cX6_holdRow 5 = .ok (.aload_n 0, 1) := by decide +kernel
theorem dX6_holdRow_6 : decode cX6_holdRow 6 = .ok (.iload_n 2, 1) := by decide +kernel
theorem dX6_holdRow_7 : decode cX6_holdRow 7 = .ok (.putfield 19, 3) := by decide +kernel
theorem dX6_holdRow_10 : decode cX6_holdRow 10 = .ok (.aload_n 0, 1) := by decide +kernel
theorem dX6_holdRow_11 : decode cX6_holdRow 11 = .ok (.getfield 15, 3) := by decide +kernel
theorem dX6_holdRow_14 : decode cX6_holdRow 14 = .ok (.lconst 0, 1) := by decide +kernel
theorem dX6_holdRow_15 : decode cX6_holdRow 15 = .ok (.invokestatic 25, 3) := by decide +kernel
theorem dX6_holdRow_18 : decode cX6_holdRow 18 = .ok (.return_, 1) := by decide +kernel
theorem dX6_refusalOfRow_0 : decode cX6_refusalOfRow 0 = .ok (.aload_n 0, 1) := by decide +kernel
theorem dX6_refusalOfRow_1 : decode cX6_refusalOfRow 1 = .ok (.getfield 11, 3) := by decide +kernel
theorem dX6_refusalOfRow_4 : decode cX6_refusalOfRow 4 = .ok (.iconst (-1), 1) := by decide +kernel
theorem dX6_refusalOfRow_5 : decode cX6_refusalOfRow 5 = .ok (.if_icmp .ne 6, 3) := by decide +kernel
theorem dX6_refusalOfRow_8 : decode cX6_refusalOfRow 8 = .ok (.bipush (-11), 2) := by decide +kernel
theorem dX6_refusalOfRow_10 : decode cX6_refusalOfRow 10 = .ok (.ireturn, 1) := by decide +kernel
theorem dX6_refusalOfRow_11 : decode cX6_refusalOfRow 11 = .ok (.aload_n 0, 1) := by decide +kernel
theorem dX6_refusalOfRow_12 : decode cX6_refusalOfRow 12 = .ok (.getfield 11, 3) := by decide +kernel
theorem dX6_refusalOfRow_15 : decode cX6_refusalOfRow 15 = .ok (.iconst 5, 1) := by decide +kernel
theorem dX6_refusalOfRow_16 : decode cX6_refusalOfRow 16 = .ok (.if_icmp .ne 8, 3) := by decide +kernel
theorem dX6_refusalOfRow_19 : decode cX6_refusalOfRow 19 = .ok (.bipush (-12), 2) := by decide +kernel
theorem dX6_refusalOfRow_21 : decode cX6_refusalOfRow 21 = .ok (.goto 4, 3) := by decide +kernel
theorem dX6_refusalOfRow_24 : decode cX6_refusalOfRow 24 = .ok (.iconst 0, 1) := by decide +kernel
theorem dX6_refusalOfRow_25 : decode cX6_refusalOfRow 25 = .ok (.ireturn, 1) := by decide +kernel
theorem dX6_refusalOfSort_0 : decode cX6_refusalOfSort 0 = .ok (.aload_n 0, 1) := by decide +kernel
theorem dX6_refusalOfSort_1 : decode cX6_refusalOfSort 1 = .ok (.getfield 11, 3) := by decide +kernel
theorem dX6_refusalOfSort_4 : decode cX6_refusalOfSort 4 = .ok (.iconst (-1), 1) := by decide +kernel
theorem dX6_refusalOfSort_5 : decode cX6_refusalOfSort 5 = .ok (.if_icmp .ne 6, 3) := by decide +kernel
theorem dX6_refusalOfSort_8 : decode cX6_refusalOfSort 8 = .ok (.bipush (-11), 2) := by decide +kernel
theorem dX6_refusalOfSort_10 : decode cX6_refusalOfSort 10 = .ok (.ireturn, 1) := by decide +kernel
theorem dX6_refusalOfSort_11 : decode cX6_refusalOfSort 11 = .ok (.aload_n 0, 1) := by decide +kernel
theorem dX6_refusalOfSort_12 : decode cX6_refusalOfSort 12 = .ok (.getfield 11, 3) := by decide +kernel
theorem dX6_refusalOfSort_15 : decode cX6_refusalOfSort 15 = .ok (.iload_n 1, 1) := by decide +kernel
theorem dX6_refusalOfSort_16 : decode cX6_refusalOfSort 16 = .ok (.if_icmp .ne 7, 3) := by decide +kernel
theorem dX6_refusalOfSort_19 : decode cX6_refusalOfSort 19 = .ok (.iconst 0, 1) := by decide +kernel
theorem dX6_refusalOfSort_20 : decode cX6_refusalOfSort 20 = .ok (.goto 5, 3) := by decide +kernel
theorem dX6_refusalOfSort_23 : decode cX6_refusalOfSort 23 = .ok (.bipush (-12), 2) := by decide +kernel
theorem dX6_refusalOfSort_25 : decode cX6_refusalOfSort 25 = .ok (.ireturn, 1) := by decide +kernel
theorem dX6_hasPlaces_0 : decode cX6_hasPlaces 0 = .ok (.iload_n 1, 1) := by decide +kernel
theorem dX6_hasPlaces_1 : decode cX6_hasPlaces 1 = .ok (.ifCond .lt 29, 3) := by decide +kernel
theorem dX6_hasPlaces_4 : decode cX6_hasPlaces 4 = .ok (.iload_n 2, 1) := by decide +kernel
theorem dX6_hasPlaces_5 : decode cX6_hasPlaces 5 = .ok (.ifCond .lt 25, 3) := by decide +kernel
theorem dX6_hasPlaces_8 : decode cX6_hasPlaces 8 = .ok (.iload_n 1, 1) := by decide +kernel
theorem dX6_hasPlaces_9 : decode cX6_hasPlaces 9 = .ok (.aload_n 0, 1) := by decide +kernel
theorem dX6_hasPlaces_10 : decode cX6_hasPlaces 10 = .ok (.getfield 19, 3) := by decide +kernel
theorem dX6_hasPlaces_13 : decode cX6_hasPlaces 13 = .ok (.if_icmp .gt 17, 3) := by decide +kernel
theorem dX6_hasPlaces_16 : decode cX6_hasPlaces 16 = .ok (.iload_n 2, 1) := by decide +kernel
theorem dX6_hasPlaces_17 : decode cX6_hasPlaces 17 = .ok (.aload_n 0, 1) := by decide +kernel
theorem dX6_hasPlaces_18 : decode cX6_hasPlaces 18 = .ok (.getfield 19, 3) := by decide +kernel
theorem dX6_hasPlaces_21 : decode cX6_hasPlaces 21 = .ok (.iload_n 1, 1) := by decide +kernel
theorem dX6_hasPlaces_22 : decode cX6_hasPlaces 22 = .ok (.isub, 1) := by decide +kernel
theorem dX6_hasPlaces_23 : decode cX6_hasPlaces 23 = .ok (.if_icmp .gt 7, 3) := by decide +kernel
theorem dX6_hasPlaces_26 : decode cX6_hasPlaces 26 = .ok (.iconst 1, 1) := by decide +kernel
theorem dX6_hasPlaces_27 : decode cX6_hasPlaces 27 = .ok (.goto 4, 3) := by decide +kernel
theorem dX6_hasPlaces_30 : decode cX6_hasPlaces 30 = .ok (.iconst 0, 1) := by decide +kernel
theorem dX6_hasPlaces_31 : decode cX6_hasPlaces 31 = .ok (.ireturn, 1) := by decide +kernel
theorem dX6_set_0 : decode cX6_set 0 = .ok (.aload_n 0, 1) := by decide +kernel
theorem dX6_set_1 : decode cX6_set 1 = .ok (.getfield 15, 3) := by decide +kernel
theorem dX6_set_4 : decode cX6_set 4 = .ok (.iload_n 1, 1) := by decide +kernel
theorem dX6_set_5 : decode cX6_set 5 = .ok (.aload_n 0, 1) := by decide +kernel
theorem dX6_set_6 : decode cX6_set 6 = .ok (.lload_n 2, 1) := by decide +kernel
theorem dX6_set_7 : decode cX6_set 7 = .ok (.invokevirtual 31, 3) := by decide +kernel
theorem dX6_set_10 : decode cX6_set 10 = .ok (.lastore, 1) := by decide +kernel
theorem dX6_set_11 : decode cX6_set 11 = .ok (.return_, 1) := by decide +kernel
theorem dX6_trimmed_0 : decode cX6_trimmed 0 = .ok (.aload_n 0, 1) := by decide +kernel
theorem dX6_trimmed_1 : decode cX6_trimmed 1 = .ok (.getfield 11, 3) := by decide +kernel
theorem dX6_trimmed_4 : decode cX6_trimmed 4 = .ok (.tableswitch 62 0 4 #[36, 41, 46, 62, 50], 36) := by decide +kernel
theorem dX6_trimmed_40 : decode cX6_trimmed 40 = .ok (.lload_n 1, 1) := by decide +kernel
theorem dX6_trimmed_41 : decode cX6_trimmed 41 = .ok (.l2i, 1) := by decide +kernel
theorem dX6_trimmed_42 : decode cX6_trimmed 42 = .ok (.i2b, 1) := by decide +kernel
theorem dX6_trimmed_43 : decode cX6_trimmed 43 = .ok (.i2l, 1) := by decide +kernel
theorem dX6_trimmed_44 : decode cX6_trimmed 44 = .ok (.lreturn, 1) := by decide +kernel
theorem dX6_trimmed_45 : decode cX6_trimmed 45 = .ok (.lload_n 1, 1) := by decide +kernel
theorem dX6_trimmed_46 : decode cX6_trimmed 46 = .ok (.l2i, 1) := by decide +kernel
theorem dX6_trimmed_47 : decode cX6_trimmed 47 = .ok (.i2s, 1) := by decide +kernel
theorem dX6_trimmed_48 : decode cX6_trimmed 48 = .ok (.i2l, 1) := by decide +kernel
theorem dX6_trimmed_49 : decode cX6_trimmed 49 = .ok (.lreturn, 1) := by decide +kernel
theorem dX6_trimmed_50 : decode cX6_trimmed 50 = .ok (.lload_n 1, 1) := by decide +kernel
theorem dX6_trimmed_51 : decode cX6_trimmed 51 = .ok (.l2i, 1) := by decide +kernel
theorem dX6_trimmed_52 : decode cX6_trimmed 52 = .ok (.i2l, 1) := by decide +kernel
theorem dX6_trimmed_53 : decode cX6_trimmed 53 = .ok (.lreturn, 1) := by decide +kernel
theorem dX6_trimmed_54 : decode cX6_trimmed 54 = .ok (.lload_n 1, 1) := by decide +kernel
theorem dX6_trimmed_55 : decode cX6_trimmed 55 = .ok (.lconst 0, 1) := by decide +kernel
theorem dX6_trimmed_56 : decode cX6_trimmed 56 = .ok (.lcmp, 1) := by decide +kernel
theorem dX6_trimmed_57 : decode cX6_trimmed 57 = .ok (.ifCond .eq 7, 3) := by decide +kernel
theorem dX6_trimmed_60 : decode cX6_trimmed 60 = .ok (.lconst 1, 1) := by decide +kernel
theorem dX6_trimmed_61 : decode cX6_trimmed 61 = .ok (.goto 4, 3) := by decide +kernel
theorem dX6_trimmed_64 : decode cX6_trimmed 64 = .ok (.lconst 0, 1) := by decide +kernel
theorem dX6_trimmed_65 : decode cX6_trimmed 65 = .ok (.lreturn, 1) := by decide +kernel
theorem dX6_trimmed_66 : decode cX6_trimmed 66 = .ok (.lload_n 1, 1) := by decide +kernel
theorem dX6_trimmed_67 : decode cX6_trimmed 67 = .ok (.lreturn, 1) := by decide +kernel
theorem dX6_tellsPlaces_0 : decode cX6_tellsPlaces 0 = .ok (.aload_n 0, 1) := by decide +kernel
theorem dX6_tellsPlaces_1 : decode cX6_tellsPlaces 1 = .ok (.iload_n 1, 1) := by decide +kernel
theorem dX6_tellsPlaces_2 : decode cX6_tellsPlaces 2 = .ok (.iload_n 2, 1) := by decide +kernel
theorem dX6_tellsPlaces_3 : decode cX6_tellsPlaces 3 = .ok (.invokevirtual 35, 3) := by decide +kernel
theorem dX6_tellsPlaces_6 : decode cX6_tellsPlaces 6 = .ok (.ifCond .ne 5, 3) := by decide +kernel
theorem dX6_tellsPlaces_9 : decode cX6_tellsPlaces 9 = .ok (.iconst 0, 1) := by decide +kernel
theorem dX6_tellsPlaces_10 : decode cX6_tellsPlaces 10 = .ok (.ireturn, 1) := by decide +kernel
theorem dX6_tellsPlaces_11 : decode cX6_tellsPlaces 11 = .ok (.iload_n 1, 1) := by decide +kernel
theorem dX6_tellsPlaces_12 : decode cX6_tellsPlaces 12 = .ok (.istore_n 3, 1) := by decide +kernel
theorem dX6_tellsPlaces_13 : decode cX6_tellsPlaces 13 = .ok (.iload_n 3, 1) := by decide +kernel
theorem dX6_tellsPlaces_14 : decode cX6_tellsPlaces 14 = .ok (.iload_n 1, 1) := by decide +kernel
theorem dX6_tellsPlaces_15 : decode cX6_tellsPlaces 15 = .ok (.iload_n 2, 1) := by decide +kernel
theorem dX6_tellsPlaces_16 : decode cX6_tellsPlaces 16 = .ok (.iadd, 1) := by decide +kernel
theorem dX6_tellsPlaces_17 : decode cX6_tellsPlaces 17 = .ok (.if_icmp .ge 35, 3) := by decide +kernel
theorem dX6_tellsPlaces_20 : decode cX6_tellsPlaces 20 = .ok (.aload_n 0, 1) := by decide +kernel
theorem dX6_tellsPlaces_21 : decode cX6_tellsPlaces 21 = .ok (.getfield 15, 3) := by decide +kernel
theorem dX6_tellsPlaces_24 : decode cX6_tellsPlaces 24 = .ok (.iload_n 3, 1) := by decide +kernel
theorem dX6_tellsPlaces_25 : decode cX6_tellsPlaces 25 = .ok (.laload, 1) := by decide +kernel
theorem dX6_tellsPlaces_26 : decode cX6_tellsPlaces 26 = .ok (.lconst 0, 1) := by decide +kernel
theorem dX6_tellsPlaces_27 : decode cX6_tellsPlaces 27 = .ok (.lcmp, 1) := by decide +kernel
theorem dX6_tellsPlaces_28 : decode cX6_tellsPlaces 28 = .ok (.ifCond .lt 16, 3) := by decide +kernel
theorem dX6_tellsPlaces_31 : decode cX6_tellsPlaces 31 = .ok (.aload_n 0, 1) := by decide +kernel
theorem dX6_tellsPlaces_32 : decode cX6_tellsPlaces 32 = .ok (.getfield 15, 3) := by decide +kernel
theorem dX6_tellsPlaces_35 : decode cX6_tellsPlaces 35 = .ok (.iload_n 3, 1) := by decide +kernel
theorem dX6_tellsPlaces_36 : decode cX6_tellsPlaces 36 = .ok (.laload, 1) := by decide +kernel
theorem dX6_tellsPlaces_37 : decode cX6_tellsPlaces 37 = .ok (.ldc2_w 39, 3) := by decide +kernel
theorem dX6_tellsPlaces_40 : decode cX6_tellsPlaces 40 = .ok (.lcmp, 1) := by decide +kernel
theorem dX6_tellsPlaces_41 : decode cX6_tellsPlaces 41 = .ok (.ifCond .lt 5, 3) := by decide +kernel
theorem dX6_tellsPlaces_44 : decode cX6_tellsPlaces 44 = .ok (.iconst 0, 1) := by decide +kernel
theorem dX6_tellsPlaces_45 : decode cX6_tellsPlaces 45 = .ok (.ireturn, 1) := by decide +kernel
theorem dX6_tellsPlaces_46 : decode cX6_tellsPlaces 46 = .ok (.iinc 3 1, 3) := by decide +kernel
theorem dX6_tellsPlaces_49 : decode cX6_tellsPlaces 49 = .ok (.goto (-36), 3) := by decide +kernel
theorem dX6_tellsPlaces_52 : decode cX6_tellsPlaces 52 = .ok (.iconst 1, 1) := by decide +kernel
theorem dX6_tellsPlaces_53 : decode cX6_tellsPlaces 53 = .ok (.ireturn, 1) := by decide +kernel
theorem dX6_tellsTracks_0 : decode cX6_tellsTracks 0 = .ok (.aload_n 0, 1) := by decide +kernel
theorem dX6_tellsTracks_1 : decode cX6_tellsTracks 1 = .ok (.getfield 19, 3) := by decide +kernel
theorem dX6_tellsTracks_4 : decode cX6_tellsTracks 4 = .ok (.iconst 3, 1) := by decide +kernel
theorem dX6_tellsTracks_5 : decode cX6_tellsTracks 5 = .ok (.irem, 1) := by decide +kernel
theorem dX6_tellsTracks_6 : decode cX6_tellsTracks 6 = .ok (.ifCond .eq 5, 3) := by decide +kernel
theorem dX6_tellsTracks_9 : decode cX6_tellsTracks 9 = .ok (.iconst 0, 1) := by decide +kernel
theorem dX6_tellsTracks_10 : decode cX6_tellsTracks 10 = .ok (.ireturn, 1) := by decide +kernel
theorem dX6_tellsTracks_11 : decode cX6_tellsTracks 11 = .ok (.iconst 0, 1) := by decide +kernel
theorem dX6_tellsTracks_12 : decode cX6_tellsTracks 12 = .ok (.istore_n 1, 1) := by decide +kernel
theorem dX6_tellsTracks_13 : decode cX6_tellsTracks 13 = .ok (.iload_n 1, 1) := by decide +kernel
theorem dX6_tellsTracks_14 : decode cX6_tellsTracks 14 = .ok (.iconst 2, 1) := by decide +kernel
theorem dX6_tellsTracks_15 : decode cX6_tellsTracks 15 = .ok (.iadd, 1) := by decide +kernel
theorem dX6_tellsTracks_16 : decode cX6_tellsTracks 16 = .ok (.aload_n 0, 1) := by decide +kernel
theorem dX6_tellsTracks_17 : decode cX6_tellsTracks 17 = .ok (.getfield 19, 3) := by decide +kernel
theorem dX6_tellsTracks_20 : decode cX6_tellsTracks 20 = .ok (.if_icmp .ge 68, 3) := by decide +kernel
theorem dX6_tellsTracks_23 : decode cX6_tellsTracks 23 = .ok (.aload_n 0, 1) := by decide +kernel
theorem dX6_tellsTracks_24 : decode cX6_tellsTracks 24 = .ok (.getfield 15, 3) := by decide +kernel
theorem dX6_tellsTracks_27 : decode cX6_tellsTracks 27 = .ok (.iload_n 1, 1) := by decide +kernel
theorem dX6_tellsTracks_28 : decode cX6_tellsTracks 28 = .ok (.laload, 1) := by decide +kernel
theorem dX6_tellsTracks_29 : decode cX6_tellsTracks 29 = .ok (.bipush 7, 2) := by decide +kernel
theorem dX6_tellsTracks_31 : decode cX6_tellsTracks 31 = .ok (.invokestatic 41, 3) := by decide +kernel
theorem dX6_tellsTracks_34 : decode cX6_tellsTracks 34 = .ok (.ifCond .eq 40, 3) := by decide +kernel
theorem dX6_tellsTracks_37 : decode cX6_tellsTracks 37 = .ok (.aload_n 0, 1) := by decide +kernel
theorem dX6_tellsTracks_38 : decode cX6_tellsTracks 38 = .ok (.getfield 15, 3) := by decide +kernel
theorem dX6_tellsTracks_41 : decode cX6_tellsTracks 41 = .ok (.iload_n 1, 1) := by decide +kernel
theorem dX6_tellsTracks_42 : decode cX6_tellsTracks 42 = .ok (.iconst 1, 1) := by decide +kernel
theorem dX6_tellsTracks_43 : decode cX6_tellsTracks 43 = .ok (.iadd, 1) := by decide +kernel
theorem dX6_tellsTracks_44 : decode cX6_tellsTracks 44 = .ok (.laload, 1) := by decide +kernel
theorem dX6_tellsTracks_45 : decode cX6_tellsTracks 45 = .ok (.sipush 999, 3) := by decide +kernel
theorem dX6_tellsTracks_48 : decode cX6_tellsTracks 48 = .ok (.invokestatic 41, 3) := by decide +kernel
theorem dX6_tellsTracks_51 : decode cX6_tellsTracks 51 = .ok (.ifCond .eq 23, 3) := by decide +kernel
theorem dX6_tellsTracks_54 : decode cX6_tellsTracks 54 = .ok (.aload_n 0, 1) := by decide +kernel
theorem dX6_tellsTracks_55 : decode cX6_tellsTracks 55 = .ok (.getfield 15, 3) := by decide +kernel
theorem dX6_tellsTracks_58 : decode cX6_tellsTracks 58 = .ok (.iload_n 1, 1) := by decide +kernel
theorem dX6_tellsTracks_59 : decode cX6_tellsTracks 59 = .ok (.iconst 2, 1) := by decide +kernel
theorem dX6_tellsTracks_60 : decode cX6_tellsTracks 60 = .ok (.iadd, 1) := by decide +kernel
theorem dX6_tellsTracks_61 : decode cX6_tellsTracks 61 = .ok (.laload, 1) := by decide +kernel
theorem dX6_tellsTracks_62 : decode cX6_tellsTracks 62 = .ok (.bipush 31, 2) := by decide +kernel
theorem dX6_tellsTracks_64 : decode cX6_tellsTracks 64 = .ok (.invokestatic 41, 3) := by decide +kernel
theorem dX6_tellsTracks_67 : decode cX6_tellsTracks 67 = .ok (.ifCond .eq 7, 3) := by decide +kernel
theorem dX6_tellsTracks_70 : decode cX6_tellsTracks 70 = .ok (.iconst 1, 1) := by decide +kernel
theorem dX6_tellsTracks_71 : decode cX6_tellsTracks 71 = .ok (.goto 4, 3) := by decide +kernel
theorem dX6_tellsTracks_74 : decode cX6_tellsTracks 74 = .ok (.iconst 0, 1) := by decide +kernel
theorem dX6_tellsTracks_75 : decode cX6_tellsTracks 75 = .ok (.istore_n 2, 1) := by decide +kernel
theorem dX6_tellsTracks_76 : decode cX6_tellsTracks 76 = .ok (.iload_n 2, 1) := by decide +kernel
theorem dX6_tellsTracks_77 : decode cX6_tellsTracks 77 = .ok (.ifCond .ne 5, 3) := by decide +kernel
theorem dX6_tellsTracks_80 : decode cX6_tellsTracks 80 = .ok (.iconst 0, 1) := by decide +kernel
theorem dX6_tellsTracks_81 : decode cX6_tellsTracks 81 = .ok (.ireturn, 1) := by decide +kernel
theorem dX6_tellsTracks_82 : decode cX6_tellsTracks 82 = .ok (.iinc 1 3, 3) := by decide +kernel
theorem dX6_tellsTracks_85 : decode cX6_tellsTracks 85 = .ok (.goto (-72), 3) := by decide +kernel
theorem dX6_tellsTracks_88 : decode cX6_tellsTracks 88 = .ok (.iconst 1, 1) := by decide +kernel
theorem dX6_tellsTracks_89 : decode cX6_tellsTracks 89 = .ok (.ireturn, 1) := by decide +kernel
theorem dX6_isWithin_0 : decode cX6_isWithin 0 = .ok (.lload_n 0, 1) := by decide +kernel
theorem dX6_isWithin_1 : decode cX6_isWithin 1 = .ok (.lconst 0, 1) := by decide +kernel
theorem dX6_isWithin_2 : decode cX6_isWithin 2 = .ok (.lcmp, 1) := by decide +kernel
theorem dX6_isWithin_3 : decode cX6_isWithin 3 = .ok (.ifCond .lt 14, 3) := by decide +kernel
theorem dX6_isWithin_6 : decode cX6_isWithin 6 = .ok (.lload_n 0, 1) := by decide +kernel
theorem dX6_isWithin_7 : decode cX6_isWithin 7 = .ok (.iload_n 2, 1) := by decide +kernel
theorem dX6_isWithin_8 : decode cX6_isWithin 8 = .ok (.i2l, 1) := by decide +kernel
theorem dX6_isWithin_9 : decode cX6_isWithin 9 = .ok (.lcmp, 1) := by decide +kernel
theorem dX6_isWithin_10 : decode cX6_isWithin 10 = .ok (.ifCond .gt 7, 3) := by decide +kernel
theorem dX6_isWithin_13 : decode cX6_isWithin 13 = .ok (.iconst 1, 1) := by decide +kernel
theorem dX6_isWithin_14 : decode cX6_isWithin 14 = .ok (.goto 4, 3) := by decide +kernel
theorem dX6_isWithin_17 : decode cX6_isWithin 17 = .ok (.iconst 0, 1) := by decide +kernel
theorem dX6_isWithin_18 : decode cX6_isWithin 18 = .ok (.ireturn, 1) := by decide +kernel
theorem dX7_init_0 : decode cX7_init 0 = .ok (.aload_n 0, 1) := by decide +kernel
theorem dX7_init_1 : decode cX7_init 1 = .ok (.invokespecial 3, 3) := by decide +kernel
theorem dX7_init_4 : decode cX7_init 4 = .ok (.aload_n 0, 1) := by decide +kernel
theorem dX7_init_5 : decode cX7_init 5 = .ok (.iconst 5, 1) := by decide +kernel
theorem dX7_init_6 : decode cX7_init 6 = .ok (.newarray .int, 2) := by decide +kernel
theorem dX7_init_8 : decode cX7_init 8 = .ok (.putfield 9, 3) := by decide +kernel
theorem dX7_init_11 : decode cX7_init 11 = .ok (.aload_n 0, 1) := by decide +kernel
theorem dX7_init_12 : decode cX7_init 12 = .ok (.aload_n 1, 1) := by decide +kernel
theorem dX7_init_13 : decode cX7_init 13 = .ok (.putfield 15, 3) := by decide +kernel
theorem dX7_init_16 : decode cX7_init 16 = .ok (.aload_n 0, 1) := by decide +kernel
theorem dX7_init_17 : decode cX7_init 17 = .ok (.aload_n 2, 1) := by decide +kernel
theorem dX7_init_18 : decode cX7_init 18 = .ok (.putfield 19, 3) := by decide +kernel
theorem dX7_init_21 : decode cX7_init 21 = .ok (.return_, 1) := by decide +kernel
theorem dX7_bestLead_0 : decode cX7_bestLead 0 = .ok (.aload_n 0, 1) := by decide +kernel
theorem dX7_bestLead_1 : decode cX7_bestLead 1 = .ok (.getfield 19, 3) := by decide +kernel
theorem dX7_bestLead_4 : decode cX7_bestLead 4 = .ok (.invokevirtual 23, 3) := by decide +kernel
theorem dX7_bestLead_7 : decode cX7_bestLead 7 = .ok (.istore_n 3, 1) := by decide +kernel
theorem dX7_bestLead_8 : decode cX7_bestLead 8 = .ok (.aload_n 0, 1) := by decide +kernel
theorem dX7_bestLead_9 : decode cX7_bestLead 9 = .ok (.getfield 15, 3) := by decide +kernel
theorem dX7_bestLead_12 : decode cX7_bestLead 12 = .ok (.iload_n 1, 1) := by decide +kernel
theorem dX7_bestLead_13 : decode cX7_bestLead 13 = .ok (.invokevirtual 29, 3) := by decide +kernel
theorem dX7_bestLead_16 : decode cX7_bestLead 16 = .ok (.istore 4, 2) := by decide +kernel
theorem dX7_bestLead_18 : decode cX7_bestLead 18 = .ok (.bipush (-2), 2) := by decide +kernel
theorem dX7_bestLead_20 : decode cX7_bestLead 20 = .ok (.istore 5, 2) := by decide +kernel
theorem dX7_bestLead_22 : decode cX7_bestLead 22 = .ok (.bipush (-2), 2) := by decide +kernel
theorem dX7_bestLead_24 : decode cX7_bestLead 24 = .ok (.istore 6, 2) := by decide +kernel
theorem dX7_bestLead_26 : decode cX7_bestLead 26 = .ok (.iconst 0, 1) := by decide +kernel
theorem dX7_bestLead_27 : decode cX7_bestLead 27 = .ok (.istore 7, 2) := by decide +kernel
theorem dX7_bestLead_29 : decode cX7_bestLead 29 = .ok (.iload 7, 2) := by decide +kernel
theorem dX7_bestLead_31 : decode cX7_bestLead 31 = .ok (.bipush 60, 2) := by decide +kernel
theorem dX7_bestLead_33 : decode cX7_bestLead 33 = .ok (.if_icmp .gt 98, 3) := by decide +kernel
theorem dX7_bestLead_36 : decode cX7_bestLead 36 = .ok (.aload_n 0, 1) := by decide +kernel
theorem dX7_bestLead_37 : decode cX7_bestLead 37 = .ok (.getfield 15, 3) := by decide +kernel
theorem dX7_bestLead_40 : decode cX7_bestLead 40 = .ok (.iload_n 1, 1) := by decide +kernel
theorem dX7_bestLead_41 : decode cX7_bestLead 41 = .ok (.iload 7, 2) := by decide +kernel
theorem dX7_bestLead_43 : decode cX7_bestLead 43 = .ok (.invokevirtual 35, 3) := by decide +kernel
theorem dX7_bestLead_46 : decode cX7_bestLead 46 = .ok (.aload_n 0, 1) := by decide +kernel
theorem dX7_bestLead_47 : decode cX7_bestLead 47 = .ok (.getfield 19, 3) := by decide +kernel
theorem dX7_bestLead_50 : decode cX7_bestLead 50 = .ok (.invokevirtual 39, 3) := by decide +kernel
theorem dX7_bestLead_53 : decode cX7_bestLead 53 = .ok (.istore 8, 2) := by decide +kernel
theorem dX7_bestLead_55 : decode cX7_bestLead 55 = .ok (.iload_n 3, 1) := by decide +kernel
theorem dX7_bestLead_56 : decode cX7_bestLead 56 = .ok (.ifCond .eq 11, 3) := by decide +kernel
theorem dX7_bestLead_59 : decode cX7_bestLead 59 = .ok (.aload_n 0, 1) := by decide +kernel
theorem dX7_bestLead_60 : decode cX7_bestLead 60 = .ok (.getfield 19, 3) := by decide +kernel
theorem dX7_bestLead_63 : decode cX7_bestLead 63 = .ok (.iload_n 1, 1) := by decide +kernel
theorem dX7_bestLead_64 : decode cX7_bestLead 64 = .ok (.invokevirtual 42, 3) := by decide +kernel
theorem dX7_bestLead_67 : decode cX7_bestLead 67 = .ok (.iload 8, 2) := by decide +kernel
theorem dX7_bestLead_69 : decode cX7_bestLead 69 = .ok (.ifCond .ne 7, 3) := by decide +kernel
theorem dX7_bestLead_72 : decode cX7_bestLead 72 = .ok (.iload_n 3, 1) := by decide +kernel
theorem dX7_bestLead_73 : decode cX7_bestLead 73 = .ok (.ifCond .eq 10, 3) := by decide +kernel
theorem dX7_bestLead_76 : decode cX7_bestLead 76 = .ok (.aload_n 0, 1) := by decide +kernel
theorem dX7_bestLead_77 : decode cX7_bestLead 77 = .ok (.getfield 19, 3) := by decide +kernel
theorem dX7_bestLead_80 : decode cX7_bestLead 80 = .ok (.invokevirtual 46, 3) := by decide +kernel
theorem dX7_bestLead_83 : decode cX7_bestLead 83 = .ok (.aload_n 0, 1) := by decide +kernel
theorem dX7_bestLead_84 : decode cX7_bestLead 84 = .ok (.getfield 19, 3) := by decide +kernel
theorem dX7_bestLead_87 : decode cX7_bestLead 87 = .ok (.getfield 49, 3) := by decide +kernel
theorem dX7_bestLead_90 : decode cX7_bestLead 90 = .ok (.ifCond .le 35, 3) := by decide +kernel
theorem dX7_bestLead_93 : decode cX7_bestLead 93 = .ok (.iload 6, 2) := by decide +kernel
theorem dX7_bestLead_95 : decode cX7_bestLead 95 = .ok (.bipush (-2), 2) := by decide +kernel
theorem dX7_bestLead_97 : decode cX7_bestLead 97 = .ok (.if_icmp .eq 15, 3) := by decide +kernel
theorem dX7_bestLead_100 : decode cX7_bestLead 100 = .ok (.aload_n 0, 1) := by decide +kernel
theorem dX7_bestLead_101 : decode cX7_bestLead 101 = .ok (.getfield 19, 3) := by decide +kernel
theorem dX7_bestLead_104 : decode cX7_bestLead 104 = .ok (.getfield 49, 3) := by decide +kernel
theorem dX7_bestLead_107 : decode cX7_bestLead 107 = .ok (.iload 6, 2) := by decide +kernel
theorem dX7_bestLead_109 : decode cX7_bestLead 109 = .ok (.if_icmp .ge 16, 3) := by decide +kernel
theorem dX7_bestLead_112 : decode cX7_bestLead 112 = .ok (.aload_n 0, 1) := by decide +kernel
theorem dX7_bestLead_113 : decode cX7_bestLead 113 = .ok (.getfield 19, 3) := by decide +kernel
theorem dX7_bestLead_116 : decode cX7_bestLead 116 = .ok (.getfield 49, 3) := by decide +kernel
theorem dX7_bestLead_119 : decode cX7_bestLead 119 = .ok (.istore 6, 2) := by decide +kernel
theorem dX7_bestLead_121 : decode cX7_bestLead 121 = .ok (.iload 7, 2) := by decide +kernel
theorem dX7_bestLead_123 : decode cX7_bestLead 123 = .ok (.istore 5, 2) := by decide +kernel
theorem dX7_bestLead_125 : decode cX7_bestLead 125 = .ok (.iinc 7 1, 3) := by decide +kernel
theorem dX7_bestLead_128 : decode cX7_bestLead 128 = .ok (.goto (-99), 3) := by decide +kernel
theorem dX7_bestLead_131 : decode cX7_bestLead 131 = .ok (.aload_n 0, 1) := by decide +kernel
theorem dX7_bestLead_132 : decode cX7_bestLead 132 = .ok (.getfield 15, 3) := by decide +kernel
theorem dX7_bestLead_135 : decode cX7_bestLead 135 = .ok (.iload_n 1, 1) := by decide +kernel
theorem dX7_bestLead_136 : decode cX7_bestLead 136 = .ok (.iload 4, 2) := by decide +kernel
theorem dX7_bestLead_138 : decode cX7_bestLead 138 = .ok (.invokevirtual 35, 3) := by decide +kernel
theorem dX7_bestLead_141 : decode cX7_bestLead 141 = .ok (.aload_n 0, 1) := by decide +kernel
theorem dX7_bestLead_142 : decode cX7_bestLead 142 = .ok (.getfield 19, 3) := by decide +kernel
theorem dX7_bestLead_145 : decode cX7_bestLead 145 = .ok (.invokevirtual 53, 3) := by decide +kernel
theorem dX7_bestLead_148 : decode cX7_bestLead 148 = .ok (.iload_n 2, 1) := by decide +kernel
theorem dX7_bestLead_149 : decode cX7_bestLead 149 = .ok (.ifCond .ne 8, 3) := by decide +kernel
theorem dX7_bestLead_152 : decode cX7_bestLead 152 = .ok (.iload 5, 2) := by decide +kernel
theorem dX7_bestLead_154 : decode cX7_bestLead 154 = .ok (.goto 5, 3) := by decide +kernel
theorem dX7_bestLead_157 : decode cX7_bestLead 157 = .ok (.iload 6, 2) := by decide +kernel
theorem dX7_bestLead_159 : decode cX7_bestLead 159 = .ok (.ireturn, 1) := by decide +kernel
theorem dX7_withFalseTracks_0 : decode cX7_withFalseTracks 0 = .ok (.aload_n 0, 1) := by decide +kernel
theorem dX7_withFalseTracks_1 : decode cX7_withFalseTracks 1 = .ok (.getfield 19, 3) := by decide +kernel
theorem dX7_withFalseTracks_4 : decode cX7_withFalseTracks 4 = .ok (.iload_n 1, 1) := by decide +kernel
theorem dX7_withFalseTracks_5 : decode cX7_withFalseTracks 5 = .ok (.iload_n 2, 1) := by decide +kernel
theorem dX7_withFalseTracks_6 : decode cX7_withFalseTracks 6 = .ok (.invokevirtual 56, 3) := by decide +kernel
theorem dX7_withFalseTracks_9 : decode cX7_withFalseTracks 9 = .ok (.aload_n 0, 1) := by decide +kernel
theorem dX7_withFalseTracks_10 : decode cX7_withFalseTracks 10 = .ok (.iload_n 3, 1) := by decide +kernel
theorem dX7_withFalseTracks_11 : decode cX7_withFalseTracks 11 = .ok (.invokevirtual 59, 3) := by decide +kernel
theorem dX7_withFalseTracks_14 : decode cX7_withFalseTracks 14 = .ok (.ireturn, 1) := by decide +kernel
theorem dX7_withFlood_0 : decode cX7_withFlood 0 = .ok (.aload_n 0, 1) := by decide +kernel
theorem dX7_withFlood_1 : decode cX7_withFlood 1 = .ok (.getfield 19, 3) := by decide +kernel
theorem dX7_withFlood_4 : decode cX7_withFlood 4 = .ok (.iload_n 1, 1) := by decide +kernel
theorem dX7_withFlood_5 : decode cX7_withFlood 5 = .ok (.iload_n 2, 1) := by decide +kernel
theorem dX7_withFlood_6 : decode cX7_withFlood 6 = .ok (.iload_n 3, 1) := by decide +kernel
theorem dX7_withFlood_7 : decode cX7_withFlood 7 = .ok (.invokevirtual 62, 3) := by decide +kernel
theorem dX7_withFlood_10 : decode cX7_withFlood 10 = .ok (.aload_n 0, 1) := by decide +kernel
theorem dX7_withFlood_11 : decode cX7_withFlood 11 = .ok (.iload 4, 2) := by decide +kernel
theorem dX7_withFlood_13 : decode cX7_withFlood 13 = .ok (.invokevirtual 59, 3) := by decide +kernel
theorem dX7_withFlood_16 : decode cX7_withFlood 16 = .ok (.ireturn, 1) := by decide +kernel
theorem dX7_countTried_0 : decode cX7_countTried 0 = .ok (.aload_n 0, 1) := by decide +kernel
theorem dX7_countTried_1 : decode cX7_countTried 1 = .ok (.getfield 19, 3) := by decide +kernel
theorem dX7_countTried_4 : decode cX7_countTried 4 = .ok (.invokevirtual 46, 3) := by decide +kernel
theorem dX7_countTried_7 : decode cX7_countTried 7 = .ok (.iload_n 1, 1) := by decide +kernel
theorem dX7_countTried_8 : decode cX7_countTried 8 = .ok (.ifCond .ne 13, 3) := by decide +kernel
theorem dX7_countTried_11 : decode cX7_countTried 11 = .ok (.aload_n 0, 1) := by decide +kernel
theorem dX7_countTried_12 : decode cX7_countTried 12 = .ok (.getfield 19, 3) := by decide +kernel
theorem dX7_countTried_15 : decode cX7_countTried 15 = .ok (.getfield 49, 3) := by decide +kernel
theorem dX7_countTried_18 : decode cX7_countTried 18 = .ok (.goto 11, 3) := by decide +kernel
theorem dX7_countTried_21 : decode cX7_countTried 21 = .ok (.aload_n 0, 1) := by decide +kernel
theorem dX7_countTried_22 : decode cX7_countTried 22 = .ok (.getfield 19, 3) := by decide +kernel
theorem dX7_countTried_25 : decode cX7_countTried 25 = .ok (.iconst 0, 1) := by decide +kernel
theorem dX7_countTried_26 : decode cX7_countTried 26 = .ok (.invokevirtual 66, 3) := by decide +kernel
theorem dX7_countTried_29 : decode cX7_countTried 29 = .ok (.istore_n 2, 1) := by decide +kernel
theorem dX7_countTried_30 : decode cX7_countTried 30 = .ok (.aload_n 0, 1) := by decide +kernel
theorem dX7_countTried_31 : decode cX7_countTried 31 = .ok (.getfield 19, 3) := by decide +kernel
theorem dX7_countTried_34 : decode cX7_countTried 34 = .ok (.invokevirtual 53, 3) := by decide +kernel
theorem dX7_countTried_37 : decode cX7_countTried 37 = .ok (.iload_n 2, 1) := by decide +kernel
theorem dX7_countTried_38 : decode cX7_countTried 38 = .ok (.ireturn, 1) := by decide +kernel
theorem dX7_withDrawnLeads_0 : decode cX7_withDrawnLeads 0 = .ok (.aload_n 0, 1) := by decide +kernel
theorem dX7_withDrawnLeads_1 : decode cX7_withDrawnLeads 1 = .ok (.invokevirtual 69, 3) := by decide +kernel
theorem dX7_withDrawnLeads_4 : decode cX7_withDrawnLeads 4 = .ok (.iload_n 1, 1) := by decide +kernel
theorem dX7_withDrawnLeads_5 : decode cX7_withDrawnLeads 5 = .ok (.istore 4, 2) := by decide +kernel
theorem dX7_withDrawnLeads_7 : decode cX7_withDrawnLeads 7 = .ok (.iconst 0, 1) := by decide +kernel
theorem dX7_withDrawnLeads_8 : decode cX7_withDrawnLeads 8 = .ok (.istore 5, 2) := by decide +kernel
theorem dX7_withDrawnLeads_10 : decode cX7_withDrawnLeads 10 = .ok (.iconst 0, 1) := by decide +kernel
theorem dX7_withDrawnLeads_11 : decode cX7_withDrawnLeads 11 = .ok (.istore 6, 2) := by decide +kernel
theorem dX7_withDrawnLeads_13 : decode cX7_withDrawnLeads 13 = .ok (.iconst 0, 1) := by decide +kernel
theorem dX7_withDrawnLeads_14 : decode cX7_withDrawnLeads 14 = .ok (.istore 7, 2) := by decide +kernel
theorem dX7_withDrawnLeads_16 : decode cX7_withDrawnLeads 16 = .ok (.iload 7, 2) := by decide +kernel
theorem dX7_withDrawnLeads_18 : decode cX7_withDrawnLeads 18 = .ok (.iload_n 2, 1) := by decide +kernel
theorem dX7_withDrawnLeads_19 : decode cX7_withDrawnLeads 19 = .ok (.if_icmp .ge 71, 3) := by decide +kernel
theorem dX7_withDrawnLeads_22 : decode cX7_withDrawnLeads 22 = .ok (.aload_n 0, 1) := by decide +kernel
theorem dX7_withDrawnLeads_23 : decode cX7_withDrawnLeads 23 = .ok (.iload 4, 2) := by decide +kernel
theorem dX7_withDrawnLeads_25 : decode cX7_withDrawnLeads 25 = .ok (.invokevirtual 72, 3) := by decide +kernel
theorem dX7_withDrawnLeads_28 : decode cX7_withDrawnLeads 28 = .ok (.istore 4, 2) := by decide +kernel
theorem dX7_withDrawnLeads_30 : decode cX7_withDrawnLeads 30 = .ok (.aload_n 0, 1) := by decide +kernel
theorem dX7_withDrawnLeads_31 : decode cX7_withDrawnLeads 31 = .ok (.getfield 19, 3) := by decide +kernel
theorem dX7_withDrawnLeads_34 : decode cX7_withDrawnLeads 34 = .ok (.invokevirtual 39, 3) := by decide +kernel
theorem dX7_withDrawnLeads_37 : decode cX7_withDrawnLeads 37 = .ok (.pop, 1) := by decide +kernel
theorem dX7_withDrawnLeads_38 : decode cX7_withDrawnLeads 38 = .ok (.aload_n 0, 1) := by decide +kernel
theorem dX7_withDrawnLeads_39 : decode cX7_withDrawnLeads 39 = .ok (.getfield 19, 3) := by decide +kernel
theorem dX7_withDrawnLeads_42 : decode cX7_withDrawnLeads 42 = .ok (.invokevirtual 75, 3) := by decide +kernel
theorem dX7_withDrawnLeads_45 : decode cX7_withDrawnLeads 45 = .ok (.aload_n 0, 1) := by decide +kernel
theorem dX7_withDrawnLeads_46 : decode cX7_withDrawnLeads 46 = .ok (.getfield 19, 3) := by decide +kernel
theorem dX7_withDrawnLeads_49 : decode cX7_withDrawnLeads 49 = .ok (.invokevirtual 46, 3) := by decide +kernel
theorem dX7_withDrawnLeads_52 : decode cX7_withDrawnLeads 52 = .ok (.iload 5, 2) := by decide +kernel
theorem dX7_withDrawnLeads_54 : decode cX7_withDrawnLeads 54 = .ok (.aload_n 0, 1) := by decide +kernel
theorem dX7_withDrawnLeads_55 : decode cX7_withDrawnLeads 55 = .ok (.getfield 19, 3) := by decide +kernel
theorem dX7_withDrawnLeads_58 : decode cX7_withDrawnLeads 58 = .ok (.getfield 49, 3) := by decide +kernel
theorem dX7_withDrawnLeads_61 : decode cX7_withDrawnLeads 61 = .ok (.iadd, 1) := by decide +kernel
theorem dX7_withDrawnLeads_62 : decode cX7_withDrawnLeads 62 = .ok (.istore 5, 2) := by decide +kernel
theorem dX7_withDrawnLeads_64 : decode cX7_withDrawnLeads 64 = .ok (.iload 6, 2) := by decide +kernel
theorem dX7_withDrawnLeads_66 : decode cX7_withDrawnLeads 66 = .ok (.aload_n 0, 1) := by decide +kernel
theorem dX7_withDrawnLeads_67 : decode cX7_withDrawnLeads 67 = .ok (.getfield 19, 3) := by decide +kernel
theorem dX7_withDrawnLeads_70 : decode cX7_withDrawnLeads 70 = .ok (.getfield 49, 3) := by decide +kernel
theorem dX7_withDrawnLeads_73 : decode cX7_withDrawnLeads 73 = .ok (.ifCond .ne 7, 3) := by decide +kernel
theorem dX7_withDrawnLeads_76 : decode cX7_withDrawnLeads 76 = .ok (.iconst 1, 1) := by decide +kernel
theorem dX7_withDrawnLeads_77 : decode cX7_withDrawnLeads 77 = .ok (.goto 4, 3) := by decide +kernel
theorem dX7_withDrawnLeads_80 : decode cX7_withDrawnLeads 80 = .ok (.iconst 0, 1) := by decide +kernel
theorem dX7_withDrawnLeads_81 : decode cX7_withDrawnLeads 81 = .ok (.iadd, 1) := by decide +kernel
theorem dX7_withDrawnLeads_82 : decode cX7_withDrawnLeads 82 = .ok (.istore 6, 2) := by decide +kernel
theorem dX7_withDrawnLeads_84 : decode cX7_withDrawnLeads 84 = .ok (.iinc 7 1, 3) := by decide +kernel
theorem dX7_withDrawnLeads_87 : decode cX7_withDrawnLeads 87 = .ok (.goto (-71), 3) := by decide +kernel
theorem dX7_withDrawnLeads_90 : decode cX7_withDrawnLeads 90 = .ok (.aload_n 0, 1) := by decide +kernel
theorem dX7_withDrawnLeads_91 : decode cX7_withDrawnLeads 91 = .ok (.invokevirtual 78, 3) := by decide +kernel
theorem dX7_withDrawnLeads_94 : decode cX7_withDrawnLeads 94 = .ok (.aload_n 0, 1) := by decide +kernel
theorem dX7_withDrawnLeads_95 : decode cX7_withDrawnLeads 95 = .ok (.getfield 19, 3) := by decide +kernel
theorem dX7_withDrawnLeads_98 : decode cX7_withDrawnLeads 98 = .ok (.invokevirtual 53, 3) := by decide +kernel
theorem dX7_withDrawnLeads_101 : decode cX7_withDrawnLeads 101 = .ok (.iload_n 3, 1) := by decide +kernel
theorem dX7_withDrawnLeads_102 : decode cX7_withDrawnLeads 102 = .ok (.ifCond .ne 8, 3) := by decide +kernel
theorem dX7_withDrawnLeads_105 : decode cX7_withDrawnLeads 105 = .ok (.iload 5, 2) := by decide +kernel
theorem dX7_withDrawnLeads_107 : decode cX7_withDrawnLeads 107 = .ok (.goto 5, 3) := by decide +kernel
theorem dX7_withDrawnLeads_110 : decode cX7_withDrawnLeads 110 = .ok (.iload 6, 2) := by decide +kernel
theorem dX7_withDrawnLeads_112 : decode cX7_withDrawnLeads 112 = .ok (.ireturn, 1) := by decide +kernel
theorem dX7_drawLeads_0 : decode cX7_drawLeads 0 = .ok (.iload_n 1, 1) := by decide +kernel
theorem dX7_drawLeads_1 : decode cX7_drawLeads 1 = .ok (.istore_n 2, 1) := by decide +kernel
theorem dX7_drawLeads_2 : decode cX7_drawLeads 2 = .ok (.iconst 0, 1) := by decide +kernel
theorem dX7_drawLeads_3 : decode cX7_drawLeads 3 = .ok (.istore_n 3, 1) := by decide +kernel
theorem dX7_drawLeads_4 : decode cX7_drawLeads 4 = .ok (.iload_n 3, 1) := by decide +kernel
theorem dX7_drawLeads_5 : decode cX7_drawLeads 5 = .ok (.aload_n 0, 1) := by decide +kernel
theorem dX7_drawLeads_6 : decode cX7_drawLeads 6 = .ok (.getfield 15, 3) := by decide +kernel
theorem dX7_drawLeads_9 : decode cX7_drawLeads 9 = .ok (.getfield 81, 3) := by decide +kernel
theorem dX7_drawLeads_12 : decode cX7_drawLeads 12 = .ok (.if_icmp .ge 33, 3) := by decide +kernel
theorem dX7_drawLeads_15 : decode cX7_drawLeads 15 = .ok (.iload_n 2, 1) := by decide +kernel
theorem dX7_drawLeads_16 : decode cX7_drawLeads 16 = .ok (.ldc 84, 2) := by decide +kernel
theorem dX7_drawLeads_18 : decode cX7_drawLeads 18 = .ok (.imul, 1) := by decide +kernel
theorem dX7_drawLeads_19 : decode cX7_drawLeads 19 = .ok (.sipush 12345, 3) := by decide +kernel
theorem dX7_drawLeads_22 : decode cX7_drawLeads 22 = .ok (.iadd, 1) := by decide +kernel
theorem dX7_drawLeads_23 : decode cX7_drawLeads 23 = .ok (.istore_n 2, 1) := by decide +kernel
theorem dX7_drawLeads_24 : decode cX7_drawLeads 24 = .ok (.aload_n 0, 1) := by decide +kernel
theorem dX7_drawLeads_25 : decode cX7_drawLeads 25 = .ok (.getfield 15, 3) := by decide +kernel
theorem dX7_drawLeads_28 : decode cX7_drawLeads 28 = .ok (.iload_n 3, 1) := by decide +kernel
theorem dX7_drawLeads_29 : decode cX7_drawLeads 29 = .ok (.iload_n 2, 1) := by decide +kernel
theorem dX7_drawLeads_30 : decode cX7_drawLeads 30 = .ok (.bipush 8, 2) := by decide +kernel
theorem dX7_drawLeads_32 : decode cX7_drawLeads 32 = .ok (.iushr, 1) := by decide +kernel
theorem dX7_drawLeads_33 : decode cX7_drawLeads 33 = .ok (.bipush 61, 2) := by decide +kernel
theorem dX7_drawLeads_35 : decode cX7_drawLeads 35 = .ok (.irem, 1) := by decide +kernel
theorem dX7_drawLeads_36 : decode cX7_drawLeads 36 = .ok (.invokevirtual 35, 3) := by decide +kernel
theorem dX7_drawLeads_39 : decode cX7_drawLeads 39 = .ok (.iinc 3 1, 3) := by decide +kernel
theorem dX7_drawLeads_42 : decode cX7_drawLeads 42 = .ok (.goto (-38), 3) := by decide +kernel
theorem dX7_drawLeads_45 : decode cX7_drawLeads 45 = .ok (.iload_n 2, 1) := by decide +kernel
theorem dX7_drawLeads_46 : decode cX7_drawLeads 46 = .ok (.ireturn, 1) := by decide +kernel
theorem dX7_keepLeads_0 : decode cX7_keepLeads 0 = .ok (.iconst 0, 1) := by decide +kernel
theorem dX7_keepLeads_1 : decode cX7_keepLeads 1 = .ok (.istore_n 1, 1) := by decide +kernel
theorem dX7_keepLeads_2 : decode cX7_keepLeads 2 = .ok (.iload_n 1, 1) := by decide +kernel
theorem dX7_keepLeads_3 : decode cX7_keepLeads 3 = .ok (.aload_n 0, 1) := by decide +kernel
theorem dX7_keepLeads_4 : decode cX7_keepLeads 4 = .ok (.getfield 15, 3) := by decide +kernel
theorem dX7_keepLeads_7 : decode cX7_keepLeads 7 = .ok (.getfield 81, 3) := by decide +kernel
theorem dX7_keepLeads_10 : decode cX7_keepLeads 10 = .ok (.if_icmp .ge 23, 3) := by decide +kernel
theorem dX7_keepLeads_13 : decode cX7_keepLeads 13 = .ok (.aload_n 0, 1) := by decide +kernel
theorem dX7_keepLeads_14 : decode cX7_keepLeads 14 = .ok (.getfield 9, 3) := by decide +kernel
theorem dX7_keepLeads_17 : decode cX7_keepLeads 17 = .ok (.iload_n 1, 1) := by decide +kernel
theorem dX7_keepLeads_18 : decode cX7_keepLeads 18 = .ok (.aload_n 0, 1) := by decide +kernel
theorem dX7_keepLeads_19 : decode cX7_keepLeads 19 = .ok (.getfield 15, 3) := by decide +kernel
theorem dX7_keepLeads_22 : decode cX7_keepLeads 22 = .ok (.iload_n 1, 1) := by decide +kernel
theorem dX7_keepLeads_23 : decode cX7_keepLeads 23 = .ok (.invokevirtual 29, 3) := by decide +kernel
theorem dX7_keepLeads_26 : decode cX7_keepLeads 26 = .ok (.iastore, 1) := by decide +kernel
theorem dX7_keepLeads_27 : decode cX7_keepLeads 27 = .ok (.iinc 1 1, 3) := by decide +kernel
theorem dX7_keepLeads_30 : decode cX7_keepLeads 30 = .ok (.goto (-28), 3) := by decide +kernel
theorem dX7_keepLeads_33 : decode cX7_keepLeads 33 = .ok (.return_, 1) := by decide +kernel
theorem dX7_giveLeadsBack_0 : decode cX7_giveLeadsBack 0 = .ok (.iconst 0, 1) := by decide +kernel
theorem dX7_giveLeadsBack_1 : decode cX7_giveLeadsBack 1 = .ok (.istore_n 1, 1) := by decide +kernel
theorem dX7_giveLeadsBack_2 : decode cX7_giveLeadsBack 2 = .ok (.iload_n 1, 1) := by decide +kernel
theorem dX7_giveLeadsBack_3 : decode cX7_giveLeadsBack 3 = .ok (.aload_n 0, 1) := by decide +kernel
theorem dX7_giveLeadsBack_4 : decode cX7_giveLeadsBack 4 = .ok (.getfield 15, 3) := by decide +kernel
theorem dX7_giveLeadsBack_7 : decode cX7_giveLeadsBack 7 = .ok (.getfield 81, 3) := by decide +kernel
theorem dX7_giveLeadsBack_10 : decode cX7_giveLeadsBack 10 = .ok (.if_icmp .ge 23, 3) := by decide +kernel
theorem dX7_giveLeadsBack_13 : decode cX7_giveLeadsBack 13 = .ok (.aload_n 0, 1) := by decide +kernel
theorem dX7_giveLeadsBack_14 : decode cX7_giveLeadsBack 14 = .ok (.getfield 15, 3) := by decide +kernel
theorem dX7_giveLeadsBack_17 : decode cX7_giveLeadsBack 17 = .ok (.iload_n 1, 1) := by decide +kernel
theorem dX7_giveLeadsBack_18 : decode cX7_giveLeadsBack 18 = .ok (.aload_n 0, 1) := by decide +kernel
theorem dX7_giveLeadsBack_19 : decode cX7_giveLeadsBack 19 = .ok (.getfield 9, 3) := by decide +kernel
theorem dX7_giveLeadsBack_22 : decode cX7_giveLeadsBack 22 = .ok (.iload_n 1, 1) := by decide +kernel
theorem dX7_giveLeadsBack_23 : decode cX7_giveLeadsBack 23 = .ok (.iaload, 1) := by decide +kernel
theorem dX7_giveLeadsBack_24 : decode cX7_giveLeadsBack 24 = .ok (.invokevirtual 35, 3) := by decide +kernel
theorem dX7_giveLeadsBack_27 : decode cX7_giveLeadsBack 27 = .ok (.iinc 1 1, 3) := by decide +kernel
theorem dX7_giveLeadsBack_30 : decode cX7_giveLeadsBack 30 = .ok (.goto (-28), 3) := by decide +kernel
theorem dX7_giveLeadsBack_33 : decode cX7_giveLeadsBack 33 = .ok (.return_, 1) := by decide +kernel
theorem dX8_init_0 : decode cX8_init 0 = .ok (.aload_n 0, 1) := by decide +kernel
theorem dX8_init_1 : decode cX8_init 1 = .ok (.invokespecial 3, 3) := by decide +kernel
theorem dX8_init_4 : decode cX8_init 4 = .ok (.aload_n 0, 1) := by decide +kernel
theorem dX8_init_5 : decode cX8_init 5 = .ok (.iconst 3, 1) := by decide +kernel
theorem dX8_init_6 : decode cX8_init 6 = .ok (.iconst 5, 1) := by decide +kernel
theorem dX8_init_7 : decode cX8_init 7 = .ok (.multianewarray 9 2, 4) := by decide +kernel
theorem dX8_init_11 : decode cX8_init 11 = .ok (.putfield 11, 3) := by decide +kernel
theorem dX8_init_14 : decode cX8_init 14 = .ok (.aload_n 0, 1) := by decide +kernel
theorem dX8_init_15 : decode cX8_init 15 = .ok (.bipush 8, 2) := by decide +kernel
theorem dX8_init_17 : decode cX8_init 17 = .ok (.bipush 8, 2) := by decide +kernel
theorem dX8_init_19 : decode cX8_init 19 = .ok (.multianewarray 9 2, 4) := by decide +kernel
theorem dX8_init_23 : decode cX8_init 23 = .ok (.putfield 16, 3) := by decide +kernel
theorem dX8_init_26 : decode cX8_init 26 = .ok (.aload_n 0, 1) := by decide +kernel
theorem dX8_init_27 : decode cX8_init 27 = .ok (.iconst 5, 1) := by decide +kernel
theorem dX8_init_28 : decode cX8_init 28 = .ok (.newarray .int, 2) := by decide +kernel
theorem dX8_init_30 : decode cX8_init 30 = .ok (.putfield 19, 3) := by decide +kernel
theorem dX8_init_33 : decode cX8_init 33 = .ok (.aload_n 0, 1) := by decide +kernel
theorem dX8_init_34 : decode cX8_init 34 = .ok (.bipush 20, 2) := by decide +kernel
theorem dX8_init_36 : decode cX8_init 36 = .ok (.newarray .int, 2) := by decide +kernel
theorem dX8_init_38 : decode cX8_init 38 = .ok (.putfield 23, 3) := by decide +kernel
theorem dX8_init_41 : decode cX8_init 41 = .ok (.aload_n 0, 1) := by decide +kernel
theorem dX8_init_42 : decode cX8_init 42 = .ok (.bipush 20, 2) := by decide +kernel
theorem dX8_init_44 : decode cX8_init 44 = .ok (.bipush 8, 2) := by decide +kernel
theorem dX8_init_46 : decode cX8_init 46 = .ok (.multianewarray 9 2, 4) := by decide +kernel
theorem dX8_init_50 : decode cX8_init 50 = .ok (.putfield 26, 3) := by decide +kernel
theorem dX8_init_53 : decode cX8_init 53 = .ok (.aload_n 0, 1) := by decide +kernel
theorem dX8_init_54 : decode cX8_init 54 = .ok (.bipush 20, 2) := by decide +kernel
theorem dX8_init_56 : decode cX8_init 56 = .ok (.bipush 8, 2) := by decide +kernel
theorem dX8_init_58 : decode cX8_init 58 = .ok (.multianewarray 9 2, 4) := by decide +kernel
theorem dX8_init_62 : decode cX8_init 62 = .ok (.putfield 29, 3) := by decide +kernel
theorem dX8_init_65 : decode cX8_init 65 = .ok (.iconst 0, 1) := by decide +kernel
theorem dX8_init_66 : decode cX8_init 66 = .ok (.istore_n 1, 1) := by decide +kernel
theorem dX8_init_67 : decode cX8_init 67 = .ok (.iload_n 1, 1) := by decide +kernel
theorem dX8_init_68 : decode cX8_init 68 = .ok (.bipush 8, 2) := by decide +kernel
theorem dX8_init_70 : decode cX8_init 70 = .ok (.if_icmp .ge 19, 3) := by decide +kernel
theorem dX8_init_73 : decode cX8_init 73 = .ok (.aload_n 0, 1) := by decide +kernel
theorem dX8_init_74 : decode cX8_init 74 = .ok (.getfield 16, 3) := by decide +kernel
theorem dX8_init_77 : decode cX8_init 77 = .ok (.iload_n 1, 1) := by decide +kernel
theorem dX8_init_78 : decode cX8_init 78 = .ok (.aaload, 1) := by decide +kernel
theorem dX8_init_79 : decode cX8_init 79 = .ok (.iconst 5, 1) := by decide +kernel
theorem dX8_init_80 : decode cX8_init 80 = .ok (.invokestatic 32, 3) := by decide +kernel
theorem dX8_init_83 : decode cX8_init 83 = .ok (.iinc 1 1, 3) := by decide +kernel
theorem dX8_init_86 : decode cX8_init 86 = .ok (.goto (-19), 3) := by decide +kernel
theorem dX8_init_89 : decode cX8_init 89 = .ok (.return_, 1) := by decide +kernel
theorem dX8_wayIndex_0 : decode cX8_wayIndex 0 = .ok (.iload_n 0, 1) := by decide +kernel
theorem dX8_wayIndex_1 : decode cX8_wayIndex 1 = .ok (.iconst 4, 1) := by decide +kernel
theorem dX8_wayIndex_2 : decode cX8_wayIndex 2 = .ok (.imul, 1) := by decide +kernel
theorem dX8_wayIndex_3 : decode cX8_wayIndex 3 = .ok (.iload_n 1, 1) := by decide +kernel
theorem dX8_wayIndex_4 : decode cX8_wayIndex 4 = .ok (.iadd, 1) := by decide +kernel
theorem dX8_wayIndex_5 : decode cX8_wayIndex 5 = .ok (.ireturn, 1) := by decide +kernel
theorem dX8_wayOn_0 : decode cX8_wayOn 0 = .ok (.iload_n 1, 1) := by decide +kernel
theorem dX8_wayOn_1 : decode cX8_wayOn 1 = .ok (.iload_n 0, 1) := by decide +kernel
theorem dX8_wayOn_2 : decode cX8_wayOn 2 = .ok (.iload_n 1, 1) := by decide +kernel
theorem dX8_wayOn_3 : decode cX8_wayOn 3 = .ok (.invokestatic 38, 3) := by decide +kernel
theorem dX8_wayOn_6 : decode cX8_wayOn 6 = .ok (.invokestatic 42, 3) := by decide +kernel
theorem dX8_wayOn_9 : decode cX8_wayOn 9 = .ok (.ireturn, 1) := by decide +kernel
theorem dX8_choice_0 : decode cX8_choice 0 = .ok (.iload_n 0, 1) := by decide +kernel
theorem dX8_choice_1 : decode cX8_choice 1 = .ok (.iconst 2, 1) := by decide +kernel
theorem dX8_choice_2 : decode cX8_choice 2 = .ok (.iload_n 1, 1) := by decide +kernel
theorem dX8_choice_3 : decode cX8_choice 3 = .ok (.imul, 1) := by decide +kernel
theorem dX8_choice_4 : decode cX8_choice 4 = .ok (.ishr, 1) := by decide +kernel
theorem dX8_choice_5 : decode cX8_choice 5 = .ok (.iconst 3, 1) := by decide +kernel
theorem dX8_choice_6 : decode cX8_choice 6 = .ok (.iand, 1) := by decide +kernel
theorem dX8_choice_7 : decode cX8_choice 7 = .ok (.ireturn, 1) := by decide +kernel
theorem dX8_withWay_0 : decode cX8_withWay 0 = .ok (.iload_n 0, 1) := by decide +kernel
theorem dX8_withWay_1 : decode cX8_withWay 1 = .ok (.iconst 3, 1) := by decide +kernel
theorem dX8_withWay_2 : decode cX8_withWay 2 = .ok (.iconst 2, 1) := by decide +kernel
theorem dX8_withWay_3 : decode cX8_withWay 3 = .ok (.iload_n 1, 1) := by decide +kernel
theorem dX8_withWay_4 : decode cX8_withWay 4 = .ok (.imul, 1) := by decide +kernel
theorem dX8_withWay_5 : decode cX8_withWay 5 = .ok (.ishl, 1) := by decide +kernel
theorem dX8_withWay_6 : decode cX8_withWay 6 = .ok (.iconst (-1), 1) := by decide +kernel
theorem dX8_withWay_7 : decode cX8_withWay 7 = .ok (.ixor, 1) := by decide +kernel
theorem dX8_withWay_8 : decode cX8_withWay 8 = .ok (.iand, 1) := by decide +kernel
theorem dX8_withWay_9 : decode cX8_withWay 9 = .ok (.iload_n 2, 1) := by decide +kernel
theorem dX8_withWay_10 : decode cX8_withWay 10 = .ok (.iconst 2, 1) := by decide +kernel
theorem dX8_withWay_11 : decode cX8_withWay 11 = .ok (.iload_n 1, 1) := by decide +kernel
theorem dX8_withWay_12 : decode cX8_withWay 12 = .ok (.imul, 1) := by decide +kernel
theorem dX8_withWay_13 : decode cX8_withWay 13 = .ok (.ishl, 1) := by decide +kernel
theorem dX8_withWay_14 : decode cX8_withWay 14 = .ok (.ior, 1) := by decide +kernel
theorem dX8_withWay_15 : decode cX8_withWay 15 = .ok (.ireturn, 1) := by decide +kernel
theorem dX8_allWaysOf_0 : decode cX8_allWaysOf 0 = .ok (.bipush 15, 2) := by decide +kernel
theorem dX8_allWaysOf_2 : decode cX8_allWaysOf 2 = .ok (.iconst 4, 1) := by decide +kernel
theorem dX8_allWaysOf_3 : decode cX8_allWaysOf 3 = .ok (.iload_n 0, 1) := by decide +kernel
theorem dX8_allWaysOf_4 : decode cX8_allWaysOf 4 = .ok (.imul, 1) := by decide +kernel
theorem dX8_allWaysOf_5 : decode cX8_allWaysOf 5 = .ok (.ishl, 1) := by decide +kernel
theorem dX8_allWaysOf_6 : decode cX8_allWaysOf 6 = .ok (.ireturn, 1) := by decide +kernel
theorem dX8_walkersOf_0 : decode cX8_walkersOf 0 = .ok (.iload_n 0, 1) := by decide +kernel
theorem dX8_walkersOf_1 : decode cX8_walkersOf 1 = .ok (.iload_n 0, 1) := by decide +kernel
theorem dX8_walkersOf_2 : decode cX8_walkersOf 2 = .ok (.iconst 1, 1) := by decide +kernel
theorem dX8_walkersOf_3 : decode cX8_walkersOf 3 = .ok (.ishr, 1) := by decide +kernel
theorem dX8_walkersOf_4 : decode cX8_walkersOf 4 = .ok (.ior, 1) := by decide +kernel
theorem dX8_walkersOf_5 : decode cX8_walkersOf 5 = .ok (.istore_n 1, 1) := by decide +kernel
theorem dX8_walkersOf_6 : decode cX8_walkersOf 6 = .ok (.iload_n 1, 1) := by decide +kernel
theorem dX8_walkersOf_7 : decode cX8_walkersOf 7 = .ok (.iload_n 1, 1) := by decide +kernel
theorem dX8_walkersOf_8 : decode cX8_walkersOf 8 = .ok (.iconst 2, 1) := by decide +kernel
theorem dX8_walkersOf_9 : decode cX8_walkersOf 9 = .ok (.ishr, 1) := by decide +kernel
theorem dX8_walkersOf_10 : decode cX8_walkersOf 10 = .ok (.ior, 1) := by decide +kernel
theorem dX8_walkersOf_11 : decode cX8_walkersOf 11 = .ok (.istore_n 1, 1) := by decide +kernel
theorem dX8_walkersOf_12 : decode cX8_walkersOf 12 = .ok (.iload_n 1, 1) := by decide +kernel
theorem dX8_walkersOf_13 : decode cX8_walkersOf 13 = .ok (.iconst 1, 1) := by decide +kernel
theorem dX8_walkersOf_14 : decode cX8_walkersOf 14 = .ok (.iand, 1) := by decide +kernel
theorem dX8_walkersOf_15 : decode cX8_walkersOf 15 = .ok (.iload_n 1, 1) := by decide +kernel
theorem dX8_walkersOf_16 : decode cX8_walkersOf 16 = .ok (.iconst 3, 1) := by decide +kernel
theorem dX8_walkersOf_17 : decode cX8_walkersOf 17 = .ok (.ishr, 1) := by decide +kernel
theorem dX8_walkersOf_18 : decode cX8_walkersOf 18 = .ok (.iconst 2, 1) := by decide +kernel
theorem dX8_walkersOf_19 : decode cX8_walkersOf 19 = .ok (.iand, 1) := by decide +kernel
theorem dX8_walkersOf_20 : decode cX8_walkersOf 20 = .ok (.ior, 1) := by decide +kernel
theorem dX8_walkersOf_21 : decode cX8_walkersOf 21 = .ok (.iload_n 1, 1) := by decide +kernel
theorem dX8_walkersOf_22 : decode cX8_walkersOf 22 = .ok (.bipush 6, 2) := by decide +kernel
theorem dX8_walkersOf_24 : decode cX8_walkersOf 24 = .ok (.ishr, 1) := by decide +kernel
theorem dX8_walkersOf_25 : decode cX8_walkersOf 25 = .ok (.iconst 4, 1) := by decide +kernel
theorem dX8_walkersOf_26 : decode cX8_walkersOf 26 = .ok (.iand, 1) := by decide +kernel
theorem dX8_walkersOf_27 : decode cX8_walkersOf 27 = .ok (.ior, 1) := by decide +kernel
theorem dX8_walkersOf_28 : decode cX8_walkersOf 28 = .ok (.iload_n 1, 1) := by decide +kernel
theorem dX8_walkersOf_29 : decode cX8_walkersOf 29 = .ok (.bipush 9, 2) := by decide +kernel
theorem dX8_walkersOf_31 : decode cX8_walkersOf 31 = .ok (.ishr, 1) := by decide +kernel
theorem dX8_walkersOf_32 : decode cX8_walkersOf 32 = .ok (.bipush 8, 2) := by decide +kernel
theorem dX8_walkersOf_34 : decode cX8_walkersOf 34 = .ok (.iand, 1) := by decide +kernel
theorem dX8_walkersOf_35 : decode cX8_walkersOf 35 = .ok (.ior, 1) := by decide +kernel
theorem dX8_walkersOf_36 : decode cX8_walkersOf 36 = .ok (.iload_n 1, 1) := by decide +kernel
theorem dX8_walkersOf_37 : decode cX8_walkersOf 37 = .ok (.bipush 12, 2) := by decide +kernel
theorem dX8_walkersOf_39 : decode cX8_walkersOf 39 = .ok (.ishr, 1) := by decide +kernel
theorem dX8_walkersOf_40 : decode cX8_walkersOf 40 = .ok (.bipush 16, 2) := by decide +kernel
theorem dX8_walkersOf_42 : decode cX8_walkersOf 42 = .ok (.iand, 1) := by decide +kernel
theorem dX8_walkersOf_43 : decode cX8_walkersOf 43 = .ok (.ior, 1) := by decide +kernel
theorem dX8_walkersOf_44 : decode cX8_walkersOf 44 = .ok (.ireturn, 1) := by decide +kernel
theorem dX8_mayBecome_0 : decode cX8_mayBecome 0 = .ok (.iload_n 0, 1) := by decide +kernel
theorem dX8_mayBecome_1 : decode cX8_mayBecome 1 = .ok (.ifCond .lt 30, 3) := by decide +kernel
theorem dX8_mayBecome_4 : decode cX8_mayBecome 4 = .ok (.iload_n 0, 1) := by decide +kernel
theorem dX8_mayBecome_5 : decode cX8_mayBecome 5 = .ok (.iconst 3, 1) := by decide +kernel
theorem dX8_mayBecome_6 : decode cX8_mayBecome 6 = .ok (.if_icmp .gt 25, 3) := by decide +kernel
theorem dX8_mayBecome_9 : decode cX8_mayBecome 9 = .ok (.iload_n 1, 1) := by decide +kernel
theorem dX8_mayBecome_10 : decode cX8_mayBecome 10 = .ok (.getstatic 45, 3) := by decide +kernel
theorem dX8_mayBecome_13 : decode cX8_mayBecome 13 = .ok (.iload_n 0, 1) := by decide +kernel
theorem dX8_mayBecome_14 : decode cX8_mayBecome 14 = .ok (.iaload, 1) := by decide +kernel
theorem dX8_mayBecome_15 : decode cX8_mayBecome 15 = .ok (.if_icmp .lt 16, 3) := by decide +kernel
theorem dX8_mayBecome_18 : decode cX8_mayBecome 18 = .ok (.iload_n 1, 1) := by decide +kernel
theorem dX8_mayBecome_19 : decode cX8_mayBecome 19 = .ok (.getstatic 48, 3) := by decide +kernel
theorem dX8_mayBecome_22 : decode cX8_mayBecome 22 = .ok (.iload_n 0, 1) := by decide +kernel
theorem dX8_mayBecome_23 : decode cX8_mayBecome 23 = .ok (.iaload, 1) := by decide +kernel
theorem dX8_mayBecome_24 : decode cX8_mayBecome 24 = .ok (.if_icmp .gt 7, 3) := by decide +kernel
theorem dX8_mayBecome_27 : decode cX8_mayBecome 27 = .ok (.iconst 1, 1) := by decide +kernel
theorem dX8_mayBecome_28 : decode cX8_mayBecome 28 = .ok (.goto 4, 3) := by decide +kernel
theorem dX8_mayBecome_31 : decode cX8_mayBecome 31 = .ok (.iconst 0, 1) := by decide +kernel
theorem dX8_mayBecome_32 : decode cX8_mayBecome 32 = .ok (.ireturn, 1) := by decide +kernel
theorem dX8_isWalker_0 : decode cX8_isWalker 0 = .ok (.iload_n 1, 1) := by decide +kernel
theorem dX8_isWalker_1 : decode cX8_isWalker 1 = .ok (.ifCond .lt 15, 3) := by decide +kernel
theorem dX8_isWalker_4 : decode cX8_isWalker 4 = .ok (.iload_n 1, 1) := by decide +kernel
theorem dX8_isWalker_5 : decode cX8_isWalker 5 = .ok (.aload_n 0, 1) := by decide +kernel
theorem dX8_isWalker_6 : decode cX8_isWalker 6 = .ok (.getfield 51, 3) := by decide +kernel
theorem dX8_isWalker_9 : decode cX8_isWalker 9 = .ok (.if_icmp .ge 7, 3) := by decide +kernel
theorem dX8_isWalker_12 : decode cX8_isWalker 12 = .ok (.iconst 1, 1) := by decide +kernel
theorem dX8_isWalker_13 : decode cX8_isWalker 13 = .ok (.goto 4, 3) := by decide +kernel
theorem dX8_isWalker_16 : decode cX8_isWalker 16 = .ok (.iconst 0, 1) := by decide +kernel
theorem dX8_isWalker_17 : decode cX8_isWalker 17 = .ok (.ireturn, 1) := by decide +kernel
theorem dX8_isWay_0 : decode cX8_isWay 0 = .ok (.aload_n 0, 1) := by decide +kernel
theorem dX8_isWay_1 : decode cX8_isWay 1 = .ok (.iload_n 1, 1) := by decide +kernel
theorem dX8_isWay_2 : decode cX8_isWay 2 = .ok (.invokevirtual 55, 3) := by decide +kernel
theorem dX8_isWay_5 : decode cX8_isWay 5 = .ok (.ifCond .eq 21, 3) := by decide +kernel
theorem dX8_isWay_8 : decode cX8_isWay 8 = .ok (.iload_n 2, 1) := by decide +kernel
theorem dX8_isWay_9 : decode cX8_isWay 9 = .ok (.ifCond .lt 17, 3) := by decide +kernel
theorem dX8_isWay_12 : decode cX8_isWay 12 = .ok (.iload_n 2, 1) := by decide +kernel
theorem dX8_isWay_13 : decode cX8_isWay 13 = .ok (.aload_n 0, 1) := by decide +kernel
theorem dX8_isWay_14 : decode cX8_isWay 14 = .ok (.getfield 19, 3) := by decide +kernel
theorem dX8_isWay_17 : decode cX8_isWay 17 = .ok (.iload_n 1, 1) := by decide +kernel
theorem dX8_isWay_18 : decode cX8_isWay 18 = .ok (.iaload, 1) := by decide +kernel
theorem dX8_isWay_19 : decode cX8_isWay 19 = .ok (.if_icmp .ge 7, 3) := by decide +kernel
theorem dX8_isWay_22 : decode cX8_isWay 22 = .ok (.iconst 1, 1) := by decide +kernel
theorem dX8_isWay_23 : decode cX8_isWay 23 = .ok (.goto 4, 3) := by decide +kernel
theorem dX8_isWay_26 : decode cX8_isWay 26 = .ok (.iconst 0, 1) := by decide +kernel
theorem dX8_isWay_27 : decode cX8_isWay 27 = .ok (.ireturn, 1) := by decide +kernel
theorem dX8_isDay_0 : decode cX8_isDay 0 = .ok (.iload_n 1, 1) := by decide +kernel
theorem dX8_isDay_1 : decode cX8_isDay 1 = .ok (.ifCond .lt 10, 3) := by decide +kernel
theorem dX8_isDay_4 : decode cX8_isDay 4 = .ok (.iload_n 1, 1) := by decide +kernel
theorem dX8_isDay_5 : decode cX8_isDay 5 = .ok (.sipush 1024, 3) := by decide +kernel
theorem dX8_isDay_8 : decode cX8_isDay 8 = .ok (.if_icmp .lt 5, 3) := by decide +kernel
theorem dX8_isDay_11 : decode cX8_isDay 11 = .ok (.iconst 0, 1) := by decide +kernel
theorem dX8_isDay_12 : decode cX8_isDay 12 = .ok (.ireturn, 1) := by decide +kernel
theorem dX8_isDay_13 : decode cX8_isDay 13 = .ok (.iconst 0, 1) := by decide +kernel
theorem dX8_isDay_14 : decode cX8_isDay 14 = .ok (.istore_n 2, 1) := by decide +kernel
theorem dX8_isDay_15 : decode cX8_isDay 15 = .ok (.iload_n 2, 1) := by decide +kernel
theorem dX8_isDay_16 : decode cX8_isDay 16 = .ok (.iconst 5, 1) := by decide +kernel
theorem dX8_isDay_17 : decode cX8_isDay 17 = .ok (.if_icmp .ge 31, 3) := by decide +kernel
theorem dX8_isDay_20 : decode cX8_isDay 20 = .ok (.iload_n 1, 1) := by decide +kernel
theorem dX8_isDay_21 : decode cX8_isDay 21 = .ok (.iload_n 2, 1) := by decide +kernel
theorem dX8_isDay_22 : decode cX8_isDay 22 = .ok (.invokestatic 38, 3) := by decide +kernel
theorem dX8_isDay_25 : decode cX8_isDay 25 = .ok (.istore_n 3, 1) := by decide +kernel
theorem dX8_isDay_26 : decode cX8_isDay 26 = .ok (.iload_n 3, 1) := by decide +kernel
theorem dX8_isDay_27 : decode cX8_isDay 27 = .ok (.ifCond .eq 15, 3) := by decide +kernel
theorem dX8_isDay_30 : decode cX8_isDay 30 = .ok (.iload_n 3, 1) := by decide +kernel
theorem dX8_isDay_31 : decode cX8_isDay 31 = .ok (.aload_n 0, 1) := by decide +kernel
theorem dX8_isDay_32 : decode cX8_isDay 32 = .ok (.getfield 19, 3) := by decide +kernel
theorem dX8_isDay_35 : decode cX8_isDay 35 = .ok (.iload_n 2, 1) := by decide +kernel
theorem dX8_isDay_36 : decode cX8_isDay 36 = .ok (.iaload, 1) := by decide +kernel
theorem dX8_isDay_37 : decode cX8_isDay 37 = .ok (.if_icmp .lt 5, 3) := by decide +kernel
theorem dX8_isDay_40 : decode cX8_isDay 40 = .ok (.iconst 0, 1) := by decide +kernel
theorem dX8_isDay_41 : decode cX8_isDay 41 = .ok (.ireturn, 1) := by decide +kernel
theorem dX8_isDay_42 : decode cX8_isDay 42 = .ok (.iinc 2 1, 3) := by decide +kernel
theorem dX8_isDay_45 : decode cX8_isDay 45 = .ok (.goto (-30), 3) := by decide +kernel
theorem dX8_isDay_48 : decode cX8_isDay 48 = .ok (.iconst 1, 1) := by decide +kernel
theorem dX8_isDay_49 : decode cX8_isDay 49 = .ok (.ireturn, 1) := by decide +kernel
theorem dX8_isTold_0 : decode cX8_isTold 0 = .ok (.iload_n 2, 1) := by decide +kernel
theorem dX8_isTold_1 : decode cX8_isTold 1 = .ok (.iconst 3, 1) := by decide +kernel
theorem dX8_isTold_2 : decode cX8_isTold 2 = .ok (.if_icmp .ne 44, 3) := by decide +kernel
theorem dX8_isTold_5 : decode cX8_isTold 5 = .ok (.iload_n 1, 1) := by decide +kernel
theorem dX8_isTold_6 : decode cX8_isTold 6 = .ok (.ifCond .lt 38, 3) := by decide +kernel
theorem dX8_isTold_9 : decode cX8_isTold 9 = .ok (.iload_n 1, 1) := by decide +kernel
theorem dX8_isTold_10 : decode cX8_isTold 10 = .ok (.bipush 10, 2) := by decide +kernel
theorem dX8_isTold_12 : decode cX8_isTold 12 = .ok (.idiv, 1) := by decide +kernel
theorem dX8_isTold_13 : decode cX8_isTold 13 = .ok (.invokestatic 59, 3) := by decide +kernel
theorem dX8_isTold_16 : decode cX8_isTold 16 = .ok (.ifCond .eq 28, 3) := by decide +kernel
theorem dX8_isTold_19 : decode cX8_isTold 19 = .ok (.iload_n 1, 1) := by decide +kernel
theorem dX8_isTold_20 : decode cX8_isTold 20 = .ok (.bipush 10, 2) := by decide +kernel
theorem dX8_isTold_22 : decode cX8_isTold 22 = .ok (.irem, 1) := by decide +kernel
theorem dX8_isTold_23 : decode cX8_isTold 23 = .ok (.invokestatic 59, 3) := by decide +kernel
theorem dX8_isTold_26 : decode cX8_isTold 26 = .ok (.ifCond .eq 18, 3) := by decide +kernel
theorem dX8_isTold_29 : decode cX8_isTold 29 = .ok (.iload_n 1, 1) := by decide +kernel
theorem dX8_isTold_30 : decode cX8_isTold 30 = .ok (.bipush 10, 2) := by decide +kernel
theorem dX8_isTold_32 : decode cX8_isTold 32 = .ok (.idiv, 1) := by decide +kernel
theorem dX8_isTold_33 : decode cX8_isTold 33 = .ok (.iload_n 1, 1) := by decide +kernel
theorem dX8_isTold_34 : decode cX8_isTold 34 = .ok (.bipush 10, 2) := by decide +kernel
theorem dX8_isTold_36 : decode cX8_isTold 36 = .ok (.irem, 1) := by decide +kernel
theorem dX8_isTold_37 : decode cX8_isTold 37 = .ok (.if_icmp .eq 7, 3) := by decide +kernel
theorem dX8_isTold_40 : decode cX8_isTold 40 = .ok (.iconst 1, 1) := by decide +kernel
theorem dX8_isTold_41 : decode cX8_isTold 41 = .ok (.goto 4, 3) := by decide +kernel
theorem dX8_isTold_44 : decode cX8_isTold 44 = .ok (.iconst 0, 1) := by decide +kernel
theorem dX8_isTold_45 : decode cX8_isTold 45 = .ok (.ireturn, 1) := by decide +kernel
theorem dX8_isTold_46 : decode cX8_isTold 46 = .ok (.iload_n 2, 1) := by decide +kernel
theorem dX8_isTold_47 : decode cX8_isTold 47 = .ok (.ifCond .lt 20, 3) := by decide +kernel
theorem dX8_isTold_50 : decode cX8_isTold 50 = .ok (.iload_n 2, 1) := by decide +kernel
theorem dX8_isTold_51 : decode cX8_isTold 51 = .ok (.iconst 2, 1) := by decide +kernel
theorem dX8_isTold_52 : decode cX8_isTold 52 = .ok (.if_icmp .gt 15, 3) := by decide +kernel
theorem dX8_isTold_55 : decode cX8_isTold 55 = .ok (.aload_n 0, 1) := by decide +kernel
theorem dX8_isTold_56 : decode cX8_isTold 56 = .ok (.iload_n 1, 1) := by decide +kernel
theorem dX8_isTold_57 : decode cX8_isTold 57 = .ok (.invokevirtual 55, 3) := by decide +kernel
theorem dX8_isTold_60 : decode cX8_isTold 60 = .ok (.ifCond .eq 7, 3) := by decide +kernel
theorem dX8_isTold_63 : decode cX8_isTold 63 = .ok (.iconst 1, 1) := by decide +kernel
theorem dX8_isTold_64 : decode cX8_isTold 64 = .ok (.goto 4, 3) := by decide +kernel
theorem dX8_isTold_67 : decode cX8_isTold 67 = .ok (.iconst 0, 1) := by decide +kernel
theorem dX8_isTold_68 : decode cX8_isTold 68 = .ok (.ireturn, 1) := by decide +kernel
theorem dX8_told_0 : decode cX8_told 0 = .ok (.iload_n 2, 1) := by decide +kernel
theorem dX8_told_1 : decode cX8_told 1 = .ok (.iconst 3, 1) := by decide +kernel
theorem dX8_told_2 : decode cX8_told 2 = .ok (.if_icmp .ne 20, 3) := by decide +kernel
theorem dX8_told_5 : decode cX8_told 5 = .ok (.aload_n 0, 1) := by decide +kernel
theorem dX8_told_6 : decode cX8_told 6 = .ok (.getfield 16, 3) := by decide +kernel
theorem dX8_told_9 : decode cX8_told 9 = .ok (.iload_n 1, 1) := by decide +kernel
theorem dX8_told_10 : decode cX8_told 10 = .ok (.bipush 10, 2) := by decide +kernel
theorem dX8_told_12 : decode cX8_told 12 = .ok (.idiv, 1) := by decide +kernel
theorem dX8_told_13 : decode cX8_told 13 = .ok (.aaload, 1) := by decide +kernel
theorem dX8_told_14 : decode cX8_told 14 = .ok (.iload_n 1, 1) := by decide +kernel
theorem dX8_told_15 : decode cX8_told 15 = .ok (.bipush 10, 2) := by decide +kernel
theorem dX8_told_17 : decode cX8_told 17 = .ok (.irem, 1) := by decide +kernel
theorem dX8_told_18 : decode cX8_told 18 = .ok (.iaload, 1) := by decide +kernel
theorem dX8_told_19 : decode cX8_told 19 = .ok (.goto 11, 3) := by decide +kernel
theorem dX8_told_22 : decode cX8_told 22 = .ok (.aload_n 0, 1) := by decide +kernel
theorem dX8_told_23 : decode cX8_told 23 = .ok (.getfield 11, 3) := by decide +kernel
theorem dX8_told_26 : decode cX8_told 26 = .ok (.iload_n 2, 1) := by decide +kernel
theorem dX8_told_27 : decode cX8_told 27 = .ok (.aaload, 1) := by decide +kernel
theorem dX8_told_28 : decode cX8_told 28 = .ok (.iload_n 1, 1) := by decide +kernel
theorem dX8_told_29 : decode cX8_told 29 = .ok (.iaload, 1) := by decide +kernel
theorem dX8_told_30 : decode cX8_told 30 = .ok (.ireturn, 1) := by decide +kernel
theorem dX8_tell_0 : decode cX8_tell 0 = .ok (.iload_n 2, 1) := by decide +kernel
theorem dX8_tell_1 : decode cX8_tell 1 = .ok (.iconst 3, 1) := by decide +kernel
theorem dX8_tell_2 : decode cX8_tell 2 = .ok (.if_icmp .ne 36, 3) := by decide +kernel
theorem dX8_tell_5 : decode cX8_tell 5 = .ok (.aload_n 0, 1) := by decide +kernel
theorem dX8_tell_6 : decode cX8_tell 6 = .ok (.getfield 16, 3) := by decide +kernel
theorem dX8_tell_9 : decode cX8_tell 9 = .ok (.iload_n 1, 1) := by decide +kernel
theorem dX8_tell_10 : decode cX8_tell 10 = .ok (.bipush 10, 2) := by decide +kernel
theorem dX8_tell_12 : decode cX8_tell 12 = .ok (.idiv, 1) := by decide +kernel
theorem dX8_tell_13 : decode cX8_tell 13 = .ok (.aaload, 1) := by decide +kernel
theorem dX8_tell_14 : decode cX8_tell 14 = .ok (.iload_n 1, 1) := by decide +kernel
theorem dX8_tell_15 : decode cX8_tell 15 = .ok (.bipush 10, 2) := by decide +kernel
theorem dX8_tell_17 : decode cX8_tell 17 = .ok (.irem, 1) := by decide +kernel
theorem dX8_tell_18 : decode cX8_tell 18 = .ok (.iload_n 3, 1) := by decide +kernel
theorem dX8_tell_19 : decode cX8_tell 19 = .ok (.iastore, 1) := by decide +kernel
theorem dX8_tell_20 : decode cX8_tell 20 = .ok (.aload_n 0, 1) := by decide +kernel
theorem dX8_tell_21 : decode cX8_tell 21 = .ok (.getfield 16, 3) := by decide +kernel
theorem dX8_tell_24 : decode cX8_tell 24 = .ok (.iload_n 1, 1) := by decide +kernel
theorem dX8_tell_25 : decode cX8_tell 25 = .ok (.bipush 10, 2) := by decide +kernel
theorem dX8_tell_27 : decode cX8_tell 27 = .ok (.irem, 1) := by decide +kernel
theorem dX8_tell_28 : decode cX8_tell 28 = .ok (.aaload, 1) := by decide +kernel
theorem dX8_tell_29 : decode cX8_tell 29 = .ok (.iload_n 1, 1) := by decide +kernel
theorem dX8_tell_30 : decode cX8_tell 30 = .ok (.bipush 10, 2) := by decide +kernel
theorem dX8_tell_32 : decode cX8_tell 32 = .ok (.idiv, 1) := by decide +kernel
theorem dX8_tell_33 : decode cX8_tell 33 = .ok (.iload_n 3, 1) := by decide +kernel
theorem dX8_tell_34 : decode cX8_tell 34 = .ok (.iastore, 1) := by decide +kernel
theorem dX8_tell_35 : decode cX8_tell 35 = .ok (.goto 12, 3) := by decide +kernel
theorem dX8_tell_38 : decode cX8_tell 38 = .ok (.aload_n 0, 1) := by decide +kernel
theorem dX8_tell_39 : decode cX8_tell 39 = .ok (.getfield 11, 3) := by decide +kernel
theorem dX8_tell_42 : decode cX8_tell 42 = .ok (.iload_n 2, 1) := by decide +kernel
theorem dX8_tell_43 : decode cX8_tell 43 = .ok (.aaload, 1) := by decide +kernel
theorem dX8_tell_44 : decode cX8_tell 44 = .ok (.iload_n 1, 1) := by decide +kernel
theorem dX8_tell_45 : decode cX8_tell 45 = .ok (.iload_n 3, 1) := by decide +kernel
theorem dX8_tell_46 : decode cX8_tell 46 = .ok (.iastore, 1) := by decide +kernel
theorem dX8_tell_47 : decode cX8_tell 47 = .ok (.iload_n 2, 1) := by decide +kernel
theorem dX8_tell_48 : decode cX8_tell 48 = .ok (.iconst 3, 1) := by decide +kernel
theorem dX8_tell_49 : decode cX8_tell 49 = .ok (.if_icmp .eq 8, 3) := by decide +kernel
theorem dX8_tell_52 : decode cX8_tell 52 = .ok (.iload_n 2, 1) := by decide +kernel
theorem dX8_tell_53 : decode cX8_tell 53 = .ok (.iconst 1, 1) := by decide +kernel
theorem dX8_tell_54 : decode cX8_tell 54 = .ok (.if_icmp .ne 7, 3) := by decide +kernel
theorem dX8_tell_57 : decode cX8_tell 57 = .ok (.aload_n 0, 1) := by decide +kernel
theorem dX8_tell_58 : decode cX8_tell 58 = .ok (.invokevirtual 62, 3) := by decide +kernel
theorem dX8_tell_61 : decode cX8_tell 61 = .ok (.return_, 1) := by decide +kernel
theorem dX8_lead_0 : decode cX8_lead 0 = .ok (.aload_n 0, 1) := by decide +kernel
theorem dX8_lead_1 : decode cX8_lead 1 = .ok (.getfield 11, 3) := by decide +kernel
theorem dX8_lead_4 : decode cX8_lead 4 = .ok (.iconst 0, 1) := by decide +kernel
theorem dX8_lead_5 : decode cX8_lead 5 = .ok (.aaload, 1) := by decide +kernel
theorem dX8_lead_6 : decode cX8_lead 6 = .ok (.iload_n 1, 1) := by decide +kernel
theorem dX8_lead_7 : decode cX8_lead 7 = .ok (.iaload, 1) := by decide +kernel
theorem dX8_lead_8 : decode cX8_lead 8 = .ok (.ireturn, 1) := by decide +kernel
theorem dX8_tryLead_0 : decode cX8_tryLead 0 = .ok (.aload_n 0, 1) := by decide +kernel
theorem dX8_tryLead_1 : decode cX8_tryLead 1 = .ok (.getfield 11, 3) := by decide +kernel
theorem dX8_tryLead_4 : decode cX8_tryLead 4 = .ok (.iconst 0, 1) := by decide +kernel
theorem dX8_tryLead_5 : decode cX8_tryLead 5 = .ok (.aaload, 1) := by decide +kernel
theorem dX8_tryLead_6 : decode cX8_tryLead 6 = .ok (.iload_n 1, 1) := by decide +kernel
theorem dX8_tryLead_7 : decode cX8_tryLead 7 = .ok (.iload_n 2, 1) := by decide +kernel
theorem dX8_tryLead_8 : decode cX8_tryLead 8 = .ok (.iastore, 1) := by decide +kernel
theorem dX8_tryLead_9 : decode cX8_tryLead 9 = .ok (.return_, 1) := by decide +kernel
theorem dX8_start_0 : decode cX8_start 0 = .ok (.aload_n 0, 1) := by decide +kernel
theorem dX8_start_1 : decode cX8_start 1 = .ok (.getfield 11, 3) := by decide +kernel
theorem dX8_start_4 : decode cX8_start 4 = .ok (.iconst 1, 1) := by decide +kernel
theorem dX8_start_5 : decode cX8_start 5 = .ok (.aaload, 1) := by decide +kernel
theorem dX8_start_6 : decode cX8_start 6 = .ok (.iload_n 1, 1) := by decide +kernel
theorem dX8_start_7 : decode cX8_start 7 = .ok (.iaload, 1) := by decide +kernel
theorem dX8_start_8 : decode cX8_start 8 = .ok (.ireturn, 1) := by decide +kernel
theorem dX8_addWalker_0 : decode cX8_addWalker 0 = .ok (.aload_n 0, 1) := by decide +kernel
theorem dX8_addWalker_1 : decode cX8_addWalker 1 = .ok (.getfield 51, 3) := by decide +kernel
theorem dX8_addWalker_4 : decode cX8_addWalker 4 = .ok (.istore_n 1, 1) := by decide +kernel
theorem dX8_addWalker_5 : decode cX8_addWalker 5 = .ok (.aload_n 0, 1) := by decide +kernel
theorem dX8_addWalker_6 : decode cX8_addWalker 6 = .ok (.getfield 11, 3) := by decide +kernel
theorem dX8_addWalker_9 : decode cX8_addWalker 9 = .ok (.iconst 0, 1) := by decide +kernel
theorem dX8_addWalker_10 : decode cX8_addWalker 10 = .ok (.aaload, 1) := by decide +kernel
theorem dX8_addWalker_11 : decode cX8_addWalker 11 = .ok (.iload_n 1, 1) := by decide +kernel
theorem dX8_addWalker_12 : decode cX8_addWalker 12 = .ok (.bipush 10, 2) := by decide +kernel
theorem dX8_addWalker_14 : decode cX8_addWalker 14 = .ok (.iastore, 1) := by decide +kernel
theorem dX8_addWalker_15 : decode cX8_addWalker 15 = .ok (.aload_n 0, 1) := by decide +kernel
theorem dX8_addWalker_16 : decode cX8_addWalker 16 = .ok (.getfield 11, 3) := by decide +kernel
theorem dX8_addWalker_19 : decode cX8_addWalker 19 = .ok (.iconst 1, 1) := by decide +kernel
theorem dX8_addWalker_20 : decode cX8_addWalker 20 = .ok (.aaload, 1) := by decide +kernel
theorem dX8_addWalker_21 : decode cX8_addWalker 21 = .ok (.iload_n 1, 1) := by decide +kernel
theorem dX8_addWalker_22 : decode cX8_addWalker 22 = .ok (.iconst 0, 1) := by decide +kernel
theorem dX8_addWalker_23 : decode cX8_addWalker 23 = .ok (.iastore, 1) := by decide +kernel
theorem dX8_addWalker_24 : decode cX8_addWalker 24 = .ok (.aload_n 0, 1) := by decide +kernel
theorem dX8_addWalker_25 : decode cX8_addWalker 25 = .ok (.getfield 11, 3) := by decide +kernel
theorem dX8_addWalker_28 : decode cX8_addWalker 28 = .ok (.iconst 2, 1) := by decide +kernel
theorem dX8_addWalker_29 : decode cX8_addWalker 29 = .ok (.aaload, 1) := by decide +kernel
theorem dX8_addWalker_30 : decode cX8_addWalker 30 = .ok (.iload_n 1, 1) := by decide +kernel
theorem dX8_addWalker_31 : decode cX8_addWalker 31 = .ok (.bipush 10, 2) := by decide +kernel
theorem dX8_addWalker_33 : decode cX8_addWalker 33 = .ok (.iastore, 1) := by decide +kernel
theorem dX8_addWalker_34 : decode cX8_addWalker 34 = .ok (.aload_n 0, 1) := by decide +kernel
theorem dX8_addWalker_35 : decode cX8_addWalker 35 = .ok (.dup, 1) := by decide +kernel
theorem dX8_addWalker_36 : decode cX8_addWalker 36 = .ok (.getfield 51, 3) := by decide +kernel
theorem dX8_addWalker_39 : decode cX8_addWalker 39 = .ok (.iconst 1, 1) := by decide +kernel
theorem dX8_addWalker_40 : decode cX8_addWalker 40 = .ok (.iadd, 1) := by decide +kernel
theorem dX8_addWalker_41 : decode cX8_addWalker 41 = .ok (.putfield 51, 3) := by decide +kernel
theorem dX8_addWalker_44 : decode cX8_addWalker 44 = .ok (.iload_n 1, 1) := by decide +kernel
theorem dX8_addWalker_45 : decode cX8_addWalker 45 = .ok (.ireturn, 1) := by decide +kernel
theorem dX8_addWay_0 : decode cX8_addWay 0 = .ok (.aload_n 0, 1) := by decide +kernel
theorem dX8_addWay_1 : decode cX8_addWay 1 = .ok (.getfield 19, 3) := by decide +kernel
theorem dX8_addWay_4 : decode cX8_addWay 4 = .ok (.iload_n 1, 1) := by decide +kernel
theorem dX8_addWay_5 : decode cX8_addWay 5 = .ok (.iaload, 1) := by decide +kernel
theorem dX8_addWay_6 : decode cX8_addWay 6 = .ok (.istore 5, 2) := by decide +kernel
theorem dX8_addWay_8 : decode cX8_addWay 8 = .ok (.iload_n 1, 1) := by decide +kernel
theorem dX8_addWay_9 : decode cX8_addWay 9 = .ok (.iload 5, 2) := by decide +kernel
theorem dX8_addWay_11 : decode cX8_addWay 11 = .ok (.invokestatic 42, 3) := by decide +kernel
theorem dX8_addWay_14 : decode cX8_addWay 14 = .ok (.istore 6, 2) := by decide +kernel
theorem dX8_addWay_16 : decode cX8_addWay 16 = .ok (.iconst 0, 1) := by decide +kernel
theorem dX8_addWay_17 : decode cX8_addWay 17 = .ok (.istore 7, 2) := by decide +kernel
theorem dX8_addWay_19 : decode cX8_addWay 19 = .ok (.iload 7, 2) := by decide +kernel
theorem dX8_addWay_21 : decode cX8_addWay 21 = .ok (.iload 4, 2) := by decide +kernel
theorem dX8_addWay_23 : decode cX8_addWay 23 = .ok (.if_icmp .ge 26, 3) := by decide +kernel
theorem dX8_addWay_26 : decode cX8_addWay 26 = .ok (.aload_n 0, 1) := by decide +kernel
theorem dX8_addWay_27 : decode cX8_addWay 27 = .ok (.getfield 26, 3) := by decide +kernel
theorem dX8_addWay_30 : decode cX8_addWay 30 = .ok (.iload 6, 2) := by decide +kernel
theorem dX8_addWay_32 : decode cX8_addWay 32 = .ok (.aaload, 1) := by decide +kernel
theorem dX8_addWay_33 : decode cX8_addWay 33 = .ok (.iload 7, 2) := by decide +kernel
theorem dX8_addWay_35 : decode cX8_addWay 35 = .ok (.aload_n 2, 1) := by decide +kernel
theorem dX8_addWay_36 : decode cX8_addWay 36 = .ok (.iload_n 3, 1) := by decide +kernel
theorem dX8_addWay_37 : decode cX8_addWay 37 = .ok (.iload 7, 2) := by decide +kernel
theorem dX8_addWay_39 : decode cX8_addWay 39 = .ok (.iadd, 1) := by decide +kernel
theorem dX8_addWay_40 : decode cX8_addWay 40 = .ok (.laload, 1) := by decide +kernel
theorem dX8_addWay_41 : decode cX8_addWay 41 = .ok (.l2i, 1) := by decide +kernel
theorem dX8_addWay_42 : decode cX8_addWay 42 = .ok (.iastore, 1) := by decide +kernel
theorem dX8_addWay_43 : decode cX8_addWay 43 = .ok (.iinc 7 1, 3) := by decide +kernel
theorem dX8_addWay_46 : decode cX8_addWay 46 = .ok (.goto (-27), 3) := by decide +kernel
theorem dX8_addWay_49 : decode cX8_addWay 49 = .ok (.aload_n 0, 1) := by decide +kernel
theorem dX8_addWay_50 : decode cX8_addWay 50 = .ok (.getfield 23, 3) := by decide +kernel
theorem dX8_addWay_53 : decode cX8_addWay 53 = .ok (.iload 6, 2) := by decide +kernel
theorem dX8_addWay_55 : decode cX8_addWay 55 = .ok (.iload 4, 2) := by decide +kernel
theorem dX8_addWay_57 : decode cX8_addWay 57 = .ok (.iastore, 1) := by decide +kernel
theorem dX8_addWay_58 : decode cX8_addWay 58 = .ok (.aload_n 0, 1) := by decide +kernel
theorem dX8_addWay_59 : decode cX8_addWay 59 = .ok (.getfield 19, 3) := by decide +kernel
theorem dX8_addWay_62 : decode cX8_addWay 62 = .ok (.iload_n 1, 1) := by decide +kernel
theorem dX8_addWay_63 : decode cX8_addWay 63 = .ok (.dup2, 1) := by decide +kernel
theorem dX8_addWay_64 : decode cX8_addWay 64 = .ok (.iaload, 1) := by decide +kernel
theorem dX8_addWay_65 : decode cX8_addWay 65 = .ok (.iconst 1, 1) := by decide +kernel
theorem dX8_addWay_66 : decode cX8_addWay 66 = .ok (.iadd, 1) := by decide +kernel
theorem dX8_addWay_67 : decode cX8_addWay 67 = .ok (.iastore, 1) := by decide +kernel
theorem dX8_addWay_68 : decode cX8_addWay 68 = .ok (.aload_n 0, 1) := by decide +kernel
theorem dX8_addWay_69 : decode cX8_addWay 69 = .ok (.iload 6, 2) := by decide +kernel
theorem dX8_addWay_71 : decode cX8_addWay 71 = .ok (.invokevirtual 65, 3) := by decide +kernel
theorem dX8_addWay_74 : decode cX8_addWay 74 = .ok (.iload 5, 2) := by decide +kernel
theorem dX8_addWay_76 : decode cX8_addWay 76 = .ok (.ireturn, 1) := by decide +kernel
theorem dX8_reckonAll_0 : decode cX8_reckonAll 0 = .ok (.iconst 0, 1) := by decide +kernel
theorem dX8_reckonAll_1 : decode cX8_reckonAll 1 = .ok (.istore_n 1, 1) := by decide +kernel
theorem dX8_reckonAll_2 : decode cX8_reckonAll 2 = .ok (.iload_n 1, 1) := by decide +kernel
theorem dX8_reckonAll_3 : decode cX8_reckonAll 3 = .ok (.bipush 20, 2) := by decide +kernel
theorem dX8_reckonAll_5 : decode cX8_reckonAll 5 = .ok (.if_icmp .ge 14, 3) := by decide +kernel
theorem dX8_reckonAll_8 : decode cX8_reckonAll 8 = .ok (.aload_n 0, 1) := by decide +kernel
theorem dX8_reckonAll_9 : decode cX8_reckonAll 9 = .ok (.iload_n 1, 1) := by decide +kernel
theorem dX8_reckonAll_10 : decode cX8_reckonAll 10 = .ok (.invokevirtual 65, 3) := by decide +kernel
theorem dX8_reckonAll_13 : decode cX8_reckonAll 13 = .ok (.iinc 1 1, 3) := by decide +kernel
theorem dX8_reckonAll_16 : decode cX8_reckonAll 16 = .ok (.goto (-14), 3) := by decide +kernel
theorem dX8_reckonAll_19 : decode cX8_reckonAll 19 = .ok (.return_, 1) := by decide +kernel
theorem dX8_reckon_0 : decode cX8_reckon 0 = .ok (.aload_n 0, 1) := by decide +kernel
theorem dX8_reckon_1 : decode cX8_reckon 1 = .ok (.iload_n 1, 1) := by decide +kernel
theorem dX8_reckon_2 : decode cX8_reckon 2 = .ok (.iconst 4, 1) := by decide +kernel
theorem dX8_reckon_3 : decode cX8_reckon 3 = .ok (.idiv, 1) := by decide +kernel
theorem dX8_reckon_4 : decode cX8_reckon 4 = .ok (.invokevirtual 69, 3) := by decide +kernel
theorem dX8_reckon_7 : decode cX8_reckon 7 = .ok (.istore_n 2, 1) := by decide +kernel
theorem dX8_reckon_8 : decode cX8_reckon 8 = .ok (.iconst 0, 1) := by decide +kernel
theorem dX8_reckon_9 : decode cX8_reckon 9 = .ok (.istore_n 3, 1) := by decide +kernel
theorem dX8_reckon_10 : decode cX8_reckon 10 = .ok (.iload_n 3, 1) := by decide +kernel
theorem dX8_reckon_11 : decode cX8_reckon 11 = .ok (.aload_n 0, 1) := by decide +kernel
theorem dX8_reckon_12 : decode cX8_reckon 12 = .ok (.getfield 23, 3) := by decide +kernel
theorem dX8_reckon_15 : decode cX8_reckon 15 = .ok (.iload_n 1, 1) := by decide +kernel
theorem dX8_reckon_16 : decode cX8_reckon 16 = .ok (.iaload, 1) := by decide +kernel
theorem dX8_reckon_17 : decode cX8_reckon 17 = .ok (.if_icmp .ge 47, 3) := by decide +kernel
theorem dX8_reckon_20 : decode cX8_reckon 20 = .ok (.iload_n 3, 1) := by decide +kernel
theorem dX8_reckon_21 : decode cX8_reckon 21 = .ok (.ifCond .le 28, 3) := by decide +kernel
theorem dX8_reckon_24 : decode cX8_reckon 24 = .ok (.iload_n 2, 1) := by decide +kernel
theorem dX8_reckon_25 : decode cX8_reckon 25 = .ok (.aload_n 0, 1) := by decide +kernel
theorem dX8_reckon_26 : decode cX8_reckon 26 = .ok (.aload_n 0, 1) := by decide +kernel
theorem dX8_reckon_27 : decode cX8_reckon 27 = .ok (.getfield 26, 3) := by decide +kernel
theorem dX8_reckon_30 : decode cX8_reckon 30 = .ok (.iload_n 1, 1) := by decide +kernel
theorem dX8_reckon_31 : decode cX8_reckon 31 = .ok (.aaload, 1) := by decide +kernel
theorem dX8_reckon_32 : decode cX8_reckon 32 = .ok (.iload_n 3, 1) := by decide +kernel
theorem dX8_reckon_33 : decode cX8_reckon 33 = .ok (.iconst 1, 1) := by decide +kernel
theorem dX8_reckon_34 : decode cX8_reckon 34 = .ok (.isub, 1) := by decide +kernel
theorem dX8_reckon_35 : decode cX8_reckon 35 = .ok (.iaload, 1) := by decide +kernel
theorem dX8_reckon_36 : decode cX8_reckon 36 = .ok (.aload_n 0, 1) := by decide +kernel
theorem dX8_reckon_37 : decode cX8_reckon 37 = .ok (.getfield 26, 3) := by decide +kernel
theorem dX8_reckon_40 : decode cX8_reckon 40 = .ok (.iload_n 1, 1) := by decide +kernel
theorem dX8_reckon_41 : decode cX8_reckon 41 = .ok (.aaload, 1) := by decide +kernel
theorem dX8_reckon_42 : decode cX8_reckon 42 = .ok (.iload_n 3, 1) := by decide +kernel
theorem dX8_reckon_43 : decode cX8_reckon 43 = .ok (.iaload, 1) := by decide +kernel
theorem dX8_reckon_44 : decode cX8_reckon 44 = .ok (.invokevirtual 73, 3) := by decide +kernel
theorem dX8_reckon_47 : decode cX8_reckon 47 = .ok (.iadd, 1) := by decide +kernel
theorem dX8_reckon_48 : decode cX8_reckon 48 = .ok (.istore_n 2, 1) := by decide +kernel
theorem dX8_reckon_49 : decode cX8_reckon 49 = .ok (.aload_n 0, 1) := by decide +kernel
theorem dX8_reckon_50 : decode cX8_reckon 50 = .ok (.getfield 29, 3) := by decide +kernel
theorem dX8_reckon_53 : decode cX8_reckon 53 = .ok (.iload_n 1, 1) := by decide +kernel
theorem dX8_reckon_54 : decode cX8_reckon 54 = .ok (.aaload, 1) := by decide +kernel
theorem dX8_reckon_55 : decode cX8_reckon 55 = .ok (.iload_n 3, 1) := by decide +kernel
theorem dX8_reckon_56 : decode cX8_reckon 56 = .ok (.iload_n 2, 1) := by decide +kernel
theorem dX8_reckon_57 : decode cX8_reckon 57 = .ok (.iastore, 1) := by decide +kernel
theorem dX8_reckon_58 : decode cX8_reckon 58 = .ok (.iinc 3 1, 3) := by decide +kernel
theorem dX8_reckon_61 : decode cX8_reckon 61 = .ok (.goto (-51), 3) := by decide +kernel
theorem dX8_reckon_64 : decode cX8_reckon 64 = .ok (.return_, 1) := by decide +kernel
theorem dX8_minutesBetween_0 : decode cX8_minutesBetween 0 = .ok (.iload_n 1, 1) := by decide +kernel
theorem dX8_minutesBetween_1 : decode cX8_minutesBetween 1 = .ok (.iload_n 2, 1) := by decide +kernel
theorem dX8_minutesBetween_2 : decode cX8_minutesBetween 2 = .ok (.if_icmp .ne 7, 3) := by decide +kernel
theorem dX8_minutesBetween_5 : decode cX8_minutesBetween 5 = .ok (.iconst 1, 1) := by decide +kernel
theorem dX8_minutesBetween_6 : decode cX8_minutesBetween 6 = .ok (.goto 11, 3) := by decide +kernel
theorem dX8_minutesBetween_9 : decode cX8_minutesBetween 9 = .ok (.aload_n 0, 1) := by decide +kernel
theorem dX8_minutesBetween_10 : decode cX8_minutesBetween 10 = .ok (.getfield 16, 3) := by decide +kernel
theorem dX8_minutesBetween_13 : decode cX8_minutesBetween 13 = .ok (.iload_n 1, 1) := by decide +kernel
theorem dX8_minutesBetween_14 : decode cX8_minutesBetween 14 = .ok (.aaload, 1) := by decide +kernel
theorem dX8_minutesBetween_15 : decode cX8_minutesBetween 15 = .ok (.iload_n 2, 1) := by decide +kernel
theorem dX8_minutesBetween_16 : decode cX8_minutesBetween 16 = .ok (.iaload, 1) := by decide +kernel
theorem dX8_minutesBetween_17 : decode cX8_minutesBetween 17 = .ok (.ireturn, 1) := by decide +kernel
theorem dX8_waysOn_0 : decode cX8_waysOn 0 = .ok (.iconst 0, 1) := by decide +kernel
theorem dX8_waysOn_1 : decode cX8_waysOn 1 = .ok (.istore_n 2, 1) := by decide +kernel
theorem dX8_waysOn_2 : decode cX8_waysOn 2 = .ok (.iconst 0, 1) := by decide +kernel
theorem dX8_waysOn_3 : decode cX8_waysOn 3 = .ok (.istore_n 3, 1) := by decide +kernel
theorem dX8_waysOn_4 : decode cX8_waysOn 4 = .ok (.iload_n 3, 1) := by decide +kernel
theorem dX8_waysOn_5 : decode cX8_waysOn 5 = .ok (.aload_n 0, 1) := by decide +kernel
theorem dX8_waysOn_6 : decode cX8_waysOn 6 = .ok (.getfield 51, 3) := by decide +kernel
theorem dX8_waysOn_9 : decode cX8_waysOn 9 = .ok (.if_icmp .ge 19, 3) := by decide +kernel
theorem dX8_waysOn_12 : decode cX8_waysOn 12 = .ok (.iload_n 2, 1) := by decide +kernel
theorem dX8_waysOn_13 : decode cX8_waysOn 13 = .ok (.iconst 1, 1) := by decide +kernel
theorem dX8_waysOn_14 : decode cX8_waysOn 14 = .ok (.iload_n 1, 1) := by decide +kernel
theorem dX8_waysOn_15 : decode cX8_waysOn 15 = .ok (.iload_n 3, 1) := by decide +kernel
theorem dX8_waysOn_16 : decode cX8_waysOn 16 = .ok (.invokestatic 76, 3) := by decide +kernel
theorem dX8_waysOn_19 : decode cX8_waysOn 19 = .ok (.ishl, 1) := by decide +kernel
theorem dX8_waysOn_20 : decode cX8_waysOn 20 = .ok (.ior, 1) := by decide +kernel
theorem dX8_waysOn_21 : decode cX8_waysOn 21 = .ok (.istore_n 2, 1) := by decide +kernel
theorem dX8_waysOn_22 : decode cX8_waysOn 22 = .ok (.iinc 3 1, 3) := by decide +kernel
theorem dX8_waysOn_25 : decode cX8_waysOn 25 = .ok (.goto (-21), 3) := by decide +kernel
theorem dX8_waysOn_28 : decode cX8_waysOn 28 = .ok (.iload_n 2, 1) := by decide +kernel
theorem dX8_waysOn_29 : decode cX8_waysOn 29 = .ok (.ireturn, 1) := by decide +kernel
theorem dX8_waysOfAll_0 : decode cX8_waysOfAll 0 = .ok (.iconst 0, 1) := by decide +kernel
theorem dX8_waysOfAll_1 : decode cX8_waysOfAll 1 = .ok (.istore_n 1, 1) := by decide +kernel
theorem dX8_waysOfAll_2 : decode cX8_waysOfAll 2 = .ok (.iconst 0, 1) := by decide +kernel
theorem dX8_waysOfAll_3 : decode cX8_waysOfAll 3 = .ok (.istore_n 2, 1) := by decide +kernel
theorem dX8_waysOfAll_4 : decode cX8_waysOfAll 4 = .ok (.iload_n 2, 1) := by decide +kernel
theorem dX8_waysOfAll_5 : decode cX8_waysOfAll 5 = .ok (.aload_n 0, 1) := by decide +kernel
theorem dX8_waysOfAll_6 : decode cX8_waysOfAll 6 = .ok (.getfield 51, 3) := by decide +kernel
theorem dX8_waysOfAll_9 : decode cX8_waysOfAll 9 = .ok (.if_icmp .ge 18, 3) := by decide +kernel
theorem dX8_waysOfAll_12 : decode cX8_waysOfAll 12 = .ok (.iload_n 1, 1) := by decide +kernel
theorem dX8_waysOfAll_13 : decode cX8_waysOfAll 13 = .ok (.aload_n 0, 1) := by decide +kernel
theorem dX8_waysOfAll_14 : decode cX8_waysOfAll 14 = .ok (.getfield 19, 3) := by decide +kernel
theorem dX8_waysOfAll_17 : decode cX8_waysOfAll 17 = .ok (.iload_n 2, 1) := by decide +kernel
theorem dX8_waysOfAll_18 : decode cX8_waysOfAll 18 = .ok (.iaload, 1) := by decide +kernel
theorem dX8_waysOfAll_19 : decode cX8_waysOfAll 19 = .ok (.iadd, 1) := by decide +kernel
theorem dX8_waysOfAll_20 : decode cX8_waysOfAll 20 = .ok (.istore_n 1, 1) := by decide +kernel
theorem dX8_waysOfAll_21 : decode cX8_waysOfAll 21 = .ok (.iinc 2 1, 3) := by decide +kernel
theorem dX8_waysOfAll_24 : decode cX8_waysOfAll 24 = .ok (.goto (-20), 3) := by decide +kernel
theorem dX8_waysOfAll_27 : decode cX8_waysOfAll 27 = .ok (.iload_n 1, 1) := by decide +kernel
theorem dX8_waysOfAll_28 : decode cX8_waysOfAll 28 = .ok (.ireturn, 1) := by decide +kernel
theorem dX8_placeAt_0 : decode cX8_placeAt 0 = .ok (.iconst 0, 1) := by decide +kernel
theorem dX8_placeAt_1 : decode cX8_placeAt 1 = .ok (.istore_n 3, 1) := by decide +kernel
theorem dX8_placeAt_2 : decode cX8_placeAt 2 = .ok (.iload_n 3, 1) := by decide +kernel
theorem dX8_placeAt_3 : decode cX8_placeAt 3 = .ok (.aload_n 0, 1) := by decide +kernel
theorem dX8_placeAt_4 : decode cX8_placeAt 4 = .ok (.getfield 23, 3) := by decide +kernel
theorem dX8_placeAt_7 : decode cX8_placeAt 7 = .ok (.iload_n 1, 1) := by decide +kernel
theorem dX8_placeAt_8 : decode cX8_placeAt 8 = .ok (.iaload, 1) := by decide +kernel
theorem dX8_placeAt_9 : decode cX8_placeAt 9 = .ok (.if_icmp .ge 30, 3) := by decide +kernel
theorem dX8_placeAt_12 : decode cX8_placeAt 12 = .ok (.aload_n 0, 1) := by decide +kernel
theorem dX8_placeAt_13 : decode cX8_placeAt 13 = .ok (.getfield 29, 3) := by decide +kernel
theorem dX8_placeAt_16 : decode cX8_placeAt 16 = .ok (.iload_n 1, 1) := by decide +kernel
theorem dX8_placeAt_17 : decode cX8_placeAt 17 = .ok (.aaload, 1) := by decide +kernel
theorem dX8_placeAt_18 : decode cX8_placeAt 18 = .ok (.iload_n 3, 1) := by decide +kernel
theorem dX8_placeAt_19 : decode cX8_placeAt 19 = .ok (.iaload, 1) := by decide +kernel
theorem dX8_placeAt_20 : decode cX8_placeAt 20 = .ok (.iload_n 2, 1) := by decide +kernel
theorem dX8_placeAt_21 : decode cX8_placeAt 21 = .ok (.if_icmp .ne 12, 3) := by decide +kernel
theorem dX8_placeAt_24 : decode cX8_placeAt 24 = .ok (.aload_n 0, 1) := by decide +kernel
theorem dX8_placeAt_25 : decode cX8_placeAt 25 = .ok (.getfield 26, 3) := by decide +kernel
theorem dX8_placeAt_28 : decode cX8_placeAt 28 = .ok (.iload_n 1, 1) := by decide +kernel
theorem dX8_placeAt_29 : decode cX8_placeAt 29 = .ok (.aaload, 1) := by decide +kernel
theorem dX8_placeAt_30 : decode cX8_placeAt 30 = .ok (.iload_n 3, 1) := by decide +kernel
theorem dX8_placeAt_31 : decode cX8_placeAt 31 = .ok (.iaload, 1) := by decide +kernel
theorem dX8_placeAt_32 : decode cX8_placeAt 32 = .ok (.ireturn, 1) := by decide +kernel
theorem dX8_placeAt_33 : decode cX8_placeAt 33 = .ok (.iinc 3 1, 3) := by decide +kernel
theorem dX8_placeAt_36 : decode cX8_placeAt 36 = .ok (.goto (-34), 3) := by decide +kernel
theorem dX8_placeAt_39 : decode cX8_placeAt 39 = .ok (.bipush (-2), 2) := by decide +kernel
theorem dX8_placeAt_41 : decode cX8_placeAt 41 = .ok (.ireturn, 1) := by decide +kernel
theorem dX8_goesBy_0 : decode cX8_goesBy 0 = .ok (.iconst 0, 1) := by decide +kernel
theorem dX8_goesBy_1 : decode cX8_goesBy 1 = .ok (.istore_n 3, 1) := by decide +kernel
theorem dX8_goesBy_2 : decode cX8_goesBy 2 = .ok (.iload_n 3, 1) := by decide +kernel
theorem dX8_goesBy_3 : decode cX8_goesBy 3 = .ok (.aload_n 0, 1) := by decide +kernel
theorem dX8_goesBy_4 : decode cX8_goesBy 4 = .ok (.getfield 23, 3) := by decide +kernel
theorem dX8_goesBy_7 : decode cX8_goesBy 7 = .ok (.iload_n 1, 1) := by decide +kernel
theorem dX8_goesBy_8 : decode cX8_goesBy 8 = .ok (.iaload, 1) := by decide +kernel
theorem dX8_goesBy_9 : decode cX8_goesBy 9 = .ok (.if_icmp .ge 23, 3) := by decide +kernel
theorem dX8_goesBy_12 : decode cX8_goesBy 12 = .ok (.aload_n 0, 1) := by decide +kernel
theorem dX8_goesBy_13 : decode cX8_goesBy 13 = .ok (.getfield 26, 3) := by decide +kernel
theorem dX8_goesBy_16 : decode cX8_goesBy 16 = .ok (.iload_n 1, 1) := by decide +kernel
theorem dX8_goesBy_17 : decode cX8_goesBy 17 = .ok (.aaload, 1) := by decide +kernel
theorem dX8_goesBy_18 : decode cX8_goesBy 18 = .ok (.iload_n 3, 1) := by decide +kernel
theorem dX8_goesBy_19 : decode cX8_goesBy 19 = .ok (.iaload, 1) := by decide +kernel
theorem dX8_goesBy_20 : decode cX8_goesBy 20 = .ok (.iload_n 2, 1) := by decide +kernel
theorem dX8_goesBy_21 : decode cX8_goesBy 21 = .ok (.if_icmp .ne 5, 3) := by decide +kernel
theorem dX8_goesBy_24 : decode cX8_goesBy 24 = .ok (.iconst 1, 1) := by decide +kernel
theorem dX8_goesBy_25 : decode cX8_goesBy 25 = .ok (.ireturn, 1) := by decide +kernel
theorem dX8_goesBy_26 : decode cX8_goesBy 26 = .ok (.iinc 3 1, 3) := by decide +kernel
theorem dX8_goesBy_29 : decode cX8_goesBy 29 = .ok (.goto (-27), 3) := by decide +kernel
theorem dX8_goesBy_32 : decode cX8_goesBy 32 = .ok (.iconst 0, 1) := by decide +kernel
theorem dX8_goesBy_33 : decode cX8_goesBy 33 = .ok (.ireturn, 1) := by decide +kernel
theorem dX8_tracks_0 : decode cX8_tracks 0 = .ok (.iconst 0, 1) := by decide +kernel
theorem dX8_tracks_1 : decode cX8_tracks 1 = .ok (.istore_n 3, 1) := by decide +kernel
theorem dX8_tracks_2 : decode cX8_tracks 2 = .ok (.iconst 0, 1) := by decide +kernel
theorem dX8_tracks_3 : decode cX8_tracks 3 = .ok (.istore 4, 2) := by decide +kernel
theorem dX8_tracks_5 : decode cX8_tracks 5 = .ok (.iload 4, 2) := by decide +kernel
theorem dX8_tracks_7 : decode cX8_tracks 7 = .ok (.aload_n 0, 1) := by decide +kernel
theorem dX8_tracks_8 : decode cX8_tracks 8 = .ok (.getfield 51, 3) := by decide +kernel
theorem dX8_tracks_11 : decode cX8_tracks 11 = .ok (.iconst 4, 1) := by decide +kernel
theorem dX8_tracks_12 : decode cX8_tracks 12 = .ok (.imul, 1) := by decide +kernel
theorem dX8_tracks_13 : decode cX8_tracks 13 = .ok (.if_icmp .ge 27, 3) := by decide +kernel
theorem dX8_tracks_16 : decode cX8_tracks 16 = .ok (.aload_n 0, 1) := by decide +kernel
theorem dX8_tracks_17 : decode cX8_tracks 17 = .ok (.iload 4, 2) := by decide +kernel
theorem dX8_tracks_19 : decode cX8_tracks 19 = .ok (.iload_n 1, 1) := by decide +kernel
theorem dX8_tracks_20 : decode cX8_tracks 20 = .ok (.iload_n 2, 1) := by decide +kernel
theorem dX8_tracks_21 : decode cX8_tracks 21 = .ok (.invokevirtual 79, 3) := by decide +kernel
theorem dX8_tracks_24 : decode cX8_tracks 24 = .ok (.ifCond .eq 10, 3) := by decide +kernel
theorem dX8_tracks_27 : decode cX8_tracks 27 = .ok (.iload_n 3, 1) := by decide +kernel
theorem dX8_tracks_28 : decode cX8_tracks 28 = .ok (.iconst 1, 1) := by decide +kernel
theorem dX8_tracks_29 : decode cX8_tracks 29 = .ok (.iload 4, 2) := by decide +kernel
theorem dX8_tracks_31 : decode cX8_tracks 31 = .ok (.ishl, 1) := by decide +kernel
theorem dX8_tracks_32 : decode cX8_tracks 32 = .ok (.ior, 1) := by decide +kernel
theorem dX8_tracks_33 : decode cX8_tracks 33 = .ok (.istore_n 3, 1) := by decide +kernel
theorem dX8_tracks_34 : decode cX8_tracks 34 = .ok (.iinc 4 1, 3) := by decide +kernel
theorem dX8_tracks_37 : decode cX8_tracks 37 = .ok (.goto (-32), 3) := by decide +kernel
theorem dX8_tracks_40 : decode cX8_tracks 40 = .ok (.iload_n 3, 1) := by decide +kernel
theorem dX8_tracks_41 : decode cX8_tracks 41 = .ok (.ireturn, 1) := by decide +kernel
theorem dX8_leavesTracks_0 : decode cX8_leavesTracks 0 = .ok (.aload_n 0, 1) := by decide +kernel
theorem dX8_leavesTracks_1 : decode cX8_leavesTracks 1 = .ok (.iload_n 1, 1) := by decide +kernel
theorem dX8_leavesTracks_2 : decode cX8_leavesTracks 2 = .ok (.iconst 4, 1) := by decide +kernel
theorem dX8_leavesTracks_3 : decode cX8_leavesTracks 3 = .ok (.idiv, 1) := by decide +kernel
theorem dX8_leavesTracks_4 : decode cX8_leavesTracks 4 = .ok (.invokevirtual 83, 3) := by decide +kernel
theorem dX8_leavesTracks_7 : decode cX8_leavesTracks 7 = .ok (.istore 4, 2) := by decide +kernel
theorem dX8_leavesTracks_9 : decode cX8_leavesTracks 9 = .ok (.iconst 0, 1) := by decide +kernel
theorem dX8_leavesTracks_10 : decode cX8_leavesTracks 10 = .ok (.istore 5, 2) := by decide +kernel
theorem dX8_leavesTracks_12 : decode cX8_leavesTracks 12 = .ok (.iload 5, 2) := by decide +kernel
theorem dX8_leavesTracks_14 : decode cX8_leavesTracks 14 = .ok (.aload_n 0, 1) := by decide +kernel
theorem dX8_leavesTracks_15 : decode cX8_leavesTracks 15 = .ok (.getfield 23, 3) := by decide +kernel
theorem dX8_leavesTracks_18 : decode cX8_leavesTracks 18 = .ok (.iload_n 1, 1) := by decide +kernel
theorem dX8_leavesTracks_19 : decode cX8_leavesTracks 19 = .ok (.iaload, 1) := by decide +kernel
theorem dX8_leavesTracks_20 : decode cX8_leavesTracks 20 = .ok (.if_icmp .ge 50, 3) := by decide +kernel
theorem dX8_leavesTracks_23 : decode cX8_leavesTracks 23 = .ok (.aload_n 0, 1) := by decide +kernel
theorem dX8_leavesTracks_24 : decode cX8_leavesTracks 24 = .ok (.getfield 29, 3) := by decide +kernel
theorem dX8_leavesTracks_27 : decode cX8_leavesTracks 27 = .ok (.iload_n 1, 1) := by decide +kernel
theorem dX8_leavesTracks_28 : decode cX8_leavesTracks 28 = .ok (.aaload, 1) := by decide +kernel
theorem dX8_leavesTracks_29 : decode cX8_leavesTracks 29 = .ok (.iload 5, 2) := by decide +kernel
theorem dX8_leavesTracks_31 : decode cX8_leavesTracks 31 = .ok (.iaload, 1) := by decide +kernel
theorem dX8_leavesTracks_32 : decode cX8_leavesTracks 32 = .ok (.iload_n 3, 1) := by decide +kernel
theorem dX8_leavesTracks_33 : decode cX8_leavesTracks 33 = .ok (.isub, 1) := by decide +kernel
theorem dX8_leavesTracks_34 : decode cX8_leavesTracks 34 = .ok (.istore 6, 2) := by decide +kernel
theorem dX8_leavesTracks_36 : decode cX8_leavesTracks 36 = .ok (.aload_n 0, 1) := by decide +kernel
theorem dX8_leavesTracks_37 : decode cX8_leavesTracks 37 = .ok (.getfield 26, 3) := by decide +kernel
theorem dX8_leavesTracks_40 : decode cX8_leavesTracks 40 = .ok (.iload_n 1, 1) := by decide +kernel
theorem dX8_leavesTracks_41 : decode cX8_leavesTracks 41 = .ok (.aaload, 1) := by decide +kernel
theorem dX8_leavesTracks_42 : decode cX8_leavesTracks 42 = .ok (.iload 5, 2) := by decide +kernel
theorem dX8_leavesTracks_44 : decode cX8_leavesTracks 44 = .ok (.iaload, 1) := by decide +kernel
theorem dX8_leavesTracks_45 : decode cX8_leavesTracks 45 = .ok (.iload_n 2, 1) := by decide +kernel
theorem dX8_leavesTracks_46 : decode cX8_leavesTracks 46 = .ok (.if_icmp .ne 18, 3) := by decide +kernel
theorem dX8_leavesTracks_49 : decode cX8_leavesTracks 49 = .ok (.iload 6, 2) := by decide +kernel
theorem dX8_leavesTracks_51 : decode cX8_leavesTracks 51 = .ok (.iconst 1, 1) := by decide +kernel
theorem dX8_leavesTracks_52 : decode cX8_leavesTracks 52 = .ok (.if_icmp .lt 12, 3) := by decide +kernel
theorem dX8_leavesTracks_55 : decode cX8_leavesTracks 55 = .ok (.iload 6, 2) := by decide +kernel
theorem dX8_leavesTracks_57 : decode cX8_leavesTracks 57 = .ok (.iload 4, 2) := by decide +kernel
theorem dX8_leavesTracks_59 : decode cX8_leavesTracks 59 = .ok (.if_icmp .gt 5, 3) := by decide +kernel
theorem dX8_leavesTracks_62 : decode cX8_leavesTracks 62 = .ok (.iconst 1, 1) := by decide +kernel
theorem dX8_leavesTracks_63 : decode cX8_leavesTracks 63 = .ok (.ireturn, 1) := by decide +kernel
theorem dX8_leavesTracks_64 : decode cX8_leavesTracks 64 = .ok (.iinc 5 1, 3) := by decide +kernel
theorem dX8_leavesTracks_67 : decode cX8_leavesTracks 67 = .ok (.goto (-55), 3) := by decide +kernel
theorem dX8_leavesTracks_70 : decode cX8_leavesTracks 70 = .ok (.iconst 0, 1) := by decide +kernel
theorem dX8_leavesTracks_71 : decode cX8_leavesTracks 71 = .ok (.ireturn, 1) := by decide +kernel
theorem dX8_meetings_0 : decode cX8_meetings 0 = .ok (.iconst 0, 1) := by decide +kernel
theorem dX8_meetings_1 : decode cX8_meetings 1 = .ok (.istore_n 2, 1) := by decide +kernel
theorem dX8_meetings_2 : decode cX8_meetings 2 = .ok (.iconst 0, 1) := by decide +kernel
theorem dX8_meetings_3 : decode cX8_meetings 3 = .ok (.istore_n 3, 1) := by decide +kernel
theorem dX8_meetings_4 : decode cX8_meetings 4 = .ok (.iload_n 3, 1) := by decide +kernel
theorem dX8_meetings_5 : decode cX8_meetings 5 = .ok (.aload_n 0, 1) := by decide +kernel
theorem dX8_meetings_6 : decode cX8_meetings 6 = .ok (.getfield 51, 3) := by decide +kernel
theorem dX8_meetings_9 : decode cX8_meetings 9 = .ok (.if_icmp .ge 47, 3) := by decide +kernel
theorem dX8_meetings_12 : decode cX8_meetings 12 = .ok (.iload_n 3, 1) := by decide +kernel
theorem dX8_meetings_13 : decode cX8_meetings 13 = .ok (.iconst 1, 1) := by decide +kernel
theorem dX8_meetings_14 : decode cX8_meetings 14 = .ok (.iadd, 1) := by decide +kernel
theorem dX8_meetings_15 : decode cX8_meetings 15 = .ok (.istore 4, 2) := by decide +kernel
theorem dX8_meetings_17 : decode cX8_meetings 17 = .ok (.iload 4, 2) := by decide +kernel
theorem dX8_meetings_19 : decode cX8_meetings 19 = .ok (.aload_n 0, 1) := by decide +kernel
theorem dX8_meetings_20 : decode cX8_meetings 20 = .ok (.getfield 51, 3) := by decide +kernel
theorem dX8_meetings_23 : decode cX8_meetings 23 = .ok (.if_icmp .ge 27, 3) := by decide +kernel
theorem dX8_meetings_26 : decode cX8_meetings 26 = .ok (.iload_n 2, 1) := by decide +kernel
theorem dX8_meetings_27 : decode cX8_meetings 27 = .ok (.aload_n 0, 1) := by decide +kernel
theorem dX8_meetings_28 : decode cX8_meetings 28 = .ok (.iload_n 1, 1) := by decide +kernel
theorem dX8_meetings_29 : decode cX8_meetings 29 = .ok (.iload_n 3, 1) := by decide +kernel
theorem dX8_meetings_30 : decode cX8_meetings 30 = .ok (.invokestatic 76, 3) := by decide +kernel
theorem dX8_meetings_33 : decode cX8_meetings 33 = .ok (.iload_n 1, 1) := by decide +kernel
theorem dX8_meetings_34 : decode cX8_meetings 34 = .ok (.iload 4, 2) := by decide +kernel
theorem dX8_meetings_36 : decode cX8_meetings 36 = .ok (.invokestatic 76, 3) := by decide +kernel
theorem dX8_meetings_39 : decode cX8_meetings 39 = .ok (.invokevirtual 86, 3) := by decide +kernel
theorem dX8_meetings_42 : decode cX8_meetings 42 = .ok (.iadd, 1) := by decide +kernel
theorem dX8_meetings_43 : decode cX8_meetings 43 = .ok (.istore_n 2, 1) := by decide +kernel
theorem dX8_meetings_44 : decode cX8_meetings 44 = .ok (.iinc 4 1, 3) := by decide +kernel
theorem dX8_meetings_47 : decode cX8_meetings 47 = .ok (.goto (-30), 3) := by decide +kernel
theorem dX8_meetings_50 : decode cX8_meetings 50 = .ok (.iinc 3 1, 3) := by decide +kernel
theorem dX8_meetings_53 : decode cX8_meetings 53 = .ok (.goto (-49), 3) := by decide +kernel
theorem dX8_meetings_56 : decode cX8_meetings 56 = .ok (.iload_n 2, 1) := by decide +kernel
theorem dX8_meetings_57 : decode cX8_meetings 57 = .ok (.ireturn, 1) := by decide +kernel
theorem dX8_meetingsOfTwo_0 : decode cX8_meetingsOfTwo 0 = .ok (.iconst 0, 1) := by decide +kernel
theorem dX8_meetingsOfTwo_1 : decode cX8_meetingsOfTwo 1 = .ok (.istore_n 3, 1) := by decide +kernel
theorem dX8_meetingsOfTwo_2 : decode cX8_meetingsOfTwo 2 = .ok (.iconst 0, 1) := by decide +kernel
theorem dX8_meetingsOfTwo_3 : decode cX8_meetingsOfTwo 3 = .ok (.istore 4, 2) := by decide +kernel
theorem dX8_meetingsOfTwo_5 : decode cX8_meetingsOfTwo 5 = .ok (.iload 4, 2) := by decide +kernel
theorem dX8_meetingsOfTwo_7 : decode cX8_meetingsOfTwo 7 = .ok (.aload_n 0, 1) := by decide +kernel
theorem dX8_meetingsOfTwo_8 : decode cX8_meetingsOfTwo 8 = .ok (.getfield 23, 3) := by decide +kernel
theorem dX8_meetingsOfTwo_11 : decode cX8_meetingsOfTwo 11 = .ok (.iload_n 1, 1) := by decide +kernel
theorem dX8_meetingsOfTwo_12 : decode cX8_meetingsOfTwo 12 = .ok (.iaload, 1) := by decide +kernel
theorem dX8_meetingsOfTwo_13 : decode cX8_meetingsOfTwo 13 = .ok (.if_icmp .ge 38, 3) := by decide +kernel
theorem dX8_meetingsOfTwo_16 : decode cX8_meetingsOfTwo 16 = .ok (.aload_n 0, 1) := by decide +kernel
theorem dX8_meetingsOfTwo_17 : decode cX8_meetingsOfTwo 17 = .ok (.iload_n 2, 1) := by decide +kernel
theorem dX8_meetingsOfTwo_18 : decode cX8_meetingsOfTwo 18 = .ok (.aload_n 0, 1) := by decide +kernel
theorem dX8_meetingsOfTwo_19 : decode cX8_meetingsOfTwo 19 = .ok (.getfield 29, 3) := by decide +kernel
theorem dX8_meetingsOfTwo_22 : decode cX8_meetingsOfTwo 22 = .ok (.iload_n 1, 1) := by decide +kernel
theorem dX8_meetingsOfTwo_23 : decode cX8_meetingsOfTwo 23 = .ok (.aaload, 1) := by decide +kernel
theorem dX8_meetingsOfTwo_24 : decode cX8_meetingsOfTwo 24 = .ok (.iload 4, 2) := by decide +kernel
theorem dX8_meetingsOfTwo_26 : decode cX8_meetingsOfTwo 26 = .ok (.iaload, 1) := by decide +kernel
theorem dX8_meetingsOfTwo_27 : decode cX8_meetingsOfTwo 27 = .ok (.invokevirtual 89, 3) := by decide +kernel
theorem dX8_meetingsOfTwo_30 : decode cX8_meetingsOfTwo 30 = .ok (.aload_n 0, 1) := by decide +kernel
theorem dX8_meetingsOfTwo_31 : decode cX8_meetingsOfTwo 31 = .ok (.getfield 26, 3) := by decide +kernel
theorem dX8_meetingsOfTwo_34 : decode cX8_meetingsOfTwo 34 = .ok (.iload_n 1, 1) := by decide +kernel
theorem dX8_meetingsOfTwo_35 : decode cX8_meetingsOfTwo 35 = .ok (.aaload, 1) := by decide +kernel
theorem dX8_meetingsOfTwo_36 : decode cX8_meetingsOfTwo 36 = .ok (.iload 4, 2) := by decide +kernel
theorem dX8_meetingsOfTwo_38 : decode cX8_meetingsOfTwo 38 = .ok (.iaload, 1) := by decide +kernel
theorem dX8_meetingsOfTwo_39 : decode cX8_meetingsOfTwo 39 = .ok (.if_icmp .ne 6, 3) := by decide +kernel
theorem dX8_meetingsOfTwo_42 : decode cX8_meetingsOfTwo 42 = .ok (.iinc 3 1, 3) := by decide +kernel
theorem dX8_meetingsOfTwo_45 : decode cX8_meetingsOfTwo 45 = .ok (.iinc 4 1, 3) := by decide +kernel
theorem dX8_meetingsOfTwo_48 : decode cX8_meetingsOfTwo 48 = .ok (.goto (-43), 3) := by decide +kernel
theorem dX8_meetingsOfTwo_51 : decode cX8_meetingsOfTwo 51 = .ok (.iload_n 3, 1) := by decide +kernel
theorem dX8_meetingsOfTwo_52 : decode cX8_meetingsOfTwo 52 = .ok (.ireturn, 1) := by decide +kernel
theorem dX8_firstMeeting_0 : decode cX8_firstMeeting 0 = .ok (.bipush (-2), 2) := by decide +kernel
theorem dX8_firstMeeting_2 : decode cX8_firstMeeting 2 = .ok (.istore_n 2, 1) := by decide +kernel
theorem dX8_firstMeeting_3 : decode cX8_firstMeeting 3 = .ok (.iconst 0, 1) := by decide +kernel
theorem dX8_firstMeeting_4 : decode cX8_firstMeeting 4 = .ok (.istore_n 3, 1) := by decide +kernel
theorem dX8_firstMeeting_5 : decode cX8_firstMeeting 5 = .ok (.iload_n 3, 1) := by decide +kernel
theorem dX8_firstMeeting_6 : decode cX8_firstMeeting 6 = .ok (.aload_n 0, 1) := by decide +kernel
theorem dX8_firstMeeting_7 : decode cX8_firstMeeting 7 = .ok (.getfield 51, 3) := by decide +kernel
theorem dX8_firstMeeting_10 : decode cX8_firstMeeting 10 = .ok (.if_icmp .ge 68, 3) := by decide +kernel
theorem dX8_firstMeeting_13 : decode cX8_firstMeeting 13 = .ok (.iload_n 3, 1) := by decide +kernel
theorem dX8_firstMeeting_14 : decode cX8_firstMeeting 14 = .ok (.iconst 1, 1) := by decide +kernel
theorem dX8_firstMeeting_15 : decode cX8_firstMeeting 15 = .ok (.iadd, 1) := by decide +kernel
theorem dX8_firstMeeting_16 : decode cX8_firstMeeting 16 = .ok (.istore 4, 2) := by decide +kernel
theorem dX8_firstMeeting_18 : decode cX8_firstMeeting 18 = .ok (.iload 4, 2) := by decide +kernel
theorem dX8_firstMeeting_20 : decode cX8_firstMeeting 20 = .ok (.aload_n 0, 1) := by decide +kernel
theorem dX8_firstMeeting_21 : decode cX8_firstMeeting 21 = .ok (.getfield 51, 3) := by decide +kernel
theorem dX8_firstMeeting_24 : decode cX8_firstMeeting 24 = .ok (.if_icmp .ge 48, 3) := by decide +kernel
theorem dX8_firstMeeting_27 : decode cX8_firstMeeting 27 = .ok (.aload_n 0, 1) := by decide +kernel
theorem dX8_firstMeeting_28 : decode cX8_firstMeeting 28 = .ok (.iload_n 1, 1) := by decide +kernel
theorem dX8_firstMeeting_29 : decode cX8_firstMeeting 29 = .ok (.iload_n 3, 1) := by decide +kernel
theorem dX8_firstMeeting_30 : decode cX8_firstMeeting 30 = .ok (.invokestatic 76, 3) := by decide +kernel
theorem dX8_firstMeeting_33 : decode cX8_firstMeeting 33 = .ok (.iload_n 1, 1) := by decide +kernel
theorem dX8_firstMeeting_34 : decode cX8_firstMeeting 34 = .ok (.iload 4, 2) := by decide +kernel
theorem dX8_firstMeeting_36 : decode cX8_firstMeeting 36 = .ok (.invokestatic 76, 3) := by decide +kernel
theorem dX8_firstMeeting_39 : decode cX8_firstMeeting 39 = .ok (.invokevirtual 92, 3) := by decide +kernel
theorem dX8_firstMeeting_42 : decode cX8_firstMeeting 42 = .ok (.istore 5, 2) := by decide +kernel
theorem dX8_firstMeeting_44 : decode cX8_firstMeeting 44 = .ok (.iload 5, 2) := by decide +kernel
theorem dX8_firstMeeting_46 : decode cX8_firstMeeting 46 = .ok (.bipush (-2), 2) := by decide +kernel
theorem dX8_firstMeeting_48 : decode cX8_firstMeeting 48 = .ok (.if_icmp .eq 18, 3) := by decide +kernel
theorem dX8_firstMeeting_51 : decode cX8_firstMeeting 51 = .ok (.iload_n 2, 1) := by decide +kernel
theorem dX8_firstMeeting_52 : decode cX8_firstMeeting 52 = .ok (.bipush (-2), 2) := by decide +kernel
theorem dX8_firstMeeting_54 : decode cX8_firstMeeting 54 = .ok (.if_icmp .eq 9, 3) := by decide +kernel
theorem dX8_firstMeeting_57 : decode cX8_firstMeeting 57 = .ok (.iload 5, 2) := by decide +kernel
theorem dX8_firstMeeting_59 : decode cX8_firstMeeting 59 = .ok (.iload_n 2, 1) := by decide +kernel
theorem dX8_firstMeeting_60 : decode cX8_firstMeeting 60 = .ok (.if_icmp .ge 6, 3) := by decide +kernel
theorem dX8_firstMeeting_63 : decode cX8_firstMeeting 63 = .ok (.iload 5, 2) := by decide +kernel
theorem dX8_firstMeeting_65 : decode cX8_firstMeeting 65 = .ok (.istore_n 2, 1) := by decide +kernel
theorem dX8_firstMeeting_66 : decode cX8_firstMeeting 66 = .ok (.iinc 4 1, 3) := by decide +kernel
theorem dX8_firstMeeting_69 : decode cX8_firstMeeting 69 = .ok (.goto (-51), 3) := by decide +kernel
theorem dX8_firstMeeting_72 : decode cX8_firstMeeting 72 = .ok (.iinc 3 1, 3) := by decide +kernel
theorem dX8_firstMeeting_75 : decode cX8_firstMeeting 75 = .ok (.goto (-70), 3) := by decide +kernel
theorem dX8_firstMeeting_78 : decode cX8_firstMeeting 78 = .ok (.iload_n 2, 1) := by decide +kernel
theorem dX8_firstMeeting_79 : decode cX8_firstMeeting 79 = .ok (.ireturn, 1) := by decide +kernel
theorem dX8_firstMeetingOfTwo_0 : decode cX8_firstMeetingOfTwo 0 = .ok (.iconst 0, 1) := by decide +kernel
theorem dX8_firstMeetingOfTwo_1 : decode cX8_firstMeetingOfTwo 1 = .ok (.istore_n 3, 1) := by decide +kernel
theorem dX8_firstMeetingOfTwo_2 : decode cX8_firstMeetingOfTwo 2 = .ok (.iload_n 3, 1) := by decide +kernel
theorem dX8_firstMeetingOfTwo_3 : decode cX8_firstMeetingOfTwo 3 = .ok (.aload_n 0, 1) := by decide +kernel
theorem dX8_firstMeetingOfTwo_4 : decode cX8_firstMeetingOfTwo 4 = .ok (.getfield 23, 3) := by decide +kernel
theorem dX8_firstMeetingOfTwo_7 : decode cX8_firstMeetingOfTwo 7 = .ok (.iload_n 1, 1) := by decide +kernel
theorem dX8_firstMeetingOfTwo_8 : decode cX8_firstMeetingOfTwo 8 = .ok (.iaload, 1) := by decide +kernel
theorem dX8_firstMeetingOfTwo_9 : decode cX8_firstMeetingOfTwo 9 = .ok (.if_icmp .ge 42, 3) := by decide +kernel
theorem dX8_firstMeetingOfTwo_12 : decode cX8_firstMeetingOfTwo 12 = .ok (.aload_n 0, 1) := by decide +kernel
theorem dX8_firstMeetingOfTwo_13 : decode cX8_firstMeetingOfTwo 13 = .ok (.iload_n 2, 1) := by decide +kernel
theorem dX8_firstMeetingOfTwo_14 : decode cX8_firstMeetingOfTwo 14 = .ok (.aload_n 0, 1) := by decide +kernel
theorem dX8_firstMeetingOfTwo_15 : decode cX8_firstMeetingOfTwo 15 = .ok (.getfield 29, 3) := by decide +kernel
theorem dX8_firstMeetingOfTwo_18 : decode cX8_firstMeetingOfTwo 18 = .ok (.iload_n 1, 1) := by decide +kernel
theorem dX8_firstMeetingOfTwo_19 : decode cX8_firstMeetingOfTwo 19 = .ok (.aaload, 1) := by decide +kernel
theorem dX8_firstMeetingOfTwo_20 : decode cX8_firstMeetingOfTwo 20 = .ok (.iload_n 3, 1) := by decide +kernel
theorem dX8_firstMeetingOfTwo_21 : decode cX8_firstMeetingOfTwo 21 = .ok (.iaload, 1) := by decide +kernel
theorem dX8_firstMeetingOfTwo_22 : decode cX8_firstMeetingOfTwo 22 = .ok (.invokevirtual 89, 3) := by decide +kernel
theorem dX8_firstMeetingOfTwo_25 : decode cX8_firstMeetingOfTwo 25 = .ok (.aload_n 0, 1) := by decide +kernel
theorem dX8_firstMeetingOfTwo_26 : decode cX8_firstMeetingOfTwo 26 = .ok (.getfield 26, 3) := by decide +kernel
theorem dX8_firstMeetingOfTwo_29 : decode cX8_firstMeetingOfTwo 29 = .ok (.iload_n 1, 1) := by decide +kernel
theorem dX8_firstMeetingOfTwo_30 : decode cX8_firstMeetingOfTwo 30 = .ok (.aaload, 1) := by decide +kernel
theorem dX8_firstMeetingOfTwo_31 : decode cX8_firstMeetingOfTwo 31 = .ok (.iload_n 3, 1) := by decide +kernel
theorem dX8_firstMeetingOfTwo_32 : decode cX8_firstMeetingOfTwo 32 = .ok (.iaload, 1) := by decide +kernel
theorem dX8_firstMeetingOfTwo_33 : decode cX8_firstMeetingOfTwo 33 = .ok (.if_icmp .ne 12, 3) := by decide +kernel
theorem dX8_firstMeetingOfTwo_36 : decode cX8_firstMeetingOfTwo 36 = .ok (.aload_n 0, 1) := by decide +kernel
theorem dX8_firstMeetingOfTwo_37 : decode cX8_firstMeetingOfTwo 37 = .ok (.getfield 29, 3) := by decide +kernel
theorem dX8_firstMeetingOfTwo_40 : decode cX8_firstMeetingOfTwo 40 = .ok (.iload_n 1, 1) := by decide +kernel
theorem dX8_firstMeetingOfTwo_41 : decode cX8_firstMeetingOfTwo 41 = .ok (.aaload, 1) := by decide +kernel
theorem dX8_firstMeetingOfTwo_42 : decode cX8_firstMeetingOfTwo 42 = .ok (.iload_n 3, 1) := by decide +kernel
theorem dX8_firstMeetingOfTwo_43 : decode cX8_firstMeetingOfTwo 43 = .ok (.iaload, 1) := by decide +kernel
theorem dX8_firstMeetingOfTwo_44 : decode cX8_firstMeetingOfTwo 44 = .ok (.ireturn, 1) := by decide +kernel
theorem dX8_firstMeetingOfTwo_45 : decode cX8_firstMeetingOfTwo 45 = .ok (.iinc 3 1, 3) := by decide +kernel
theorem dX8_firstMeetingOfTwo_48 : decode cX8_firstMeetingOfTwo 48 = .ok (.goto (-46), 3) := by decide +kernel
theorem dX8_firstMeetingOfTwo_51 : decode cX8_firstMeetingOfTwo 51 = .ok (.bipush (-2), 2) := by decide +kernel
theorem dX8_firstMeetingOfTwo_53 : decode cX8_firstMeetingOfTwo 53 = .ok (.ireturn, 1) := by decide +kernel
theorem dX9_init_0 : decode cX9_init 0 = .ok (.aload_n 0, 1) := by decide +kernel
theorem dX9_init_1 : decode cX9_init 1 = .ok (.invokespecial 1, 3) := by decide +kernel
theorem dX9_init_4 : decode cX9_init 4 = .ok (.new 7, 3) := by decide +kernel
theorem dX9_init_7 : decode cX9_init 7 = .ok (.dup, 1) := by decide +kernel
theorem dX9_init_8 : decode cX9_init 8 = .ok (.invokespecial 9, 3) := by decide +kernel
theorem dX9_init_11 : decode cX9_init 11 = .ok (.astore_n 1, 1) := by decide +kernel
theorem dX9_init_12 : decode cX9_init 12 = .ok (.new 10, 3) := by decide +kernel
theorem dX9_init_15 : decode cX9_init 15 = .ok (.dup, 1) := by decide +kernel
theorem dX9_init_16 : decode cX9_init 16 = .ok (.invokespecial 12, 3) := by decide +kernel
theorem dX9_init_19 : decode cX9_init 19 = .ok (.astore_n 2, 1) := by decide +kernel
theorem dX9_init_20 : decode cX9_init 20 = .ok (.new 13, 3) := by decide +kernel
theorem dX9_init_23 : decode cX9_init 23 = .ok (.dup, 1) := by decide +kernel
theorem dX9_init_24 : decode cX9_init 24 = .ok (.aload_n 1, 1) := by decide +kernel
theorem dX9_init_25 : decode cX9_init 25 = .ok (.aload_n 2, 1) := by decide +kernel
theorem dX9_init_26 : decode cX9_init 26 = .ok (.invokespecial 15, 3) := by decide +kernel
theorem dX9_init_29 : decode cX9_init 29 = .ok (.astore_n 3, 1) := by decide +kernel
theorem dX9_init_30 : decode cX9_init 30 = .ok (.aload_n 0, 1) := by decide +kernel
theorem dX9_init_31 : decode cX9_init 31 = .ok (.aload_n 1, 1) := by decide +kernel
theorem dX9_init_32 : decode cX9_init 32 = .ok (.putfield 18, 3) := by decide +kernel
theorem dX9_init_35 : decode cX9_init 35 = .ok (.aload_n 0, 1) := by decide +kernel
theorem dX9_init_36 : decode cX9_init 36 = .ok (.aload_n 2, 1) := by decide +kernel
theorem dX9_init_37 : decode cX9_init 37 = .ok (.putfield 24, 3) := by decide +kernel
theorem dX9_init_40 : decode cX9_init 40 = .ok (.aload_n 0, 1) := by decide +kernel
theorem dX9_init_41 : decode cX9_init 41 = .ok (.aload_n 3, 1) := by decide +kernel
theorem dX9_init_42 : decode cX9_init 42 = .ok (.putfield 28, 3) := by decide +kernel
theorem dX9_init_45 : decode cX9_init 45 = .ok (.aload_n 0, 1) := by decide +kernel
theorem dX9_init_46 : decode cX9_init 46 = .ok (.new 32, 3) := by decide +kernel
theorem dX9_init_49 : decode cX9_init 49 = .ok (.dup, 1) := by decide +kernel
theorem dX9_init_50 : decode cX9_init 50 = .ok (.aload_n 1, 1) := by decide +kernel
theorem dX9_init_51 : decode cX9_init 51 = .ok (.aload_n 3, 1) := by decide +kernel
theorem dX9_init_52 : decode cX9_init 52 = .ok (.invokespecial 34, 3) := by decide +kernel
theorem dX9_init_55 : decode cX9_init 55 = .ok (.putfield 37, 3) := by decide +kernel
theorem dX9_init_58 : decode cX9_init 58 = .ok (.aload_n 0, 1) := by decide +kernel
theorem dX9_init_59 : decode cX9_init 59 = .ok (.new 41, 3) := by decide +kernel
theorem dX9_init_62 : decode cX9_init 62 = .ok (.dup, 1) := by decide +kernel
theorem dX9_init_63 : decode cX9_init 63 = .ok (.aload_n 1, 1) := by decide +kernel
theorem dX9_init_64 : decode cX9_init 64 = .ok (.aload_n 3, 1) := by decide +kernel
theorem dX9_init_65 : decode cX9_init 65 = .ok (.invokespecial 43, 3) := by decide +kernel
theorem dX9_init_68 : decode cX9_init 68 = .ok (.putfield 44, 3) := by decide +kernel
theorem dX9_init_71 : decode cX9_init 71 = .ok (.aload_n 0, 1) := by decide +kernel
theorem dX9_init_72 : decode cX9_init 72 = .ok (.new 48, 3) := by decide +kernel
theorem dX9_init_75 : decode cX9_init 75 = .ok (.dup, 1) := by decide +kernel
theorem dX9_init_76 : decode cX9_init 76 = .ok (.invokespecial 50, 3) := by decide +kernel
theorem dX9_init_79 : decode cX9_init 79 = .ok (.putfield 51, 3) := by decide +kernel
theorem dX9_init_82 : decode cX9_init 82 = .ok (.aload_n 0, 1) := by decide +kernel
theorem dX9_init_83 : decode cX9_init 83 = .ok (.new 55, 3) := by decide +kernel
theorem dX9_init_86 : decode cX9_init 86 = .ok (.dup, 1) := by decide +kernel
theorem dX9_init_87 : decode cX9_init 87 = .ok (.invokespecial 57, 3) := by decide +kernel
theorem dX9_init_90 : decode cX9_init 90 = .ok (.putfield 58, 3) := by decide +kernel
theorem dX9_init_93 : decode cX9_init 93 = .ok (.aload_n 0, 1) := by decide +kernel
theorem dX9_init_94 : decode cX9_init 94 = .ok (.new 62, 3) := by decide +kernel
theorem dX9_init_97 : decode cX9_init 97 = .ok (.dup, 1) := by decide +kernel
theorem dX9_init_98 : decode cX9_init 98 = .ok (.invokespecial 64, 3) := by decide +kernel
theorem dX9_init_101 : decode cX9_init 101 = .ok (.putfield 65, 3) := by decide +kernel
theorem dX9_init_104 : decode cX9_init 104 = .ok (.bipush 6, 2) := by decide +kernel
theorem dX9_init_106 : decode cX9_init 106 = .ok (.anewarray 69, 3) := by decide +kernel
theorem dX9_init_109 : decode cX9_init 109 = .ok (.astore 4, 2) := by decide +kernel
theorem dX9_init_111 : decode cX9_init 111 = .ok (.iconst 0, 1) := by decide +kernel
theorem dX9_init_112 : decode cX9_init 112 = .ok (.istore 5, 2) := by decide +kernel
theorem dX9_init_114 : decode cX9_init 114 = .ok (.iload 5, 2) := by decide +kernel
theorem dX9_init_116 : decode cX9_init 116 = .ok (.bipush 6, 2) := by decide +kernel
theorem dX9_init_118 : decode cX9_init 118 = .ok (.if_icmp .ge 21, 3) := by decide +kernel
theorem dX9_init_121 : decode cX9_init 121 = .ok (.aload 4, 2) := by decide +kernel
theorem dX9_init_123 : decode cX9_init 123 = .ok (.iload 5, 2) := by decide +kernel
theorem dX9_init_125 : decode cX9_init 125 = .ok (.new 69, 3) := by decide +kernel
theorem dX9_init_128 : decode cX9_init 128 = .ok (.dup, 1) := by decide +kernel
theorem dX9_init_129 : decode cX9_init 129 = .ok (.invokespecial 71, 3) := by decide +kernel
theorem dX9_init_132 : decode cX9_init 132 = .ok (.aastore, 1) := by decide +kernel
theorem dX9_init_133 : decode cX9_init 133 = .ok (.iinc 5 1, 3) := by decide +kernel
theorem dX9_init_136 : decode cX9_init 136 = .ok (.goto (-22), 3) := by decide +kernel
theorem dX9_init_139 : decode cX9_init 139 = .ok (.aload_n 0, 1) := by decide +kernel
theorem dX9_init_140 : decode cX9_init 140 = .ok (.aload 4, 2) := by decide +kernel
theorem dX9_init_142 : decode cX9_init 142 = .ok (.putfield 72, 3) := by decide +kernel
theorem dX9_init_145 : decode cX9_init 145 = .ok (.return_, 1) := by decide +kernel
theorem dX9_walker_0 : decode cX9_walker 0 = .ok (.aload_n 0, 1) := by decide +kernel
theorem dX9_walker_1 : decode cX9_walker 1 = .ok (.iload_n 1, 1) := by decide +kernel
theorem dX9_walker_2 : decode cX9_walker 2 = .ok (.iload_n 2, 1) := by decide +kernel
theorem dX9_walker_3 : decode cX9_walker 3 = .ok (.invokevirtual 76, 3) := by decide +kernel
theorem dX9_walker_6 : decode cX9_walker 6 = .ok (.istore_n 3, 1) := by decide +kernel
theorem dX9_walker_7 : decode cX9_walker 7 = .ok (.iload_n 3, 1) := by decide +kernel
theorem dX9_walker_8 : decode cX9_walker 8 = .ok (.ifCond .eq 5, 3) := by decide +kernel
theorem dX9_walker_11 : decode cX9_walker 11 = .ok (.iload_n 3, 1) := by decide +kernel
theorem dX9_walker_12 : decode cX9_walker 12 = .ok (.ireturn, 1) := by decide +kernel
theorem dX9_walker_13 : decode cX9_walker 13 = .ok (.aload_n 0, 1) := by decide +kernel
theorem dX9_walker_14 : decode cX9_walker 14 = .ok (.getfield 18, 3) := by decide +kernel
theorem dX9_walker_17 : decode cX9_walker 17 = .ok (.getfield 80, 3) := by decide +kernel
theorem dX9_walker_20 : decode cX9_walker 20 = .ok (.iconst 5, 1) := by decide +kernel
theorem dX9_walker_21 : decode cX9_walker 21 = .ok (.if_icmp .lt 6, 3) := by decide +kernel
theorem dX9_walker_24 : decode cX9_walker 24 = .ok (.bipush (-3), 2) := by decide +kernel
theorem dX9_walker_26 : decode cX9_walker 26 = .ok (.ireturn, 1) := by decide +kernel
theorem dX9_walker_27 : decode cX9_walker 27 = .ok (.aload_n 0, 1) := by decide +kernel
theorem dX9_walker_28 : decode cX9_walker 28 = .ok (.getfield 18, 3) := by decide +kernel
theorem dX9_walker_31 : decode cX9_walker 31 = .ok (.invokevirtual 84, 3) := by decide +kernel
theorem dX9_walker_34 : decode cX9_walker 34 = .ok (.istore 4, 2) := by decide +kernel
theorem dX9_walker_36 : decode cX9_walker 36 = .ok (.aload_n 0, 1) := by decide +kernel
theorem dX9_walker_37 : decode cX9_walker 37 = .ok (.getfield 18, 3) := by decide +kernel
theorem dX9_walker_40 : decode cX9_walker 40 = .ok (.iload 4, 2) := by decide +kernel
theorem dX9_walker_42 : decode cX9_walker 42 = .ok (.aload_n 0, 1) := by decide +kernel
theorem dX9_walker_43 : decode cX9_walker 43 = .ok (.getfield 72, 3) := by decide +kernel
theorem dX9_walker_46 : decode cX9_walker 46 = .ok (.iload_n 1, 1) := by decide +kernel
theorem dX9_walker_47 : decode cX9_walker 47 = .ok (.aaload, 1) := by decide +kernel
theorem dX9_walker_48 : decode cX9_walker 48 = .ok (.getfield 88, 3) := by decide +kernel
theorem dX9_walker_51 : decode cX9_walker 51 = .ok (.iload_n 2, 1) := by decide +kernel
theorem dX9_walker_52 : decode cX9_walker 52 = .ok (.bipush 10, 2) := by decide +kernel
theorem dX9_walker_54 : decode cX9_walker 54 = .ok (.idiv, 1) := by decide +kernel
theorem dX9_walker_55 : decode cX9_walker 55 = .ok (.iload_n 2, 1) := by decide +kernel
theorem dX9_walker_56 : decode cX9_walker 56 = .ok (.bipush 10, 2) := by decide +kernel
theorem dX9_walker_58 : decode cX9_walker 58 = .ok (.irem, 1) := by decide +kernel
theorem dX9_walker_59 : decode cX9_walker 59 = .ok (.invokevirtual 92, 3) := by decide +kernel
theorem dX9_walker_62 : decode cX9_walker 62 = .ok (.pop, 1) := by decide +kernel
theorem dX9_walker_63 : decode cX9_walker 63 = .ok (.aload_n 0, 1) := by decide +kernel
theorem dX9_walker_64 : decode cX9_walker 64 = .ok (.getfield 28, 3) := by decide +kernel
theorem dX9_walker_67 : decode cX9_walker 67 = .ok (.invokevirtual 96, 3) := by decide +kernel
theorem dX9_walker_70 : decode cX9_walker 70 = .ok (.iload 4, 2) := by decide +kernel
theorem dX9_walker_72 : decode cX9_walker 72 = .ok (.ireturn, 1) := by decide +kernel
theorem dX9_way_0 : decode cX9_way 0 = .ok (.aload_n 0, 1) := by decide +kernel
theorem dX9_way_1 : decode cX9_way 1 = .ok (.getfield 18, 3) := by decide +kernel
theorem dX9_way_4 : decode cX9_way 4 = .ok (.iload_n 1, 1) := by decide +kernel
theorem dX9_way_5 : decode cX9_way 5 = .ok (.invokevirtual 99, 3) := by decide +kernel
theorem dX9_way_8 : decode cX9_way 8 = .ok (.ifCond .ne 5, 3) := by decide +kernel
theorem dX9_way_11 : decode cX9_way 11 = .ok (.iconst (-1), 1) := by decide +kernel
theorem dX9_way_12 : decode cX9_way 12 = .ok (.ireturn, 1) := by decide +kernel
theorem dX9_way_13 : decode cX9_way 13 = .ok (.aload_n 0, 1) := by decide +kernel
theorem dX9_way_14 : decode cX9_way 14 = .ok (.iload_n 2, 1) := by decide +kernel
theorem dX9_way_15 : decode cX9_way 15 = .ok (.iload_n 3, 1) := by decide +kernel
theorem dX9_way_16 : decode cX9_way 16 = .ok (.invokevirtual 76, 3) := by decide +kernel
theorem dX9_way_19 : decode cX9_way 19 = .ok (.istore 4, 2) := by decide +kernel
theorem dX9_way_21 : decode cX9_way 21 = .ok (.iload 4, 2) := by decide +kernel
theorem dX9_way_23 : decode cX9_way 23 = .ok (.ifCond .eq 6, 3) := by decide +kernel
theorem dX9_way_26 : decode cX9_way 26 = .ok (.iload 4, 2) := by decide +kernel
theorem dX9_way_28 : decode cX9_way 28 = .ok (.ireturn, 1) := by decide +kernel
theorem dX9_way_29 : decode cX9_way 29 = .ok (.aload_n 0, 1) := by decide +kernel
theorem dX9_way_30 : decode cX9_way 30 = .ok (.getfield 18, 3) := by decide +kernel
theorem dX9_way_33 : decode cX9_way 33 = .ok (.getfield 103, 3) := by decide +kernel
theorem dX9_way_36 : decode cX9_way 36 = .ok (.iload_n 1, 1) := by decide +kernel
theorem dX9_way_37 : decode cX9_way 37 = .ok (.iaload, 1) := by decide +kernel
theorem dX9_way_38 : decode cX9_way 38 = .ok (.iconst 4, 1) := by decide +kernel
theorem dX9_way_39 : decode cX9_way 39 = .ok (.if_icmp .lt 6, 3) := by decide +kernel
theorem dX9_way_42 : decode cX9_way 42 = .ok (.bipush (-3), 2) := by decide +kernel
theorem dX9_way_44 : decode cX9_way 44 = .ok (.ireturn, 1) := by decide +kernel
theorem dX9_way_45 : decode cX9_way 45 = .ok (.aload_n 0, 1) := by decide +kernel
theorem dX9_way_46 : decode cX9_way 46 = .ok (.getfield 18, 3) := by decide +kernel
theorem dX9_way_49 : decode cX9_way 49 = .ok (.iload_n 1, 1) := by decide +kernel
theorem dX9_way_50 : decode cX9_way 50 = .ok (.aload_n 0, 1) := by decide +kernel
theorem dX9_way_51 : decode cX9_way 51 = .ok (.getfield 72, 3) := by decide +kernel
theorem dX9_way_54 : decode cX9_way 54 = .ok (.iload_n 2, 1) := by decide +kernel
theorem dX9_way_55 : decode cX9_way 55 = .ok (.aaload, 1) := by decide +kernel
theorem dX9_way_56 : decode cX9_way 56 = .ok (.getfield 88, 3) := by decide +kernel
theorem dX9_way_59 : decode cX9_way 59 = .ok (.iload_n 3, 1) := by decide +kernel
theorem dX9_way_60 : decode cX9_way 60 = .ok (.bipush 10, 2) := by decide +kernel
theorem dX9_way_62 : decode cX9_way 62 = .ok (.idiv, 1) := by decide +kernel
theorem dX9_way_63 : decode cX9_way 63 = .ok (.iload_n 3, 1) := by decide +kernel
theorem dX9_way_64 : decode cX9_way 64 = .ok (.bipush 10, 2) := by decide +kernel
theorem dX9_way_66 : decode cX9_way 66 = .ok (.irem, 1) := by decide +kernel
theorem dX9_way_67 : decode cX9_way 67 = .ok (.invokevirtual 92, 3) := by decide +kernel
theorem dX9_way_70 : decode cX9_way 70 = .ok (.istore 5, 2) := by decide +kernel
theorem dX9_way_72 : decode cX9_way 72 = .ok (.aload_n 0, 1) := by decide +kernel
theorem dX9_way_73 : decode cX9_way 73 = .ok (.getfield 28, 3) := by decide +kernel
theorem dX9_way_76 : decode cX9_way 76 = .ok (.invokevirtual 96, 3) := by decide +kernel
theorem dX9_way_79 : decode cX9_way 79 = .ok (.iload 5, 2) := by decide +kernel
theorem dX9_way_81 : decode cX9_way 81 = .ok (.ireturn, 1) := by decide +kernel
theorem dX9_wayRefusal_0 : decode cX9_wayRefusal 0 = .ok (.iload_n 1, 1) := by decide +kernel
theorem dX9_wayRefusal_1 : decode cX9_wayRefusal 1 = .ok (.invokestatic 107, 3) := by decide +kernel
theorem dX9_wayRefusal_4 : decode cX9_wayRefusal 4 = .ok (.ifCond .eq 24, 3) := by decide +kernel
theorem dX9_wayRefusal_7 : decode cX9_wayRefusal 7 = .ok (.iload_n 2, 1) := by decide +kernel
theorem dX9_wayRefusal_8 : decode cX9_wayRefusal 8 = .ok (.ifCond .lt 20, 3) := by decide +kernel
theorem dX9_wayRefusal_11 : decode cX9_wayRefusal 11 = .ok (.iload_n 2, 1) := by decide +kernel
theorem dX9_wayRefusal_12 : decode cX9_wayRefusal 12 = .ok (.bipush 10, 2) := by decide +kernel
theorem dX9_wayRefusal_14 : decode cX9_wayRefusal 14 = .ok (.irem, 1) := by decide +kernel
theorem dX9_wayRefusal_15 : decode cX9_wayRefusal 15 = .ok (.iconst 1, 1) := by decide +kernel
theorem dX9_wayRefusal_16 : decode cX9_wayRefusal 16 = .ok (.if_icmp .lt 12, 3) := by decide +kernel
theorem dX9_wayRefusal_19 : decode cX9_wayRefusal 19 = .ok (.iload_n 2, 1) := by decide +kernel
theorem dX9_wayRefusal_20 : decode cX9_wayRefusal 20 = .ok (.bipush 10, 2) := by decide +kernel
theorem dX9_wayRefusal_22 : decode cX9_wayRefusal 22 = .ok (.irem, 1) := by decide +kernel
theorem dX9_wayRefusal_23 : decode cX9_wayRefusal 23 = .ok (.bipush 8, 2) := by decide +kernel
theorem dX9_wayRefusal_25 : decode cX9_wayRefusal 25 = .ok (.if_icmp .le 5, 3) := by decide +kernel
theorem dX9_wayRefusal_28 : decode cX9_wayRefusal 28 = .ok (.iconst (-1), 1) := by decide +kernel
theorem dX9_wayRefusal_29 : decode cX9_wayRefusal 29 = .ok (.ireturn, 1) := by decide +kernel
theorem dX9_wayRefusal_30 : decode cX9_wayRefusal 30 = .ok (.aload_n 0, 1) := by decide +kernel
theorem dX9_wayRefusal_31 : decode cX9_wayRefusal 31 = .ok (.getfield 72, 3) := by decide +kernel
theorem dX9_wayRefusal_34 : decode cX9_wayRefusal 34 = .ok (.iload_n 1, 1) := by decide +kernel
theorem dX9_wayRefusal_35 : decode cX9_wayRefusal 35 = .ok (.aaload, 1) := by decide +kernel
theorem dX9_wayRefusal_36 : decode cX9_wayRefusal 36 = .ok (.iconst 0, 1) := by decide +kernel
theorem dX9_wayRefusal_37 : decode cX9_wayRefusal 37 = .ok (.invokevirtual 110, 3) := by decide +kernel
theorem dX9_wayRefusal_40 : decode cX9_wayRefusal 40 = .ok (.istore_n 3, 1) := by decide +kernel
theorem dX9_wayRefusal_41 : decode cX9_wayRefusal 41 = .ok (.iload_n 3, 1) := by decide +kernel
theorem dX9_wayRefusal_42 : decode cX9_wayRefusal 42 = .ok (.ifCond .eq 5, 3) := by decide +kernel
theorem dX9_wayRefusal_45 : decode cX9_wayRefusal 45 = .ok (.iload_n 3, 1) := by decide +kernel
theorem dX9_wayRefusal_46 : decode cX9_wayRefusal 46 = .ok (.ireturn, 1) := by decide +kernel
theorem dX9_wayRefusal_47 : decode cX9_wayRefusal 47 = .ok (.aload_n 0, 1) := by decide +kernel
theorem dX9_wayRefusal_48 : decode cX9_wayRefusal 48 = .ok (.getfield 72, 3) := by decide +kernel
theorem dX9_wayRefusal_51 : decode cX9_wayRefusal 51 = .ok (.iload_n 1, 1) := by decide +kernel
theorem dX9_wayRefusal_52 : decode cX9_wayRefusal 52 = .ok (.aaload, 1) := by decide +kernel
theorem dX9_wayRefusal_53 : decode cX9_wayRefusal 53 = .ok (.iload_n 2, 1) := by decide +kernel
theorem dX9_wayRefusal_54 : decode cX9_wayRefusal 54 = .ok (.bipush 10, 2) := by decide +kernel
theorem dX9_wayRefusal_56 : decode cX9_wayRefusal 56 = .ok (.idiv, 1) := by decide +kernel
theorem dX9_wayRefusal_57 : decode cX9_wayRefusal 57 = .ok (.iload_n 2, 1) := by decide +kernel
theorem dX9_wayRefusal_58 : decode cX9_wayRefusal 58 = .ok (.bipush 10, 2) := by decide +kernel
theorem dX9_wayRefusal_60 : decode cX9_wayRefusal 60 = .ok (.irem, 1) := by decide +kernel
theorem dX9_wayRefusal_61 : decode cX9_wayRefusal 61 = .ok (.invokevirtual 114, 3) := by decide +kernel
theorem dX9_wayRefusal_64 : decode cX9_wayRefusal 64 = .ok (.ifCond .eq 7, 3) := by decide +kernel
theorem dX9_wayRefusal_67 : decode cX9_wayRefusal 67 = .ok (.iconst 0, 1) := by decide +kernel
theorem dX9_wayRefusal_68 : decode cX9_wayRefusal 68 = .ok (.goto 4, 3) := by decide +kernel
theorem dX9_wayRefusal_71 : decode cX9_wayRefusal 71 = .ok (.iconst (-1), 1) := by decide +kernel
theorem dX9_wayRefusal_72 : decode cX9_wayRefusal 72 = .ok (.ireturn, 1) := by decide +kernel
theorem dX9_mend_0 : decode cX9_mend 0 = .ok (.aload_n 0, 1) := by decide +kernel
theorem dX9_mend_1 : decode cX9_mend 1 = .ok (.getfield 18, 3) := by decide +kernel
theorem dX9_mend_4 : decode cX9_mend 4 = .ok (.iload_n 1, 1) := by decide +kernel
theorem dX9_mend_5 : decode cX9_mend 5 = .ok (.iload_n 2, 1) := by decide +kernel
theorem dX9_mend_6 : decode cX9_mend 6 = .ok (.invokevirtual 118, 3) := by decide +kernel
theorem dX9_mend_9 : decode cX9_mend 9 = .ok (.ifCond .eq 11, 3) := by decide +kernel
theorem dX9_mend_12 : decode cX9_mend 12 = .ok (.iload_n 2, 1) := by decide +kernel
theorem dX9_mend_13 : decode cX9_mend 13 = .ok (.iload_n 3, 1) := by decide +kernel
theorem dX9_mend_14 : decode cX9_mend 14 = .ok (.invokestatic 121, 3) := by decide +kernel
theorem dX9_mend_17 : decode cX9_mend 17 = .ok (.ifCond .ne 5, 3) := by decide +kernel
theorem dX9_mend_20 : decode cX9_mend 20 = .ok (.iconst (-1), 1) := by decide +kernel
theorem dX9_mend_21 : decode cX9_mend 21 = .ok (.ireturn, 1) := by decide +kernel
theorem dX9_mend_22 : decode cX9_mend 22 = .ok (.aload_n 0, 1) := by decide +kernel
theorem dX9_mend_23 : decode cX9_mend 23 = .ok (.getfield 18, 3) := by decide +kernel
theorem dX9_mend_26 : decode cX9_mend 26 = .ok (.iload_n 1, 1) := by decide +kernel
theorem dX9_mend_27 : decode cX9_mend 27 = .ok (.iload_n 2, 1) := by decide +kernel
theorem dX9_mend_28 : decode cX9_mend 28 = .ok (.invokevirtual 124, 3) := by decide +kernel
theorem dX9_mend_31 : decode cX9_mend 31 = .ok (.istore 4, 2) := by decide +kernel
theorem dX9_mend_33 : decode cX9_mend 33 = .ok (.iload 4, 2) := by decide +kernel
theorem dX9_mend_35 : decode cX9_mend 35 = .ok (.iload_n 3, 1) := by decide +kernel
theorem dX9_mend_36 : decode cX9_mend 36 = .ok (.if_icmp .eq 32, 3) := by decide +kernel
theorem dX9_mend_39 : decode cX9_mend 39 = .ok (.aload_n 0, 1) := by decide +kernel
theorem dX9_mend_40 : decode cX9_mend 40 = .ok (.getfield 58, 3) := by decide +kernel
theorem dX9_mend_43 : decode cX9_mend 43 = .ok (.iload_n 2, 1) := by decide +kernel
theorem dX9_mend_44 : decode cX9_mend 44 = .ok (.iload_n 1, 1) := by decide +kernel
theorem dX9_mend_45 : decode cX9_mend 45 = .ok (.iload 4, 2) := by decide +kernel
theorem dX9_mend_47 : decode cX9_mend 47 = .ok (.iload_n 3, 1) := by decide +kernel
theorem dX9_mend_48 : decode cX9_mend 48 = .ok (.invokevirtual 127, 3) := by decide +kernel
theorem dX9_mend_51 : decode cX9_mend 51 = .ok (.aload_n 0, 1) := by decide +kernel
theorem dX9_mend_52 : decode cX9_mend 52 = .ok (.getfield 18, 3) := by decide +kernel
theorem dX9_mend_55 : decode cX9_mend 55 = .ok (.iload_n 1, 1) := by decide +kernel
theorem dX9_mend_56 : decode cX9_mend 56 = .ok (.iload_n 2, 1) := by decide +kernel
theorem dX9_mend_57 : decode cX9_mend 57 = .ok (.iload_n 3, 1) := by decide +kernel
theorem dX9_mend_58 : decode cX9_mend 58 = .ok (.invokevirtual 131, 3) := by decide +kernel
theorem dX9_mend_61 : decode cX9_mend 61 = .ok (.aload_n 0, 1) := by decide +kernel
theorem dX9_mend_62 : decode cX9_mend 62 = .ok (.getfield 28, 3) := by decide +kernel
theorem dX9_mend_65 : decode cX9_mend 65 = .ok (.invokevirtual 96, 3) := by decide +kernel
theorem dX9_mend_68 : decode cX9_mend 68 = .ok (.iload 4, 2) := by decide +kernel
theorem dX9_mend_70 : decode cX9_mend 70 = .ok (.ireturn, 1) := by decide +kernel
theorem dX9_of_0 : decode cX9_of 0 = .ok (.iload_n 2, 1) := by decide +kernel
theorem dX9_of_1 : decode cX9_of 1 = .ok (.iconst 4, 1) := by decide +kernel
theorem dX9_of_2 : decode cX9_of 2 = .ok (.if_icmp .ge 29, 3) := by decide +kernel
theorem dX9_of_5 : decode cX9_of 5 = .ok (.aload_n 0, 1) := by decide +kernel
theorem dX9_of_6 : decode cX9_of 6 = .ok (.getfield 18, 3) := by decide +kernel
theorem dX9_of_9 : decode cX9_of 9 = .ok (.iload_n 1, 1) := by decide +kernel
theorem dX9_of_10 : decode cX9_of 10 = .ok (.iload_n 2, 1) := by decide +kernel
theorem dX9_of_11 : decode cX9_of 11 = .ok (.invokevirtual 118, 3) := by decide +kernel
theorem dX9_of_14 : decode cX9_of 14 = .ok (.ifCond .eq 15, 3) := by decide +kernel
theorem dX9_of_17 : decode cX9_of 17 = .ok (.aload_n 0, 1) := by decide +kernel
theorem dX9_of_18 : decode cX9_of 18 = .ok (.getfield 18, 3) := by decide +kernel
theorem dX9_of_21 : decode cX9_of 21 = .ok (.iload_n 1, 1) := by decide +kernel
theorem dX9_of_22 : decode cX9_of 22 = .ok (.iload_n 2, 1) := by decide +kernel
theorem dX9_of_23 : decode cX9_of 23 = .ok (.invokevirtual 124, 3) := by decide +kernel
theorem dX9_of_26 : decode cX9_of 26 = .ok (.goto 4, 3) := by decide +kernel
theorem dX9_of_29 : decode cX9_of 29 = .ok (.iconst (-1), 1) := by decide +kernel
theorem dX9_of_30 : decode cX9_of 30 = .ok (.ireturn, 1) := by decide +kernel
theorem dX9_of_31 : decode cX9_of 31 = .ok (.aload_n 0, 1) := by decide +kernel
theorem dX9_of_32 : decode cX9_of 32 = .ok (.getfield 18, 3) := by decide +kernel
theorem dX9_of_35 : decode cX9_of 35 = .ok (.iload_n 1, 1) := by decide +kernel
theorem dX9_of_36 : decode cX9_of 36 = .ok (.invokevirtual 99, 3) := by decide +kernel
theorem dX9_of_39 : decode cX9_of 39 = .ok (.ifCond .ne 5, 3) := by decide +kernel
theorem dX9_of_42 : decode cX9_of 42 = .ok (.iconst (-1), 1) := by decide +kernel
theorem dX9_of_43 : decode cX9_of 43 = .ok (.ireturn, 1) := by decide +kernel
theorem dX9_of_44 : decode cX9_of 44 = .ok (.iload_n 2, 1) := by decide +kernel
theorem dX9_of_45 : decode cX9_of 45 = .ok (.iconst 4, 1) := by decide +kernel
theorem dX9_of_46 : decode cX9_of 46 = .ok (.if_icmp .ne 13, 3) := by decide +kernel
theorem dX9_of_49 : decode cX9_of 49 = .ok (.aload_n 0, 1) := by decide +kernel
theorem dX9_of_50 : decode cX9_of 50 = .ok (.getfield 18, 3) := by decide +kernel
theorem dX9_of_53 : decode cX9_of 53 = .ok (.getfield 103, 3) := by decide +kernel
theorem dX9_of_56 : decode cX9_of 56 = .ok (.iload_n 1, 1) := by decide +kernel
theorem dX9_of_57 : decode cX9_of 57 = .ok (.iaload, 1) := by decide +kernel
theorem dX9_of_58 : decode cX9_of 58 = .ok (.ireturn, 1) := by decide +kernel
theorem dX9_of_59 : decode cX9_of 59 = .ok (.aload_n 0, 1) := by decide +kernel
theorem dX9_of_60 : decode cX9_of 60 = .ok (.getfield 18, 3) := by decide +kernel
theorem dX9_of_63 : decode cX9_of 63 = .ok (.iload_n 1, 1) := by decide +kernel
theorem dX9_of_64 : decode cX9_of 64 = .ok (.iload_n 2, 1) := by decide +kernel
theorem dX9_of_65 : decode cX9_of 65 = .ok (.iconst 5, 1) := by decide +kernel
theorem dX9_of_66 : decode cX9_of 66 = .ok (.isub, 1) := by decide +kernel
theorem dX9_of_67 : decode cX9_of 67 = .ok (.invokevirtual 135, 3) := by decide +kernel
theorem dX9_of_70 : decode cX9_of 70 = .ok (.ifCond .eq 21, 3) := by decide +kernel
theorem dX9_of_73 : decode cX9_of 73 = .ok (.aload_n 0, 1) := by decide +kernel
theorem dX9_of_74 : decode cX9_of 74 = .ok (.getfield 18, 3) := by decide +kernel
theorem dX9_of_77 : decode cX9_of 77 = .ok (.getfield 138, 3) := by decide +kernel
theorem dX9_of_80 : decode cX9_of 80 = .ok (.iload_n 1, 1) := by decide +kernel
theorem dX9_of_81 : decode cX9_of 81 = .ok (.iload_n 2, 1) := by decide +kernel
theorem dX9_of_82 : decode cX9_of 82 = .ok (.iconst 5, 1) := by decide +kernel
theorem dX9_of_83 : decode cX9_of 83 = .ok (.isub, 1) := by decide +kernel
theorem dX9_of_84 : decode cX9_of 84 = .ok (.invokestatic 141, 3) := by decide +kernel
theorem dX9_of_87 : decode cX9_of 87 = .ok (.iaload, 1) := by decide +kernel
theorem dX9_of_88 : decode cX9_of 88 = .ok (.goto 4, 3) := by decide +kernel
theorem dX9_of_91 : decode cX9_of 91 = .ok (.iconst (-1), 1) := by decide +kernel
theorem dX9_of_92 : decode cX9_of 92 = .ok (.ireturn, 1) := by decide +kernel
theorem dX9_place_0 : decode cX9_place 0 = .ok (.iload_n 1, 1) := by decide +kernel
theorem dX9_place_1 : decode cX9_place 1 = .ok (.ifCond .lt 25, 3) := by decide +kernel
theorem dX9_place_4 : decode cX9_place 4 = .ok (.iload_n 2, 1) := by decide +kernel
theorem dX9_place_5 : decode cX9_place 5 = .ok (.ifCond .lt 21, 3) := by decide +kernel
theorem dX9_place_8 : decode cX9_place 8 = .ok (.aload_n 0, 1) := by decide +kernel
theorem dX9_place_9 : decode cX9_place 9 = .ok (.getfield 18, 3) := by decide +kernel
theorem dX9_place_12 : decode cX9_place 12 = .ok (.iload_n 1, 1) := by decide +kernel
theorem dX9_place_13 : decode cX9_place 13 = .ok (.bipush 10, 2) := by decide +kernel
theorem dX9_place_15 : decode cX9_place 15 = .ok (.idiv, 1) := by decide +kernel
theorem dX9_place_16 : decode cX9_place 16 = .ok (.iload_n 1, 1) := by decide +kernel
theorem dX9_place_17 : decode cX9_place 17 = .ok (.bipush 10, 2) := by decide +kernel
theorem dX9_place_19 : decode cX9_place 19 = .ok (.irem, 1) := by decide +kernel
theorem dX9_place_20 : decode cX9_place 20 = .ok (.invokevirtual 135, 3) := by decide +kernel
theorem dX9_place_23 : decode cX9_place 23 = .ok (.ifCond .ne 5, 3) := by decide +kernel
theorem dX9_place_26 : decode cX9_place 26 = .ok (.iconst (-1), 1) := by decide +kernel
theorem dX9_place_27 : decode cX9_place 27 = .ok (.ireturn, 1) := by decide +kernel
theorem dX9_place_28 : decode cX9_place 28 = .ok (.iload_n 1, 1) := by decide +kernel
theorem dX9_place_29 : decode cX9_place 29 = .ok (.bipush 10, 2) := by decide +kernel
theorem dX9_place_31 : decode cX9_place 31 = .ok (.idiv, 1) := by decide +kernel
theorem dX9_place_32 : decode cX9_place 32 = .ok (.iload_n 1, 1) := by decide +kernel
theorem dX9_place_33 : decode cX9_place 33 = .ok (.bipush 10, 2) := by decide +kernel
theorem dX9_place_35 : decode cX9_place 35 = .ok (.irem, 1) := by decide +kernel
theorem dX9_place_36 : decode cX9_place 36 = .ok (.invokestatic 141, 3) := by decide +kernel
theorem dX9_place_39 : decode cX9_place 39 = .ok (.istore_n 3, 1) := by decide +kernel
theorem dX9_place_40 : decode cX9_place 40 = .ok (.iload_n 2, 1) := by decide +kernel
theorem dX9_place_41 : decode cX9_place 41 = .ok (.aload_n 0, 1) := by decide +kernel
theorem dX9_place_42 : decode cX9_place 42 = .ok (.getfield 18, 3) := by decide +kernel
theorem dX9_place_45 : decode cX9_place 45 = .ok (.getfield 138, 3) := by decide +kernel
theorem dX9_place_48 : decode cX9_place 48 = .ok (.iload_n 3, 1) := by decide +kernel
theorem dX9_place_49 : decode cX9_place 49 = .ok (.iaload, 1) := by decide +kernel
theorem dX9_place_50 : decode cX9_place 50 = .ok (.if_icmp .ge 17, 3) := by decide +kernel
theorem dX9_place_53 : decode cX9_place 53 = .ok (.aload_n 0, 1) := by decide +kernel
theorem dX9_place_54 : decode cX9_place 54 = .ok (.getfield 18, 3) := by decide +kernel
theorem dX9_place_57 : decode cX9_place 57 = .ok (.getfield 144, 3) := by decide +kernel
theorem dX9_place_60 : decode cX9_place 60 = .ok (.iload_n 3, 1) := by decide +kernel
theorem dX9_place_61 : decode cX9_place 61 = .ok (.aaload, 1) := by decide +kernel
theorem dX9_place_62 : decode cX9_place 62 = .ok (.iload_n 2, 1) := by decide +kernel
theorem dX9_place_63 : decode cX9_place 63 = .ok (.iaload, 1) := by decide +kernel
theorem dX9_place_64 : decode cX9_place 64 = .ok (.goto 5, 3) := by decide +kernel
theorem dX9_place_67 : decode cX9_place 67 = .ok (.bipush (-2), 2) := by decide +kernel
theorem dX9_place_69 : decode cX9_place 69 = .ok (.ireturn, 1) := by decide +kernel
theorem dX9_feed_0 : decode cX9_feed 0 = .ok (.iload_n 1, 1) := by decide +kernel
theorem dX9_feed_1 : decode cX9_feed 1 = .ok (.ifCond .lt 10, 3) := by decide +kernel
theorem dX9_feed_4 : decode cX9_feed 4 = .ok (.iload_n 1, 1) := by decide +kernel
theorem dX9_feed_5 : decode cX9_feed 5 = .ok (.sipush 255, 3) := by decide +kernel
theorem dX9_feed_8 : decode cX9_feed 8 = .ok (.if_icmp .le 5, 3) := by decide +kernel
theorem dX9_feed_11 : decode cX9_feed 11 = .ok (.iconst (-1), 1) := by decide +kernel
theorem dX9_feed_12 : decode cX9_feed 12 = .ok (.ireturn, 1) := by decide +kernel
theorem dX9_feed_13 : decode cX9_feed 13 = .ok (.aload_n 0, 1) := by decide +kernel
theorem dX9_feed_14 : decode cX9_feed 14 = .ok (.getfield 24, 3) := by decide +kernel
theorem dX9_feed_17 : decode cX9_feed 17 = .ok (.iload_n 1, 1) := by decide +kernel
theorem dX9_feed_18 : decode cX9_feed 18 = .ok (.invokevirtual 148, 3) := by decide +kernel
theorem dX9_feed_21 : decode cX9_feed 21 = .ok (.ifCond .eq 13, 3) := by decide +kernel
theorem dX9_feed_24 : decode cX9_feed 24 = .ok (.aload_n 0, 1) := by decide +kernel
theorem dX9_feed_25 : decode cX9_feed 25 = .ok (.getfield 24, 3) := by decide +kernel
theorem dX9_feed_28 : decode cX9_feed 28 = .ok (.getfield 151, 3) := by decide +kernel
theorem dX9_feed_31 : decode cX9_feed 31 = .ok (.goto 5, 3) := by decide +kernel
theorem dX9_feed_34 : decode cX9_feed 34 = .ok (.bipush (-3), 2) := by decide +kernel
theorem dX9_feed_36 : decode cX9_feed 36 = .ok (.ireturn, 1) := by decide +kernel
theorem dX9_law_0 : decode cX9_law 0 = .ok (.aload_n 0, 1) := by decide +kernel
theorem dX9_law_1 : decode cX9_law 1 = .ok (.getfield 24, 3) := by decide +kernel
theorem dX9_law_4 : decode cX9_law 4 = .ok (.invokevirtual 154, 3) := by decide +kernel
theorem dX9_law_7 : decode cX9_law 7 = .ok (.istore_n 1, 1) := by decide +kernel
theorem dX9_law_8 : decode cX9_law 8 = .ok (.iload_n 1, 1) := by decide +kernel
theorem dX9_law_9 : decode cX9_law 9 = .ok (.ifCond .lt 8, 3) := by decide +kernel
theorem dX9_law_12 : decode cX9_law 12 = .ok (.bipush (-100), 2) := by decide +kernel
theorem dX9_law_14 : decode cX9_law 14 = .ok (.iload_n 1, 1) := by decide +kernel
theorem dX9_law_15 : decode cX9_law 15 = .ok (.isub, 1) := by decide +kernel
theorem dX9_law_16 : decode cX9_law 16 = .ok (.ireturn, 1) := by decide +kernel
theorem dX9_law_17 : decode cX9_law 17 = .ok (.aload_n 0, 1) := by decide +kernel
theorem dX9_law_18 : decode cX9_law 18 = .ok (.getfield 28, 3) := by decide +kernel
theorem dX9_law_21 : decode cX9_law 21 = .ok (.invokevirtual 96, 3) := by decide +kernel
theorem dX9_law_24 : decode cX9_law 24 = .ok (.iconst 1, 1) := by decide +kernel
theorem dX9_law_25 : decode cX9_law 25 = .ok (.ireturn, 1) := by decide +kernel
theorem dX9_holding_0 : decode cX9_holding 0 = .ok (.iload_n 1, 1) := by decide +kernel
theorem dX9_holding_1 : decode cX9_holding 1 = .ok (.iconst (-1), 1) := by decide +kernel
theorem dX9_holding_2 : decode cX9_holding 2 = .ok (.if_icmp .ge 5, 3) := by decide +kernel
theorem dX9_holding_5 : decode cX9_holding 5 = .ok (.iconst (-1), 1) := by decide +kernel
theorem dX9_holding_6 : decode cX9_holding 6 = .ok (.ireturn, 1) := by decide +kernel
theorem dX9_holding_7 : decode cX9_holding 7 = .ok (.aload_n 0, 1) := by decide +kernel
theorem dX9_holding_8 : decode cX9_holding 8 = .ok (.getfield 28, 3) := by decide +kernel
theorem dX9_holding_11 : decode cX9_holding 11 = .ok (.invokevirtual 157, 3) := by decide +kernel
theorem dX9_holding_14 : decode cX9_holding 14 = .ok (.iload_n 1, 1) := by decide +kernel
theorem dX9_holding_15 : decode cX9_holding 15 = .ok (.iconst (-1), 1) := by decide +kernel
theorem dX9_holding_16 : decode cX9_holding 16 = .ok (.if_icmp .ne 13, 3) := by decide +kernel
theorem dX9_holding_19 : decode cX9_holding 19 = .ok (.aload_n 0, 1) := by decide +kernel
theorem dX9_holding_20 : decode cX9_holding 20 = .ok (.getfield 28, 3) := by decide +kernel
theorem dX9_holding_23 : decode cX9_holding 23 = .ok (.getfield 160, 3) := by decide +kernel
theorem dX9_holding_26 : decode cX9_holding 26 = .ok (.goto 11, 3) := by decide +kernel
theorem dX9_holding_29 : decode cX9_holding 29 = .ok (.aload_n 0, 1) := by decide +kernel
theorem dX9_holding_30 : decode cX9_holding 30 = .ok (.getfield 28, 3) := by decide +kernel
theorem dX9_holding_33 : decode cX9_holding 33 = .ok (.iload_n 1, 1) := by decide +kernel
theorem dX9_holding_34 : decode cX9_holding 34 = .ok (.invokevirtual 163, 3) := by decide +kernel
theorem dX9_holding_37 : decode cX9_holding 37 = .ok (.ireturn, 1) := by decide +kernel
theorem dX9_day_0 : decode cX9_day 0 = .ok (.aload_n 0, 1) := by decide +kernel
theorem dX9_day_1 : decode cX9_day 1 = .ok (.getfield 18, 3) := by decide +kernel
theorem dX9_day_4 : decode cX9_day 4 = .ok (.iload_n 1, 1) := by decide +kernel
theorem dX9_day_5 : decode cX9_day 5 = .ok (.invokevirtual 166, 3) := by decide +kernel
theorem dX9_day_8 : decode cX9_day 8 = .ok (.ifCond .eq 10, 3) := by decide +kernel
theorem dX9_day_11 : decode cX9_day 11 = .ok (.iload_n 2, 1) := by decide +kernel
theorem dX9_day_12 : decode cX9_day 12 = .ok (.invokestatic 169, 3) := by decide +kernel
theorem dX9_day_15 : decode cX9_day 15 = .ok (.ifCond .ne 5, 3) := by decide +kernel
theorem dX9_day_18 : decode cX9_day 18 = .ok (.iconst (-1), 1) := by decide +kernel
theorem dX9_day_19 : decode cX9_day 19 = .ok (.ireturn, 1) := by decide +kernel
theorem dX9_day_20 : decode cX9_day 20 = .ok (.aload_n 0, 1) := by decide +kernel
theorem dX9_day_21 : decode cX9_day 21 = .ok (.getfield 28, 3) := by decide +kernel
theorem dX9_day_24 : decode cX9_day 24 = .ok (.invokevirtual 157, 3) := by decide +kernel
theorem dX9_day_27 : decode cX9_day 27 = .ok (.aload_n 0, 1) := by decide +kernel
theorem dX9_day_28 : decode cX9_day 28 = .ok (.getfield 18, 3) := by decide +kernel
theorem dX9_day_31 : decode cX9_day 31 = .ok (.iload_n 1, 1) := by decide +kernel
theorem dX9_day_32 : decode cX9_day 32 = .ok (.invokevirtual 172, 3) := by decide +kernel
theorem dX9_day_35 : decode cX9_day 35 = .ok (.istore_n 3, 1) := by decide +kernel
theorem dX9_day_36 : decode cX9_day 36 = .ok (.iload_n 2, 1) := by decide +kernel
theorem dX9_day_37 : decode cX9_day 37 = .ok (.iconst 1, 1) := by decide +kernel
theorem dX9_day_38 : decode cX9_day 38 = .ok (.if_icmp .ne 13, 3) := by decide +kernel
theorem dX9_day_41 : decode cX9_day 41 = .ok (.aload_n 0, 1) := by decide +kernel
theorem dX9_day_42 : decode cX9_day 42 = .ok (.getfield 28, 3) := by decide +kernel
theorem dX9_day_45 : decode cX9_day 45 = .ok (.iload_n 1, 1) := by decide +kernel
theorem dX9_day_46 : decode cX9_day 46 = .ok (.iload_n 3, 1) := by decide +kernel
theorem dX9_day_47 : decode cX9_day 47 = .ok (.invokevirtual 175, 3) := by decide +kernel
theorem dX9_day_50 : decode cX9_day 50 = .ok (.ireturn, 1) := by decide +kernel
theorem dX9_day_51 : decode cX9_day 51 = .ok (.aload_n 0, 1) := by decide +kernel
theorem dX9_day_52 : decode cX9_day 52 = .ok (.getfield 28, 3) := by decide +kernel
theorem dX9_day_55 : decode cX9_day 55 = .ok (.iload_n 1, 1) := by decide +kernel
theorem dX9_day_56 : decode cX9_day 56 = .ok (.iload_n 3, 1) := by decide +kernel
theorem dX9_day_57 : decode cX9_day 57 = .ok (.invokevirtual 178, 3) := by decide +kernel
theorem dX9_day_60 : decode cX9_day 60 = .ok (.ifCond .eq 7, 3) := by decide +kernel
theorem dX9_day_63 : decode cX9_day 63 = .ok (.iconst 1, 1) := by decide +kernel
theorem dX9_day_64 : decode cX9_day 64 = .ok (.goto 4, 3) := by decide +kernel
theorem dX9_day_67 : decode cX9_day 67 = .ok (.iconst 0, 1) := by decide +kernel
theorem dX9_day_68 : decode cX9_day 68 = .ok (.ireturn, 1) := by decide +kernel
theorem dX9_where_0 : decode cX9_where 0 = .ok (.aload_n 0, 1) := by decide +kernel
theorem dX9_where_1 : decode cX9_where 1 = .ok (.getfield 18, 3) := by decide +kernel
theorem dX9_where_4 : decode cX9_where 4 = .ok (.iload_n 1, 1) := by decide +kernel
theorem dX9_where_5 : decode cX9_where 5 = .ok (.invokevirtual 166, 3) := by decide +kernel
theorem dX9_where_8 : decode cX9_where 8 = .ok (.ifCond .eq 21, 3) := by decide +kernel
theorem dX9_where_11 : decode cX9_where 11 = .ok (.aload_n 0, 1) := by decide +kernel
theorem dX9_where_12 : decode cX9_where 12 = .ok (.getfield 18, 3) := by decide +kernel
theorem dX9_where_15 : decode cX9_where 15 = .ok (.iload_n 2, 1) := by decide +kernel
theorem dX9_where_16 : decode cX9_where 16 = .ok (.invokevirtual 99, 3) := by decide +kernel
theorem dX9_where_19 : decode cX9_where 19 = .ok (.ifCond .eq 10, 3) := by decide +kernel
theorem dX9_where_22 : decode cX9_where 22 = .ok (.iload_n 3, 1) := by decide +kernel
theorem dX9_where_23 : decode cX9_where 23 = .ok (.invokestatic 181, 3) := by decide +kernel
theorem dX9_where_26 : decode cX9_where 26 = .ok (.ifCond .ne 5, 3) := by decide +kernel
theorem dX9_where_29 : decode cX9_where 29 = .ok (.iconst (-1), 1) := by decide +kernel
theorem dX9_where_30 : decode cX9_where 30 = .ok (.ireturn, 1) := by decide +kernel
theorem dX9_where_31 : decode cX9_where 31 = .ok (.aload_n 0, 1) := by decide +kernel
theorem dX9_where_32 : decode cX9_where 32 = .ok (.getfield 18, 3) := by decide +kernel
theorem dX9_where_35 : decode cX9_where 35 = .ok (.iload_n 1, 1) := by decide +kernel
theorem dX9_where_36 : decode cX9_where 36 = .ok (.iload_n 2, 1) := by decide +kernel
theorem dX9_where_37 : decode cX9_where 37 = .ok (.invokestatic 184, 3) := by decide +kernel
theorem dX9_where_40 : decode cX9_where 40 = .ok (.iload_n 3, 1) := by decide +kernel
theorem dX9_where_41 : decode cX9_where 41 = .ok (.invokevirtual 187, 3) := by decide +kernel
theorem dX9_where_44 : decode cX9_where 44 = .ok (.ireturn, 1) := by decide +kernel
theorem dX9_sees_0 : decode cX9_sees 0 = .ok (.aload_n 0, 1) := by decide +kernel
theorem dX9_sees_1 : decode cX9_sees 1 = .ok (.getfield 18, 3) := by decide +kernel
theorem dX9_sees_4 : decode cX9_sees 4 = .ok (.iload_n 1, 1) := by decide +kernel
theorem dX9_sees_5 : decode cX9_sees 5 = .ok (.invokevirtual 166, 3) := by decide +kernel
theorem dX9_sees_8 : decode cX9_sees 8 = .ok (.ifCond .eq 17, 3) := by decide +kernel
theorem dX9_sees_11 : decode cX9_sees 11 = .ok (.iload_n 2, 1) := by decide +kernel
theorem dX9_sees_12 : decode cX9_sees 12 = .ok (.invokestatic 190, 3) := by decide +kernel
theorem dX9_sees_15 : decode cX9_sees 15 = .ok (.ifCond .eq 10, 3) := by decide +kernel
theorem dX9_sees_18 : decode cX9_sees 18 = .ok (.iload_n 3, 1) := by decide +kernel
theorem dX9_sees_19 : decode cX9_sees 19 = .ok (.invokestatic 181, 3) := by decide +kernel
theorem dX9_sees_22 : decode cX9_sees 22 = .ok (.ifCond .ne 5, 3) := by decide +kernel
theorem dX9_sees_25 : decode cX9_sees 25 = .ok (.iconst (-1), 1) := by decide +kernel
theorem dX9_sees_26 : decode cX9_sees 26 = .ok (.ireturn, 1) := by decide +kernel
theorem dX9_sees_27 : decode cX9_sees 27 = .ok (.aload_n 0, 1) := by decide +kernel
theorem dX9_sees_28 : decode cX9_sees 28 = .ok (.getfield 18, 3) := by decide +kernel
theorem dX9_sees_31 : decode cX9_sees 31 = .ok (.iload_n 2, 1) := by decide +kernel
theorem dX9_sees_32 : decode cX9_sees 32 = .ok (.iload_n 3, 1) := by decide +kernel
theorem dX9_sees_33 : decode cX9_sees 33 = .ok (.invokevirtual 193, 3) := by decide +kernel
theorem dX9_sees_36 : decode cX9_sees 36 = .ok (.aload_n 0, 1) := by decide +kernel
theorem dX9_sees_37 : decode cX9_sees 37 = .ok (.getfield 18, 3) := by decide +kernel
theorem dX9_sees_40 : decode cX9_sees 40 = .ok (.iload_n 1, 1) := by decide +kernel
theorem dX9_sees_41 : decode cX9_sees 41 = .ok (.invokevirtual 172, 3) := by decide +kernel
theorem dX9_sees_44 : decode cX9_sees 44 = .ok (.iand, 1) := by decide +kernel
theorem dX9_sees_45 : decode cX9_sees 45 = .ok (.invokestatic 196, 3) := by decide +kernel
theorem dX9_sees_48 : decode cX9_sees 48 = .ok (.ireturn, 1) := by decide +kernel
theorem dX9_takes_0 : decode cX9_takes 0 = .ok (.aload_n 0, 1) := by decide +kernel
theorem dX9_takes_1 : decode cX9_takes 1 = .ok (.getfield 18, 3) := by decide +kernel
theorem dX9_takes_4 : decode cX9_takes 4 = .ok (.iload_n 1, 1) := by decide +kernel
theorem dX9_takes_5 : decode cX9_takes 5 = .ok (.invokevirtual 166, 3) := by decide +kernel
theorem dX9_takes_8 : decode cX9_takes 8 = .ok (.ifCond .eq 14, 3) := by decide +kernel
theorem dX9_takes_11 : decode cX9_takes 11 = .ok (.aload_n 0, 1) := by decide +kernel
theorem dX9_takes_12 : decode cX9_takes 12 = .ok (.getfield 18, 3) := by decide +kernel
theorem dX9_takes_15 : decode cX9_takes 15 = .ok (.iload_n 2, 1) := by decide +kernel
theorem dX9_takes_16 : decode cX9_takes 16 = .ok (.invokevirtual 99, 3) := by decide +kernel
theorem dX9_takes_19 : decode cX9_takes 19 = .ok (.ifCond .ne 5, 3) := by decide +kernel
theorem dX9_takes_22 : decode cX9_takes 22 = .ok (.iconst (-1), 1) := by decide +kernel
theorem dX9_takes_23 : decode cX9_takes 23 = .ok (.ireturn, 1) := by decide +kernel
theorem dX9_takes_24 : decode cX9_takes 24 = .ok (.aload_n 0, 1) := by decide +kernel
theorem dX9_takes_25 : decode cX9_takes 25 = .ok (.getfield 28, 3) := by decide +kernel
theorem dX9_takes_28 : decode cX9_takes 28 = .ok (.invokevirtual 157, 3) := by decide +kernel
theorem dX9_takes_31 : decode cX9_takes 31 = .ok (.aload_n 0, 1) := by decide +kernel
theorem dX9_takes_32 : decode cX9_takes 32 = .ok (.getfield 28, 3) := by decide +kernel
theorem dX9_takes_35 : decode cX9_takes 35 = .ok (.iload_n 2, 1) := by decide +kernel
theorem dX9_takes_36 : decode cX9_takes 36 = .ok (.aload_n 0, 1) := by decide +kernel
theorem dX9_takes_37 : decode cX9_takes 37 = .ok (.getfield 18, 3) := by decide +kernel
theorem dX9_takes_40 : decode cX9_takes 40 = .ok (.iload_n 1, 1) := by decide +kernel
theorem dX9_takes_41 : decode cX9_takes 41 = .ok (.invokevirtual 172, 3) := by decide +kernel
theorem dX9_takes_44 : decode cX9_takes 44 = .ok (.invokevirtual 199, 3) := by decide +kernel
theorem dX9_takes_47 : decode cX9_takes 47 = .ok (.ireturn, 1) := by decide +kernel
theorem dX9_meet_0 : decode cX9_meet 0 = .ok (.aload_n 0, 1) := by decide +kernel
theorem dX9_meet_1 : decode cX9_meet 1 = .ok (.getfield 18, 3) := by decide +kernel
theorem dX9_meet_4 : decode cX9_meet 4 = .ok (.iload_n 1, 1) := by decide +kernel
theorem dX9_meet_5 : decode cX9_meet 5 = .ok (.invokevirtual 166, 3) := by decide +kernel
theorem dX9_meet_8 : decode cX9_meet 8 = .ok (.ifCond .eq 10, 3) := by decide +kernel
theorem dX9_meet_11 : decode cX9_meet 11 = .ok (.iload_n 2, 1) := by decide +kernel
theorem dX9_meet_12 : decode cX9_meet 12 = .ok (.invokestatic 169, 3) := by decide +kernel
theorem dX9_meet_15 : decode cX9_meet 15 = .ok (.ifCond .ne 5, 3) := by decide +kernel
theorem dX9_meet_18 : decode cX9_meet 18 = .ok (.iconst (-1), 1) := by decide +kernel
theorem dX9_meet_19 : decode cX9_meet 19 = .ok (.ireturn, 1) := by decide +kernel
theorem dX9_meet_20 : decode cX9_meet 20 = .ok (.iload_n 2, 1) := by decide +kernel
theorem dX9_meet_21 : decode cX9_meet 21 = .ok (.ifCond .ne 14, 3) := by decide +kernel
theorem dX9_meet_24 : decode cX9_meet 24 = .ok (.aload_n 0, 1) := by decide +kernel
theorem dX9_meet_25 : decode cX9_meet 25 = .ok (.getfield 18, 3) := by decide +kernel
theorem dX9_meet_28 : decode cX9_meet 28 = .ok (.iload_n 1, 1) := by decide +kernel
theorem dX9_meet_29 : decode cX9_meet 29 = .ok (.invokevirtual 202, 3) := by decide +kernel
theorem dX9_meet_32 : decode cX9_meet 32 = .ok (.goto 11, 3) := by decide +kernel
theorem dX9_meet_35 : decode cX9_meet 35 = .ok (.aload_n 0, 1) := by decide +kernel
theorem dX9_meet_36 : decode cX9_meet 36 = .ok (.getfield 18, 3) := by decide +kernel
theorem dX9_meet_39 : decode cX9_meet 39 = .ok (.iload_n 1, 1) := by decide +kernel
theorem dX9_meet_40 : decode cX9_meet 40 = .ok (.invokevirtual 205, 3) := by decide +kernel
theorem dX9_meet_43 : decode cX9_meet 43 = .ok (.ireturn, 1) := by decide +kernel
theorem dX9_sure_0 : decode cX9_sure 0 = .ok (.aload_n 0, 1) := by decide +kernel
theorem dX9_sure_1 : decode cX9_sure 1 = .ok (.getfield 18, 3) := by decide +kernel
theorem dX9_sure_4 : decode cX9_sure 4 = .ok (.iload_n 1, 1) := by decide +kernel
theorem dX9_sure_5 : decode cX9_sure 5 = .ok (.invokevirtual 99, 3) := by decide +kernel
theorem dX9_sure_8 : decode cX9_sure 8 = .ok (.ifCond .eq 10, 3) := by decide +kernel
theorem dX9_sure_11 : decode cX9_sure 11 = .ok (.iload_n 2, 1) := by decide +kernel
theorem dX9_sure_12 : decode cX9_sure 12 = .ok (.invokestatic 181, 3) := by decide +kernel
theorem dX9_sure_15 : decode cX9_sure 15 = .ok (.ifCond .ne 5, 3) := by decide +kernel
theorem dX9_sure_18 : decode cX9_sure 18 = .ok (.iconst (-1), 1) := by decide +kernel
theorem dX9_sure_19 : decode cX9_sure 19 = .ok (.ireturn, 1) := by decide +kernel
theorem dX9_sure_20 : decode cX9_sure 20 = .ok (.aload_n 0, 1) := by decide +kernel
theorem dX9_sure_21 : decode cX9_sure 21 = .ok (.getfield 28, 3) := by decide +kernel
theorem dX9_sure_24 : decode cX9_sure 24 = .ok (.invokevirtual 157, 3) := by decide +kernel
theorem dX9_sure_27 : decode cX9_sure 27 = .ok (.aload_n 0, 1) := by decide +kernel
theorem dX9_sure_28 : decode cX9_sure 28 = .ok (.getfield 37, 3) := by decide +kernel
theorem dX9_sure_31 : decode cX9_sure 31 = .ok (.iload_n 1, 1) := by decide +kernel
theorem dX9_sure_32 : decode cX9_sure 32 = .ok (.iload_n 2, 1) := by decide +kernel
theorem dX9_sure_33 : decode cX9_sure 33 = .ok (.invokevirtual 208, 3) := by decide +kernel
theorem dX9_sure_36 : decode cX9_sure 36 = .ok (.ireturn, 1) := by decide +kernel
theorem dX9_follow_0 : decode cX9_follow 0 = .ok (.aload_n 0, 1) := by decide +kernel
theorem dX9_follow_1 : decode cX9_follow 1 = .ok (.getfield 18, 3) := by decide +kernel
theorem dX9_follow_4 : decode cX9_follow 4 = .ok (.iload_n 1, 1) := by decide +kernel
theorem dX9_follow_5 : decode cX9_follow 5 = .ok (.invokevirtual 166, 3) := by decide +kernel
theorem dX9_follow_8 : decode cX9_follow 8 = .ok (.ifCond .eq 12, 3) := by decide +kernel
theorem dX9_follow_11 : decode cX9_follow 11 = .ok (.iload_n 2, 1) := by decide +kernel
theorem dX9_follow_12 : decode cX9_follow 12 = .ok (.ifCond .lt 8, 3) := by decide +kernel
theorem dX9_follow_15 : decode cX9_follow 15 = .ok (.iload_n 2, 1) := by decide +kernel
theorem dX9_follow_16 : decode cX9_follow 16 = .ok (.iconst 2, 1) := by decide +kernel
theorem dX9_follow_17 : decode cX9_follow 17 = .ok (.if_icmp .le 5, 3) := by decide +kernel
theorem dX9_follow_20 : decode cX9_follow 20 = .ok (.iconst (-1), 1) := by decide +kernel
theorem dX9_follow_21 : decode cX9_follow 21 = .ok (.ireturn, 1) := by decide +kernel
theorem dX9_follow_22 : decode cX9_follow 22 = .ok (.aload_n 0, 1) := by decide +kernel
theorem dX9_follow_23 : decode cX9_follow 23 = .ok (.getfield 28, 3) := by decide +kernel
theorem dX9_follow_26 : decode cX9_follow 26 = .ok (.invokevirtual 157, 3) := by decide +kernel
theorem dX9_follow_29 : decode cX9_follow 29 = .ok (.aload_n 0, 1) := by decide +kernel
theorem dX9_follow_30 : decode cX9_follow 30 = .ok (.getfield 28, 3) := by decide +kernel
theorem dX9_follow_33 : decode cX9_follow 33 = .ok (.iload_n 1, 1) := by decide +kernel
theorem dX9_follow_34 : decode cX9_follow 34 = .ok (.iload_n 2, 1) := by decide +kernel
theorem dX9_follow_35 : decode cX9_follow 35 = .ok (.invokevirtual 211, 3) := by decide +kernel
theorem dX9_follow_38 : decode cX9_follow 38 = .ok (.ireturn, 1) := by decide +kernel
theorem dX9_read_0 : decode cX9_read 0 = .ok (.iload_n 1, 1) := by decide +kernel
theorem dX9_read_1 : decode cX9_read 1 = .ok (.invokestatic 107, 3) := by decide +kernel
theorem dX9_read_4 : decode cX9_read 4 = .ok (.ifCond .eq 12, 3) := by decide +kernel
theorem dX9_read_7 : decode cX9_read 7 = .ok (.iload_n 2, 1) := by decide +kernel
theorem dX9_read_8 : decode cX9_read 8 = .ok (.ifCond .lt 8, 3) := by decide +kernel
theorem dX9_read_11 : decode cX9_read 11 = .ok (.iload_n 2, 1) := by decide +kernel
theorem dX9_read_12 : decode cX9_read 12 = .ok (.iconst 2, 1) := by decide +kernel
theorem dX9_read_13 : decode cX9_read 13 = .ok (.if_icmp .le 5, 3) := by decide +kernel
theorem dX9_read_16 : decode cX9_read 16 = .ok (.iconst (-1), 1) := by decide +kernel
theorem dX9_read_17 : decode cX9_read 17 = .ok (.ireturn, 1) := by decide +kernel
theorem dX9_read_18 : decode cX9_read 18 = .ok (.aload_n 0, 1) := by decide +kernel
theorem dX9_read_19 : decode cX9_read 19 = .ok (.getfield 28, 3) := by decide +kernel
theorem dX9_read_22 : decode cX9_read 22 = .ok (.invokevirtual 157, 3) := by decide +kernel
theorem dX9_read_25 : decode cX9_read 25 = .ok (.aload_n 0, 1) := by decide +kernel
theorem dX9_read_26 : decode cX9_read 26 = .ok (.getfield 37, 3) := by decide +kernel
theorem dX9_read_29 : decode cX9_read 29 = .ok (.aload_n 0, 1) := by decide +kernel
theorem dX9_read_30 : decode cX9_read 30 = .ok (.getfield 72, 3) := by decide +kernel
theorem dX9_read_33 : decode cX9_read 33 = .ok (.iload_n 1, 1) := by decide +kernel
theorem dX9_read_34 : decode cX9_read 34 = .ok (.aaload, 1) := by decide +kernel
theorem dX9_read_35 : decode cX9_read 35 = .ok (.invokevirtual 214, 3) := by decide +kernel
theorem dX9_read_38 : decode cX9_read 38 = .ok (.istore_n 3, 1) := by decide +kernel
theorem dX9_read_39 : decode cX9_read 39 = .ok (.iload_n 3, 1) := by decide +kernel
theorem dX9_read_40 : decode cX9_read 40 = .ok (.ifCond .eq 5, 3) := by decide +kernel
theorem dX9_read_43 : decode cX9_read 43 = .ok (.iload_n 3, 1) := by decide +kernel
theorem dX9_read_44 : decode cX9_read 44 = .ok (.ireturn, 1) := by decide +kernel
theorem dX9_read_45 : decode cX9_read 45 = .ok (.iload_n 2, 1) := by decide +kernel
theorem dX9_read_46 : decode cX9_read 46 = .ok (.ifCond .ne 11, 3) := by decide +kernel
theorem dX9_read_49 : decode cX9_read 49 = .ok (.aload_n 0, 1) := by decide +kernel
theorem dX9_read_50 : decode cX9_read 50 = .ok (.getfield 37, 3) := by decide +kernel
theorem dX9_read_53 : decode cX9_read 53 = .ok (.getfield 218, 3) := by decide +kernel
theorem dX9_read_56 : decode cX9_read 56 = .ok (.ireturn, 1) := by decide +kernel
theorem dX9_read_57 : decode cX9_read 57 = .ok (.iload_n 2, 1) := by decide +kernel
theorem dX9_read_58 : decode cX9_read 58 = .ok (.iconst 1, 1) := by decide +kernel
theorem dX9_read_59 : decode cX9_read 59 = .ok (.if_icmp .ne 13, 3) := by decide +kernel
theorem dX9_read_62 : decode cX9_read 62 = .ok (.aload_n 0, 1) := by decide +kernel
theorem dX9_read_63 : decode cX9_read 63 = .ok (.getfield 37, 3) := by decide +kernel
theorem dX9_read_66 : decode cX9_read 66 = .ok (.invokevirtual 221, 3) := by decide +kernel
theorem dX9_read_69 : decode cX9_read 69 = .ok (.goto 10, 3) := by decide +kernel
theorem dX9_read_72 : decode cX9_read 72 = .ok (.aload_n 0, 1) := by decide +kernel
theorem dX9_read_73 : decode cX9_read 73 = .ok (.getfield 37, 3) := by decide +kernel
theorem dX9_read_76 : decode cX9_read 76 = .ok (.invokevirtual 224, 3) := by decide +kernel
theorem dX9_read_79 : decode cX9_read 79 = .ok (.ireturn, 1) := by decide +kernel
theorem dX9_look_0 : decode cX9_look 0 = .ok (.iload_n 1, 1) := by decide +kernel
theorem dX9_look_1 : decode cX9_look 1 = .ok (.invokestatic 107, 3) := by decide +kernel
theorem dX9_look_4 : decode cX9_look 4 = .ok (.ifCond .ne 5, 3) := by decide +kernel
theorem dX9_look_7 : decode cX9_look 7 = .ok (.iconst (-1), 1) := by decide +kernel
theorem dX9_look_8 : decode cX9_look 8 = .ok (.ireturn, 1) := by decide +kernel
theorem dX9_look_9 : decode cX9_look 9 = .ok (.aload_n 0, 1) := by decide +kernel
theorem dX9_look_10 : decode cX9_look 10 = .ok (.getfield 28, 3) := by decide +kernel
theorem dX9_look_13 : decode cX9_look 13 = .ok (.invokevirtual 157, 3) := by decide +kernel
theorem dX9_look_16 : decode cX9_look 16 = .ok (.aload_n 0, 1) := by decide +kernel
theorem dX9_look_17 : decode cX9_look 17 = .ok (.getfield 37, 3) := by decide +kernel
theorem dX9_look_20 : decode cX9_look 20 = .ok (.aload_n 0, 1) := by decide +kernel
theorem dX9_look_21 : decode cX9_look 21 = .ok (.getfield 72, 3) := by decide +kernel
theorem dX9_look_24 : decode cX9_look 24 = .ok (.iload_n 1, 1) := by decide +kernel
theorem dX9_look_25 : decode cX9_look 25 = .ok (.aaload, 1) := by decide +kernel
theorem dX9_look_26 : decode cX9_look 26 = .ok (.invokevirtual 214, 3) := by decide +kernel
theorem dX9_look_29 : decode cX9_look 29 = .ok (.istore_n 2, 1) := by decide +kernel
theorem dX9_look_30 : decode cX9_look 30 = .ok (.iload_n 2, 1) := by decide +kernel
theorem dX9_look_31 : decode cX9_look 31 = .ok (.ifCond .eq 5, 3) := by decide +kernel
theorem dX9_look_34 : decode cX9_look 34 = .ok (.iload_n 2, 1) := by decide +kernel
theorem dX9_look_35 : decode cX9_look 35 = .ok (.ireturn, 1) := by decide +kernel
theorem dX9_look_36 : decode cX9_look 36 = .ok (.aload_n 0, 1) := by decide +kernel
theorem dX9_look_37 : decode cX9_look 37 = .ok (.getfield 37, 3) := by decide +kernel
theorem dX9_look_40 : decode cX9_look 40 = .ok (.getfield 218, 3) := by decide +kernel
theorem dX9_look_43 : decode cX9_look 43 = .ok (.iconst 2, 1) := by decide +kernel
theorem dX9_look_44 : decode cX9_look 44 = .ok (.if_icmp .ge 8, 3) := by decide +kernel
theorem dX9_look_47 : decode cX9_look 47 = .ok (.bipush (-2), 2) := by decide +kernel
theorem dX9_look_49 : decode cX9_look 49 = .ok (.goto 10, 3) := by decide +kernel
theorem dX9_look_52 : decode cX9_look 52 = .ok (.aload_n 0, 1) := by decide +kernel
theorem dX9_look_53 : decode cX9_look 53 = .ok (.getfield 37, 3) := by decide +kernel
theorem dX9_look_56 : decode cX9_look 56 = .ok (.invokevirtual 227, 3) := by decide +kernel
theorem dX9_look_59 : decode cX9_look 59 = .ok (.ireturn, 1) := by decide +kernel
theorem dX9_cheapest_0 : decode cX9_cheapest 0 = .ok (.aload_n 0, 1) := by decide +kernel
theorem dX9_cheapest_1 : decode cX9_cheapest 1 = .ok (.getfield 18, 3) := by decide +kernel
theorem dX9_cheapest_4 : decode cX9_cheapest 4 = .ok (.iload_n 1, 1) := by decide +kernel
theorem dX9_cheapest_5 : decode cX9_cheapest 5 = .ok (.invokevirtual 99, 3) := by decide +kernel
theorem dX9_cheapest_8 : decode cX9_cheapest 8 = .ok (.ifCond .eq 17, 3) := by decide +kernel
theorem dX9_cheapest_11 : decode cX9_cheapest 11 = .ok (.iload_n 2, 1) := by decide +kernel
theorem dX9_cheapest_12 : decode cX9_cheapest 12 = .ok (.invokestatic 190, 3) := by decide +kernel
theorem dX9_cheapest_15 : decode cX9_cheapest 15 = .ok (.ifCond .eq 10, 3) := by decide +kernel
theorem dX9_cheapest_18 : decode cX9_cheapest 18 = .ok (.iload_n 3, 1) := by decide +kernel
theorem dX9_cheapest_19 : decode cX9_cheapest 19 = .ok (.invokestatic 169, 3) := by decide +kernel
theorem dX9_cheapest_22 : decode cX9_cheapest 22 = .ok (.ifCond .ne 5, 3) := by decide +kernel
theorem dX9_cheapest_25 : decode cX9_cheapest 25 = .ok (.iconst (-1), 1) := by decide +kernel
theorem dX9_cheapest_26 : decode cX9_cheapest 26 = .ok (.ireturn, 1) := by decide +kernel
theorem dX9_cheapest_27 : decode cX9_cheapest 27 = .ok (.aload_n 0, 1) := by decide +kernel
theorem dX9_cheapest_28 : decode cX9_cheapest 28 = .ok (.getfield 28, 3) := by decide +kernel
theorem dX9_cheapest_31 : decode cX9_cheapest 31 = .ok (.invokevirtual 157, 3) := by decide +kernel
theorem dX9_cheapest_34 : decode cX9_cheapest 34 = .ok (.aload_n 0, 1) := by decide +kernel
theorem dX9_cheapest_35 : decode cX9_cheapest 35 = .ok (.getfield 37, 3) := by decide +kernel
theorem dX9_cheapest_38 : decode cX9_cheapest 38 = .ok (.iload_n 1, 1) := by decide +kernel
theorem dX9_cheapest_39 : decode cX9_cheapest 39 = .ok (.iload_n 2, 1) := by decide +kernel
theorem dX9_cheapest_40 : decode cX9_cheapest 40 = .ok (.iload_n 3, 1) := by decide +kernel
theorem dX9_cheapest_41 : decode cX9_cheapest 41 = .ok (.invokevirtual 230, 3) := by decide +kernel
theorem dX9_cheapest_44 : decode cX9_cheapest 44 = .ok (.ireturn, 1) := by decide +kernel
theorem dX9_guard_0 : decode cX9_guard 0 = .ok (.iload_n 1, 1) := by decide +kernel
theorem dX9_guard_1 : decode cX9_guard 1 = .ok (.ifCond .lt 23, 3) := by decide +kernel
theorem dX9_guard_4 : decode cX9_guard 4 = .ok (.iload_n 1, 1) := by decide +kernel
theorem dX9_guard_5 : decode cX9_guard 5 = .ok (.iconst 1, 1) := by decide +kernel
theorem dX9_guard_6 : decode cX9_guard 6 = .ok (.aload_n 0, 1) := by decide +kernel
theorem dX9_guard_7 : decode cX9_guard 7 = .ok (.getfield 18, 3) := by decide +kernel
theorem dX9_guard_10 : decode cX9_guard 10 = .ok (.getfield 80, 3) := by decide +kernel
theorem dX9_guard_13 : decode cX9_guard 13 = .ok (.ishl, 1) := by decide +kernel
theorem dX9_guard_14 : decode cX9_guard 14 = .ok (.if_icmp .ge 10, 3) := by decide +kernel
theorem dX9_guard_17 : decode cX9_guard 17 = .ok (.iload_n 2, 1) := by decide +kernel
theorem dX9_guard_18 : decode cX9_guard 18 = .ok (.invokestatic 169, 3) := by decide +kernel
theorem dX9_guard_21 : decode cX9_guard 21 = .ok (.ifCond .ne 5, 3) := by decide +kernel
theorem dX9_guard_24 : decode cX9_guard 24 = .ok (.iconst (-1), 1) := by decide +kernel
theorem dX9_guard_25 : decode cX9_guard 25 = .ok (.ireturn, 1) := by decide +kernel
theorem dX9_guard_26 : decode cX9_guard 26 = .ok (.aload_n 0, 1) := by decide +kernel
theorem dX9_guard_27 : decode cX9_guard 27 = .ok (.getfield 28, 3) := by decide +kernel
theorem dX9_guard_30 : decode cX9_guard 30 = .ok (.invokevirtual 157, 3) := by decide +kernel
theorem dX9_guard_33 : decode cX9_guard 33 = .ok (.aload_n 0, 1) := by decide +kernel
theorem dX9_guard_34 : decode cX9_guard 34 = .ok (.getfield 37, 3) := by decide +kernel
theorem dX9_guard_37 : decode cX9_guard 37 = .ok (.iload_n 1, 1) := by decide +kernel
theorem dX9_guard_38 : decode cX9_guard 38 = .ok (.iload_n 2, 1) := by decide +kernel
theorem dX9_guard_39 : decode cX9_guard 39 = .ok (.invokevirtual 234, 3) := by decide +kernel
theorem dX9_guard_42 : decode cX9_guard 42 = .ok (.ireturn, 1) := by decide +kernel
theorem dX9_shoes_0 : decode cX9_shoes 0 = .ok (.aload_n 0, 1) := by decide +kernel
theorem dX9_shoes_1 : decode cX9_shoes 1 = .ok (.getfield 18, 3) := by decide +kernel
theorem dX9_shoes_4 : decode cX9_shoes 4 = .ok (.iload_n 1, 1) := by decide +kernel
theorem dX9_shoes_5 : decode cX9_shoes 5 = .ok (.invokevirtual 99, 3) := by decide +kernel
theorem dX9_shoes_8 : decode cX9_shoes 8 = .ok (.ifCond .eq 10, 3) := by decide +kernel
theorem dX9_shoes_11 : decode cX9_shoes 11 = .ok (.iload_n 2, 1) := by decide +kernel
theorem dX9_shoes_12 : decode cX9_shoes 12 = .ok (.invokestatic 169, 3) := by decide +kernel
theorem dX9_shoes_15 : decode cX9_shoes 15 = .ok (.ifCond .ne 5, 3) := by decide +kernel
theorem dX9_shoes_18 : decode cX9_shoes 18 = .ok (.iconst (-1), 1) := by decide +kernel
theorem dX9_shoes_19 : decode cX9_shoes 19 = .ok (.ireturn, 1) := by decide +kernel
theorem dX9_shoes_20 : decode cX9_shoes 20 = .ok (.aload_n 0, 1) := by decide +kernel
theorem dX9_shoes_21 : decode cX9_shoes 21 = .ok (.getfield 28, 3) := by decide +kernel
theorem dX9_shoes_24 : decode cX9_shoes 24 = .ok (.invokevirtual 157, 3) := by decide +kernel
theorem dX9_shoes_27 : decode cX9_shoes 27 = .ok (.aload_n 0, 1) := by decide +kernel
theorem dX9_shoes_28 : decode cX9_shoes 28 = .ok (.getfield 44, 3) := by decide +kernel
theorem dX9_shoes_31 : decode cX9_shoes 31 = .ok (.iload_n 1, 1) := by decide +kernel
theorem dX9_shoes_32 : decode cX9_shoes 32 = .ok (.iload_n 2, 1) := by decide +kernel
theorem dX9_shoes_33 : decode cX9_shoes 33 = .ok (.invokevirtual 237, 3) := by decide +kernel
theorem dX9_shoes_36 : decode cX9_shoes 36 = .ok (.ireturn, 1) := by decide +kernel
theorem dX9_feigned_0 : decode cX9_feigned 0 = .ok (.aload_n 0, 1) := by decide +kernel
theorem dX9_feigned_1 : decode cX9_feigned 1 = .ok (.getfield 18, 3) := by decide +kernel
theorem dX9_feigned_4 : decode cX9_feigned 4 = .ok (.iload_n 1, 1) := by decide +kernel
theorem dX9_feigned_5 : decode cX9_feigned 5 = .ok (.invokevirtual 99, 3) := by decide +kernel
theorem dX9_feigned_8 : decode cX9_feigned 8 = .ok (.ifCond .eq 17, 3) := by decide +kernel
theorem dX9_feigned_11 : decode cX9_feigned 11 = .ok (.iload_n 2, 1) := by decide +kernel
theorem dX9_feigned_12 : decode cX9_feigned 12 = .ok (.invokestatic 190, 3) := by decide +kernel
theorem dX9_feigned_15 : decode cX9_feigned 15 = .ok (.ifCond .eq 10, 3) := by decide +kernel
theorem dX9_feigned_18 : decode cX9_feigned 18 = .ok (.iload_n 3, 1) := by decide +kernel
theorem dX9_feigned_19 : decode cX9_feigned 19 = .ok (.invokestatic 169, 3) := by decide +kernel
theorem dX9_feigned_22 : decode cX9_feigned 22 = .ok (.ifCond .ne 5, 3) := by decide +kernel
theorem dX9_feigned_25 : decode cX9_feigned 25 = .ok (.iconst (-1), 1) := by decide +kernel
theorem dX9_feigned_26 : decode cX9_feigned 26 = .ok (.ireturn, 1) := by decide +kernel
theorem dX9_feigned_27 : decode cX9_feigned 27 = .ok (.aload_n 0, 1) := by decide +kernel
theorem dX9_feigned_28 : decode cX9_feigned 28 = .ok (.getfield 28, 3) := by decide +kernel
theorem dX9_feigned_31 : decode cX9_feigned 31 = .ok (.invokevirtual 157, 3) := by decide +kernel
theorem dX9_feigned_34 : decode cX9_feigned 34 = .ok (.aload_n 0, 1) := by decide +kernel
theorem dX9_feigned_35 : decode cX9_feigned 35 = .ok (.getfield 44, 3) := by decide +kernel
theorem dX9_feigned_38 : decode cX9_feigned 38 = .ok (.iload_n 1, 1) := by decide +kernel
theorem dX9_feigned_39 : decode cX9_feigned 39 = .ok (.iload_n 2, 1) := by decide +kernel
theorem dX9_feigned_40 : decode cX9_feigned 40 = .ok (.iload_n 3, 1) := by decide +kernel
theorem dX9_feigned_41 : decode cX9_feigned 41 = .ok (.invokevirtual 240, 3) := by decide +kernel
theorem dX9_feigned_44 : decode cX9_feigned 44 = .ok (.ireturn, 1) := by decide +kernel
theorem dX9_flood_0 : decode cX9_flood 0 = .ok (.iload_n 1, 1) := by decide +kernel
theorem dX9_flood_1 : decode cX9_flood 1 = .ok (.invokestatic 190, 3) := by decide +kernel
theorem dX9_flood_4 : decode cX9_flood 4 = .ok (.ifCond .eq 38, 3) := by decide +kernel
theorem dX9_flood_7 : decode cX9_flood 7 = .ok (.iload_n 2, 1) := by decide +kernel
theorem dX9_flood_8 : decode cX9_flood 8 = .ok (.ifCond .lt 34, 3) := by decide +kernel
theorem dX9_flood_11 : decode cX9_flood 11 = .ok (.iload_n 2, 1) := by decide +kernel
theorem dX9_flood_12 : decode cX9_flood 12 = .ok (.sipush 1000, 3) := by decide +kernel
theorem dX9_flood_15 : decode cX9_flood 15 = .ok (.idiv, 1) := by decide +kernel
theorem dX9_flood_16 : decode cX9_flood 16 = .ok (.invokestatic 181, 3) := by decide +kernel
theorem dX9_flood_19 : decode cX9_flood 19 = .ok (.ifCond .eq 23, 3) := by decide +kernel
theorem dX9_flood_22 : decode cX9_flood 22 = .ok (.iload_n 2, 1) := by decide +kernel
theorem dX9_flood_23 : decode cX9_flood 23 = .ok (.sipush 1000, 3) := by decide +kernel
theorem dX9_flood_26 : decode cX9_flood 26 = .ok (.idiv, 1) := by decide +kernel
theorem dX9_flood_27 : decode cX9_flood 27 = .ok (.iload_n 2, 1) := by decide +kernel
theorem dX9_flood_28 : decode cX9_flood 28 = .ok (.sipush 1000, 3) := by decide +kernel
theorem dX9_flood_31 : decode cX9_flood 31 = .ok (.irem, 1) := by decide +kernel
theorem dX9_flood_32 : decode cX9_flood 32 = .ok (.if_icmp .gt 10, 3) := by decide +kernel
theorem dX9_flood_35 : decode cX9_flood 35 = .ok (.iload_n 3, 1) := by decide +kernel
theorem dX9_flood_36 : decode cX9_flood 36 = .ok (.invokestatic 169, 3) := by decide +kernel
theorem dX9_flood_39 : decode cX9_flood 39 = .ok (.ifCond .ne 5, 3) := by decide +kernel
theorem dX9_flood_42 : decode cX9_flood 42 = .ok (.iconst (-1), 1) := by decide +kernel
theorem dX9_flood_43 : decode cX9_flood 43 = .ok (.ireturn, 1) := by decide +kernel
theorem dX9_flood_44 : decode cX9_flood 44 = .ok (.aload_n 0, 1) := by decide +kernel
theorem dX9_flood_45 : decode cX9_flood 45 = .ok (.getfield 28, 3) := by decide +kernel
theorem dX9_flood_48 : decode cX9_flood 48 = .ok (.invokevirtual 157, 3) := by decide +kernel
theorem dX9_flood_51 : decode cX9_flood 51 = .ok (.aload_n 0, 1) := by decide +kernel
theorem dX9_flood_52 : decode cX9_flood 52 = .ok (.getfield 44, 3) := by decide +kernel
theorem dX9_flood_55 : decode cX9_flood 55 = .ok (.iload_n 1, 1) := by decide +kernel
theorem dX9_flood_56 : decode cX9_flood 56 = .ok (.iload_n 2, 1) := by decide +kernel
theorem dX9_flood_57 : decode cX9_flood 57 = .ok (.sipush 1000, 3) := by decide +kernel
theorem dX9_flood_60 : decode cX9_flood 60 = .ok (.idiv, 1) := by decide +kernel
theorem dX9_flood_61 : decode cX9_flood 61 = .ok (.iload_n 2, 1) := by decide +kernel
theorem dX9_flood_62 : decode cX9_flood 62 = .ok (.sipush 1000, 3) := by decide +kernel
theorem dX9_flood_65 : decode cX9_flood 65 = .ok (.irem, 1) := by decide +kernel
theorem dX9_flood_66 : decode cX9_flood 66 = .ok (.iload_n 3, 1) := by decide +kernel
theorem dX9_flood_67 : decode cX9_flood 67 = .ok (.invokevirtual 243, 3) := by decide +kernel
theorem dX9_flood_70 : decode cX9_flood 70 = .ok (.ireturn, 1) := by decide +kernel
theorem dX9_drawn_0 : decode cX9_drawn 0 = .ok (.iload_n 2, 1) := by decide +kernel
theorem dX9_drawn_1 : decode cX9_drawn 1 = .ok (.iconst 1, 1) := by decide +kernel
theorem dX9_drawn_2 : decode cX9_drawn 2 = .ok (.if_icmp .lt 16, 3) := by decide +kernel
theorem dX9_drawn_5 : decode cX9_drawn 5 = .ok (.iload_n 2, 1) := by decide +kernel
theorem dX9_drawn_6 : decode cX9_drawn 6 = .ok (.bipush 20, 2) := by decide +kernel
theorem dX9_drawn_8 : decode cX9_drawn 8 = .ok (.if_icmp .gt 10, 3) := by decide +kernel
theorem dX9_drawn_11 : decode cX9_drawn 11 = .ok (.iload_n 3, 1) := by decide +kernel
theorem dX9_drawn_12 : decode cX9_drawn 12 = .ok (.invokestatic 169, 3) := by decide +kernel
theorem dX9_drawn_15 : decode cX9_drawn 15 = .ok (.ifCond .ne 5, 3) := by decide +kernel
theorem dX9_drawn_18 : decode cX9_drawn 18 = .ok (.iconst (-1), 1) := by decide +kernel
theorem dX9_drawn_19 : decode cX9_drawn 19 = .ok (.ireturn, 1) := by decide +kernel
theorem dX9_drawn_20 : decode cX9_drawn 20 = .ok (.aload_n 0, 1) := by decide +kernel
theorem dX9_drawn_21 : decode cX9_drawn 21 = .ok (.getfield 28, 3) := by decide +kernel
theorem dX9_drawn_24 : decode cX9_drawn 24 = .ok (.invokevirtual 157, 3) := by decide +kernel
theorem dX9_drawn_27 : decode cX9_drawn 27 = .ok (.aload_n 0, 1) := by decide +kernel
theorem dX9_drawn_28 : decode cX9_drawn 28 = .ok (.getfield 44, 3) := by decide +kernel
theorem dX9_drawn_31 : decode cX9_drawn 31 = .ok (.iload_n 1, 1) := by decide +kernel
theorem dX9_drawn_32 : decode cX9_drawn 32 = .ok (.iload_n 2, 1) := by decide +kernel
theorem dX9_drawn_33 : decode cX9_drawn 33 = .ok (.iload_n 3, 1) := by decide +kernel
theorem dX9_drawn_34 : decode cX9_drawn 34 = .ok (.invokevirtual 247, 3) := by decide +kernel
theorem dX9_drawn_37 : decode cX9_drawn 37 = .ok (.ireturn, 1) := by decide +kernel
theorem dX9_live_0 : decode cX9_live 0 = .ok (.iload_n 1, 1) := by decide +kernel
theorem dX9_live_1 : decode cX9_live 1 = .ok (.ifCond .ge 5, 3) := by decide +kernel
theorem dX9_live_4 : decode cX9_live 4 = .ok (.iconst (-1), 1) := by decide +kernel
theorem dX9_live_5 : decode cX9_live 5 = .ok (.ireturn, 1) := by decide +kernel
theorem dX9_live_6 : decode cX9_live 6 = .ok (.aload_n 0, 1) := by decide +kernel
theorem dX9_live_7 : decode cX9_live 7 = .ok (.getfield 28, 3) := by decide +kernel
theorem dX9_live_10 : decode cX9_live 10 = .ok (.invokevirtual 157, 3) := by decide +kernel
theorem dX9_live_13 : decode cX9_live 13 = .ok (.aload_n 0, 1) := by decide +kernel
theorem dX9_live_14 : decode cX9_live 14 = .ok (.getfield 28, 3) := by decide +kernel
theorem dX9_live_17 : decode cX9_live 17 = .ok (.iload_n 1, 1) := by decide +kernel
theorem dX9_live_18 : decode cX9_live 18 = .ok (.invokevirtual 163, 3) := by decide +kernel
theorem dX9_live_21 : decode cX9_live 21 = .ok (.istore_n 2, 1) := by decide +kernel
theorem dX9_live_22 : decode cX9_live 22 = .ok (.iload_n 2, 1) := by decide +kernel
theorem dX9_live_23 : decode cX9_live 23 = .ok (.ifCond .ge 6, 3) := by decide +kernel
theorem dX9_live_26 : decode cX9_live 26 = .ok (.bipush (-2), 2) := by decide +kernel
theorem dX9_live_28 : decode cX9_live 28 = .ok (.ireturn, 1) := by decide +kernel
theorem dX9_live_29 : decode cX9_live 29 = .ok (.aload_n 0, 1) := by decide +kernel
theorem dX9_live_30 : decode cX9_live 30 = .ok (.getfield 18, 3) := by decide +kernel
theorem dX9_live_33 : decode cX9_live 33 = .ok (.iload_n 2, 1) := by decide +kernel
theorem dX9_live_34 : decode cX9_live 34 = .ok (.invokevirtual 202, 3) := by decide +kernel
theorem dX9_live_37 : decode cX9_live 37 = .ok (.istore_n 3, 1) := by decide +kernel
theorem dX9_live_38 : decode cX9_live 38 = .ok (.aload_n 0, 1) := by decide +kernel
theorem dX9_live_39 : decode cX9_live 39 = .ok (.getfield 51, 3) := by decide +kernel
theorem dX9_live_42 : decode cX9_live 42 = .ok (.iload_n 2, 1) := by decide +kernel
theorem dX9_live_43 : decode cX9_live 43 = .ok (.iload_n 3, 1) := by decide +kernel
theorem dX9_live_44 : decode cX9_live 44 = .ok (.iconst 0, 1) := by decide +kernel
theorem dX9_live_45 : decode cX9_live 45 = .ok (.invokevirtual 250, 3) := by decide +kernel
theorem dX9_live_48 : decode cX9_live 48 = .ok (.iload_n 3, 1) := by decide +kernel
theorem dX9_live_49 : decode cX9_live 49 = .ok (.ireturn, 1) := by decide +kernel
theorem dX9_step_0 : decode cX9_step 0 = .ok (.aload_n 0, 1) := by decide +kernel
theorem dX9_step_1 : decode cX9_step 1 = .ok (.getfield 18, 3) := by decide +kernel
theorem dX9_step_4 : decode cX9_step 4 = .ok (.iload_n 1, 1) := by decide +kernel
theorem dX9_step_5 : decode cX9_step 5 = .ok (.iload_n 2, 1) := by decide +kernel
theorem dX9_step_6 : decode cX9_step 6 = .ok (.invokevirtual 135, 3) := by decide +kernel
theorem dX9_step_9 : decode cX9_step 9 = .ok (.ifCond .ne 5, 3) := by decide +kernel
theorem dX9_step_12 : decode cX9_step 12 = .ok (.iconst (-1), 1) := by decide +kernel
theorem dX9_step_13 : decode cX9_step 13 = .ok (.ireturn, 1) := by decide +kernel
theorem dX9_step_14 : decode cX9_step 14 = .ok (.aload_n 0, 1) := by decide +kernel
theorem dX9_step_15 : decode cX9_step 15 = .ok (.getfield 51, 3) := by decide +kernel
theorem dX9_step_18 : decode cX9_step 18 = .ok (.iconst 3, 1) := by decide +kernel
theorem dX9_step_19 : decode cX9_step 19 = .ok (.invokevirtual 253, 3) := by decide +kernel
theorem dX9_step_22 : decode cX9_step 22 = .ok (.istore_n 3, 1) := by decide +kernel
theorem dX9_step_23 : decode cX9_step 23 = .ok (.aload_n 0, 1) := by decide +kernel
theorem dX9_step_24 : decode cX9_step 24 = .ok (.getfield 18, 3) := by decide +kernel
theorem dX9_step_27 : decode cX9_step 27 = .ok (.iload_n 3, 1) := by decide +kernel
theorem dX9_step_28 : decode cX9_step 28 = .ok (.invokevirtual 166, 3) := by decide +kernel
theorem dX9_step_31 : decode cX9_step 31 = .ok (.ifCond .ne 6, 3) := by decide +kernel
theorem dX9_step_34 : decode cX9_step 34 = .ok (.bipush (-5), 2) := by decide +kernel
theorem dX9_step_36 : decode cX9_step 36 = .ok (.ireturn, 1) := by decide +kernel
theorem dX9_step_37 : decode cX9_step 37 = .ok (.aload_n 0, 1) := by decide +kernel
theorem dX9_step_38 : decode cX9_step 38 = .ok (.getfield 28, 3) := by decide +kernel
theorem dX9_step_41 : decode cX9_step 41 = .ok (.invokevirtual 157, 3) := by decide +kernel
theorem dX9_step_44 : decode cX9_step 44 = .ok (.aload_n 0, 1) := by decide +kernel
theorem dX9_step_45 : decode cX9_step 45 = .ok (.getfield 28, 3) := by decide +kernel
theorem dX9_step_48 : decode cX9_step 48 = .ok (.iload_n 1, 1) := by decide +kernel
theorem dX9_step_49 : decode cX9_step 49 = .ok (.aload_n 0, 1) := by decide +kernel
theorem dX9_step_50 : decode cX9_step 50 = .ok (.getfield 18, 3) := by decide +kernel
theorem dX9_step_53 : decode cX9_step 53 = .ok (.iload_n 3, 1) := by decide +kernel
theorem dX9_step_54 : decode cX9_step 54 = .ok (.invokevirtual 172, 3) := by decide +kernel
theorem dX9_step_57 : decode cX9_step 57 = .ok (.invokevirtual 199, 3) := by decide +kernel
theorem dX9_step_60 : decode cX9_step 60 = .ok (.istore 4, 2) := by decide +kernel
theorem dX9_step_62 : decode cX9_step 62 = .ok (.iload_n 2, 1) := by decide +kernel
theorem dX9_step_63 : decode cX9_step 63 = .ok (.iload 4, 2) := by decide +kernel
theorem dX9_step_65 : decode cX9_step 65 = .ok (.if_icmp .ne 7, 3) := by decide +kernel
theorem dX9_step_68 : decode cX9_step 68 = .ok (.iconst 0, 1) := by decide +kernel
theorem dX9_step_69 : decode cX9_step 69 = .ok (.goto 12, 3) := by decide +kernel
theorem dX9_step_72 : decode cX9_step 72 = .ok (.aload_n 0, 1) := by decide +kernel
theorem dX9_step_73 : decode cX9_step 73 = .ok (.getfield 18, 3) := by decide +kernel
theorem dX9_step_76 : decode cX9_step 76 = .ok (.iload_n 1, 1) := by decide +kernel
theorem dX9_step_77 : decode cX9_step 77 = .ok (.iconst 2, 1) := by decide +kernel
theorem dX9_step_78 : decode cX9_step 78 = .ok (.invokevirtual 124, 3) := by decide +kernel
theorem dX9_step_81 : decode cX9_step 81 = .ok (.istore 5, 2) := by decide +kernel
theorem dX9_step_83 : decode cX9_step 83 = .ok (.aload_n 0, 1) := by decide +kernel
theorem dX9_step_84 : decode cX9_step 84 = .ok (.getfield 28, 3) := by decide +kernel
theorem dX9_step_87 : decode cX9_step 87 = .ok (.iload_n 3, 1) := by decide +kernel
theorem dX9_step_88 : decode cX9_step 88 = .ok (.invokevirtual 255, 3) := by decide +kernel
theorem dX9_step_91 : decode cX9_step 91 = .ok (.iload_n 1, 1) := by decide +kernel
theorem dX9_step_92 : decode cX9_step 92 = .ok (.iload_n 2, 1) := by decide +kernel
theorem dX9_step_93 : decode cX9_step 93 = .ok (.invokestatic 258, 3) := by decide +kernel
theorem dX9_step_96 : decode cX9_step 96 = .ok (.istore 6, 2) := by decide +kernel
theorem dX9_step_98 : decode cX9_step 98 = .ok (.aload_n 0, 1) := by decide +kernel
theorem dX9_step_99 : decode cX9_step 99 = .ok (.getfield 51, 3) := by decide +kernel
theorem dX9_step_102 : decode cX9_step 102 = .ok (.iload 6, 2) := by decide +kernel
theorem dX9_step_104 : decode cX9_step 104 = .ok (.aload_n 0, 1) := by decide +kernel
theorem dX9_step_105 : decode cX9_step 105 = .ok (.getfield 18, 3) := by decide +kernel
theorem dX9_step_108 : decode cX9_step 108 = .ok (.iload 6, 2) := by decide +kernel
theorem dX9_step_110 : decode cX9_step 110 = .ok (.invokevirtual 202, 3) := by decide +kernel
theorem dX9_step_113 : decode cX9_step 113 = .ok (.iload 5, 2) := by decide +kernel
theorem dX9_step_115 : decode cX9_step 115 = .ok (.invokevirtual 250, 3) := by decide +kernel
theorem dX9_step_118 : decode cX9_step 118 = .ok (.iload 5, 2) := by decide +kernel
theorem dX9_step_120 : decode cX9_step 120 = .ok (.ireturn, 1) := by decide +kernel
theorem dX9_led_0 : decode cX9_led 0 = .ok (.iload_n 1, 1) := by decide +kernel
theorem dX9_led_1 : decode cX9_led 1 = .ok (.ifCond .lt 8, 3) := by decide +kernel
theorem dX9_led_4 : decode cX9_led 4 = .ok (.iload_n 1, 1) := by decide +kernel
theorem dX9_led_5 : decode cX9_led 5 = .ok (.iconst 3, 1) := by decide +kernel
theorem dX9_led_6 : decode cX9_led 6 = .ok (.if_icmp .le 7, 3) := by decide +kernel
theorem dX9_led_9 : decode cX9_led 9 = .ok (.iconst (-1), 1) := by decide +kernel
theorem dX9_led_10 : decode cX9_led 10 = .ok (.goto 11, 3) := by decide +kernel
theorem dX9_led_13 : decode cX9_led 13 = .ok (.aload_n 0, 1) := by decide +kernel
theorem dX9_led_14 : decode cX9_led 14 = .ok (.getfield 51, 3) := by decide +kernel
theorem dX9_led_17 : decode cX9_led 17 = .ok (.iload_n 1, 1) := by decide +kernel
theorem dX9_led_18 : decode cX9_led 18 = .ok (.invokevirtual 253, 3) := by decide +kernel
theorem dX9_led_21 : decode cX9_led 21 = .ok (.ireturn, 1) := by decide +kernel
theorem dX9_image_0 : decode cX9_image 0 = .ok (.aload_n 0, 1) := by decide +kernel
theorem dX9_image_1 : decode cX9_image 1 = .ok (.getfield 51, 3) := by decide +kernel
theorem dX9_image_4 : decode cX9_image 4 = .ok (.invokevirtual 261, 3) := by decide +kernel
theorem dX9_image_7 : decode cX9_image 7 = .ok (.aload_n 0, 1) := by decide +kernel
theorem dX9_image_8 : decode cX9_image 8 = .ok (.getfield 51, 3) := by decide +kernel
theorem dX9_image_11 : decode cX9_image 11 = .ok (.iconst 0, 1) := by decide +kernel
theorem dX9_image_12 : decode cX9_image 12 = .ok (.invokevirtual 253, 3) := by decide +kernel
theorem dX9_image_15 : decode cX9_image 15 = .ok (.ireturn, 1) := by decide +kernel
theorem dX9_back_0 : decode cX9_back 0 = .ok (.aload_n 0, 1) := by decide +kernel
theorem dX9_back_1 : decode cX9_back 1 = .ok (.getfield 51, 3) := by decide +kernel
theorem dX9_back_4 : decode cX9_back 4 = .ok (.invokevirtual 264, 3) := by decide +kernel
theorem dX9_back_7 : decode cX9_back 7 = .ok (.ifCond .eq 14, 3) := by decide +kernel
theorem dX9_back_10 : decode cX9_back 10 = .ok (.aload_n 0, 1) := by decide +kernel
theorem dX9_back_11 : decode cX9_back 11 = .ok (.getfield 51, 3) := by decide +kernel
theorem dX9_back_14 : decode cX9_back 14 = .ok (.iconst 0, 1) := by decide +kernel
theorem dX9_back_15 : decode cX9_back 15 = .ok (.invokevirtual 253, 3) := by decide +kernel
theorem dX9_back_18 : decode cX9_back 18 = .ok (.goto 5, 3) := by decide +kernel
theorem dX9_back_21 : decode cX9_back 21 = .ok (.bipush (-5), 2) := by decide +kernel
theorem dX9_back_23 : decode cX9_back 23 = .ok (.ireturn, 1) := by decide +kernel
theorem dX9_undo_0 : decode cX9_undo 0 = .ok (.aload_n 0, 1) := by decide +kernel
theorem dX9_undo_1 : decode cX9_undo 1 = .ok (.getfield 58, 3) := by decide +kernel
theorem dX9_undo_4 : decode cX9_undo 4 = .ok (.aload_n 0, 1) := by decide +kernel
theorem dX9_undo_5 : decode cX9_undo 5 = .ok (.getfield 18, 3) := by decide +kernel
theorem dX9_undo_8 : decode cX9_undo 8 = .ok (.invokevirtual 268, 3) := by decide +kernel
theorem dX9_undo_11 : decode cX9_undo 11 = .ok (.ifCond .ne 6, 3) := by decide +kernel
theorem dX9_undo_14 : decode cX9_undo 14 = .ok (.bipush (-5), 2) := by decide +kernel
theorem dX9_undo_16 : decode cX9_undo 16 = .ok (.ireturn, 1) := by decide +kernel
theorem dX9_undo_17 : decode cX9_undo 17 = .ok (.aload_n 0, 1) := by decide +kernel
theorem dX9_undo_18 : decode cX9_undo 18 = .ok (.getfield 28, 3) := by decide +kernel
theorem dX9_undo_21 : decode cX9_undo 21 = .ok (.invokevirtual 96, 3) := by decide +kernel
theorem dX9_undo_24 : decode cX9_undo 24 = .ok (.aload_n 0, 1) := by decide +kernel
theorem dX9_undo_25 : decode cX9_undo 25 = .ok (.getfield 58, 3) := by decide +kernel
theorem dX9_undo_28 : decode cX9_undo 28 = .ok (.getfield 272, 3) := by decide +kernel
theorem dX9_undo_31 : decode cX9_undo 31 = .ok (.ireturn, 1) := by decide +kernel
theorem dX9_redo_0 : decode cX9_redo 0 = .ok (.aload_n 0, 1) := by decide +kernel
theorem dX9_redo_1 : decode cX9_redo 1 = .ok (.getfield 58, 3) := by decide +kernel
theorem dX9_redo_4 : decode cX9_redo 4 = .ok (.aload_n 0, 1) := by decide +kernel
theorem dX9_redo_5 : decode cX9_redo 5 = .ok (.getfield 18, 3) := by decide +kernel
theorem dX9_redo_8 : decode cX9_redo 8 = .ok (.invokevirtual 275, 3) := by decide +kernel
theorem dX9_redo_11 : decode cX9_redo 11 = .ok (.ifCond .ne 6, 3) := by decide +kernel
theorem dX9_redo_14 : decode cX9_redo 14 = .ok (.bipush (-5), 2) := by decide +kernel
theorem dX9_redo_16 : decode cX9_redo 16 = .ok (.ireturn, 1) := by decide +kernel
theorem dX9_redo_17 : decode cX9_redo 17 = .ok (.aload_n 0, 1) := by decide +kernel
theorem dX9_redo_18 : decode cX9_redo 18 = .ok (.getfield 28, 3) := by decide +kernel
theorem dX9_redo_21 : decode cX9_redo 21 = .ok (.invokevirtual 96, 3) := by decide +kernel
theorem dX9_redo_24 : decode cX9_redo 24 = .ok (.aload_n 0, 1) := by decide +kernel
theorem dX9_redo_25 : decode cX9_redo 25 = .ok (.getfield 58, 3) := by decide +kernel
theorem dX9_redo_28 : decode cX9_redo 28 = .ok (.invokevirtual 278, 3) := by decide +kernel
theorem dX9_redo_31 : decode cX9_redo 31 = .ok (.ireturn, 1) := by decide +kernel
theorem dX9_body_0 : decode cX9_body 0 = .ok (.iload_n 1, 1) := by decide +kernel
theorem dX9_body_1 : decode cX9_body 1 = .ok (.ifCond .lt 9, 3) := by decide +kernel
theorem dX9_body_4 : decode cX9_body 4 = .ok (.iload_n 1, 1) := by decide +kernel
theorem dX9_body_5 : decode cX9_body 5 = .ok (.bipush 8, 2) := by decide +kernel
theorem dX9_body_7 : decode cX9_body 7 = .ok (.if_icmp .lt 5, 3) := by decide +kernel
theorem dX9_body_10 : decode cX9_body 10 = .ok (.iconst (-1), 1) := by decide +kernel
theorem dX9_body_11 : decode cX9_body 11 = .ok (.ireturn, 1) := by decide +kernel
theorem dX9_body_12 : decode cX9_body 12 = .ok (.aload_n 0, 1) := by decide +kernel
theorem dX9_body_13 : decode cX9_body 13 = .ok (.getfield 65, 3) := by decide +kernel
theorem dX9_body_16 : decode cX9_body 16 = .ok (.iload_n 1, 1) := by decide +kernel
theorem dX9_body_17 : decode cX9_body 17 = .ok (.invokevirtual 281, 3) := by decide +kernel
theorem dX9_body_20 : decode cX9_body 20 = .ok (.istore_n 2, 1) := by decide +kernel
theorem dX9_body_21 : decode cX9_body 21 = .ok (.iload_n 2, 1) := by decide +kernel
theorem dX9_body_22 : decode cX9_body 22 = .ok (.ifCond .ge 8, 3) := by decide +kernel
theorem dX9_body_25 : decode cX9_body 25 = .ok (.bipush (-3), 2) := by decide +kernel
theorem dX9_body_27 : decode cX9_body 27 = .ok (.goto 4, 3) := by decide +kernel
theorem dX9_body_30 : decode cX9_body 30 = .ok (.iload_n 2, 1) := by decide +kernel
theorem dX9_body_31 : decode cX9_body 31 = .ok (.ireturn, 1) := by decide +kernel
theorem dX9_act_0 : decode cX9_act 0 = .ok (.aload_n 0, 1) := by decide +kernel
theorem dX9_act_1 : decode cX9_act 1 = .ok (.getfield 65, 3) := by decide +kernel
theorem dX9_act_4 : decode cX9_act 4 = .ok (.iload_n 1, 1) := by decide +kernel
theorem dX9_act_5 : decode cX9_act 5 = .ok (.iload_n 2, 1) := by decide +kernel
theorem dX9_act_6 : decode cX9_act 6 = .ok (.iload_n 3, 1) := by decide +kernel
theorem dX9_act_7 : decode cX9_act 7 = .ok (.invokevirtual 284, 3) := by decide +kernel
theorem dX9_act_10 : decode cX9_act 10 = .ok (.ireturn, 1) := by decide +kernel
theorem dX9_trace_0 : decode cX9_trace 0 = .ok (.aload_n 0, 1) := by decide +kernel
theorem dX9_trace_1 : decode cX9_trace 1 = .ok (.getfield 65, 3) := by decide +kernel
theorem dX9_trace_4 : decode cX9_trace 4 = .ok (.iload_n 1, 1) := by decide +kernel
theorem dX9_trace_5 : decode cX9_trace 5 = .ok (.invokevirtual 287, 3) := by decide +kernel
theorem dX9_trace_8 : decode cX9_trace 8 = .ok (.ireturn, 1) := by decide +kernel
theorem dX9_keep_0 : decode cX9_keep 0 = .ok (.iload_n 1, 1) := by decide +kernel
theorem dX9_keep_1 : decode cX9_keep 1 = .ok (.invokestatic 107, 3) := by decide +kernel
theorem dX9_keep_4 : decode cX9_keep 4 = .ok (.ifCond .eq 19, 3) := by decide +kernel
theorem dX9_keep_7 : decode cX9_keep 7 = .ok (.iload_n 2, 1) := by decide +kernel
theorem dX9_keep_8 : decode cX9_keep 8 = .ok (.iconst (-1), 1) := by decide +kernel
theorem dX9_keep_9 : decode cX9_keep 9 = .ok (.if_icmp .eq 16, 3) := by decide +kernel
theorem dX9_keep_12 : decode cX9_keep 12 = .ok (.aload_n 0, 1) := by decide +kernel
theorem dX9_keep_13 : decode cX9_keep 13 = .ok (.getfield 65, 3) := by decide +kernel
theorem dX9_keep_16 : decode cX9_keep 16 = .ok (.iload_n 2, 1) := by decide +kernel
theorem dX9_keep_17 : decode cX9_keep 17 = .ok (.invokevirtual 290, 3) := by decide +kernel
theorem dX9_keep_20 : decode cX9_keep 20 = .ok (.ifCond .ne 5, 3) := by decide +kernel
theorem dX9_keep_23 : decode cX9_keep 23 = .ok (.iconst (-1), 1) := by decide +kernel
theorem dX9_keep_24 : decode cX9_keep 24 = .ok (.ireturn, 1) := by decide +kernel
theorem dX9_keep_25 : decode cX9_keep 25 = .ok (.iload_n 2, 1) := by decide +kernel
theorem dX9_keep_26 : decode cX9_keep 26 = .ok (.iconst (-1), 1) := by decide +kernel
theorem dX9_keep_27 : decode cX9_keep 27 = .ok (.if_icmp .ne 15, 3) := by decide +kernel
theorem dX9_keep_30 : decode cX9_keep 30 = .ok (.aload_n 0, 1) := by decide +kernel
theorem dX9_keep_31 : decode cX9_keep 31 = .ok (.getfield 72, 3) := by decide +kernel
theorem dX9_keep_34 : decode cX9_keep 34 = .ok (.iload_n 1, 1) := by decide +kernel
theorem dX9_keep_35 : decode cX9_keep 35 = .ok (.aaload, 1) := by decide +kernel
theorem dX9_keep_36 : decode cX9_keep 36 = .ok (.invokevirtual 293, 3) := by decide +kernel
theorem dX9_keep_39 : decode cX9_keep 39 = .ok (.goto 20, 3) := by decide +kernel
theorem dX9_keep_42 : decode cX9_keep 42 = .ok (.aload_n 0, 1) := by decide +kernel
theorem dX9_keep_43 : decode cX9_keep 43 = .ok (.getfield 72, 3) := by decide +kernel
theorem dX9_keep_46 : decode cX9_keep 46 = .ok (.iload_n 1, 1) := by decide +kernel
theorem dX9_keep_47 : decode cX9_keep 47 = .ok (.aaload, 1) := by decide +kernel
theorem dX9_keep_48 : decode cX9_keep 48 = .ok (.aload_n 0, 1) := by decide +kernel
theorem dX9_keep_49 : decode cX9_keep 49 = .ok (.getfield 65, 3) := by decide +kernel
theorem dX9_keep_52 : decode cX9_keep 52 = .ok (.iload_n 2, 1) := by decide +kernel
theorem dX9_keep_53 : decode cX9_keep 53 = .ok (.invokevirtual 296, 3) := by decide +kernel
theorem dX9_keep_56 : decode cX9_keep 56 = .ok (.invokevirtual 299, 3) := by decide +kernel
theorem dX9_keep_59 : decode cX9_keep 59 = .ok (.iconst 1, 1) := by decide +kernel
theorem dX9_keep_60 : decode cX9_keep 60 = .ok (.ireturn, 1) := by decide +kernel
theorem dX9_row_0 : decode cX9_row 0 = .ok (.iload_n 1, 1) := by decide +kernel
theorem dX9_row_1 : decode cX9_row 1 = .ok (.invokestatic 107, 3) := by decide +kernel
theorem dX9_row_4 : decode cX9_row 4 = .ok (.ifCond .eq 18, 3) := by decide +kernel
theorem dX9_row_7 : decode cX9_row 7 = .ok (.iload_n 2, 1) := by decide +kernel
theorem dX9_row_8 : decode cX9_row 8 = .ok (.ifCond .lt 14, 3) := by decide +kernel
theorem dX9_row_11 : decode cX9_row 11 = .ok (.iload_n 2, 1) := by decide +kernel
theorem dX9_row_12 : decode cX9_row 12 = .ok (.iconst 4, 1) := by decide +kernel
theorem dX9_row_13 : decode cX9_row 13 = .ok (.if_icmp .gt 9, 3) := by decide +kernel
theorem dX9_row_16 : decode cX9_row 16 = .ok (.iload_n 3, 1) := by decide +kernel
theorem dX9_row_17 : decode cX9_row 17 = .ok (.bipush 60, 2) := by decide +kernel
theorem dX9_row_19 : decode cX9_row 19 = .ok (.if_icmp .le 5, 3) := by decide +kernel
theorem dX9_row_22 : decode cX9_row 22 = .ok (.iconst (-1), 1) := by decide +kernel
theorem dX9_row_23 : decode cX9_row 23 = .ok (.ireturn, 1) := by decide +kernel
theorem dX9_row_24 : decode cX9_row 24 = .ok (.iload_n 3, 1) := by decide +kernel
theorem dX9_row_25 : decode cX9_row 25 = .ok (.ifCond .ge 6, 3) := by decide +kernel
theorem dX9_row_28 : decode cX9_row 28 = .ok (.bipush (-14), 2) := by decide +kernel
theorem dX9_row_30 : decode cX9_row 30 = .ok (.ireturn, 1) := by decide +kernel
theorem dX9_row_31 : decode cX9_row 31 = .ok (.aload_n 0, 1) := by decide +kernel
theorem dX9_row_32 : decode cX9_row 32 = .ok (.getfield 72, 3) := by decide +kernel
theorem dX9_row_35 : decode cX9_row 35 = .ok (.iload_n 1, 1) := by decide +kernel
theorem dX9_row_36 : decode cX9_row 36 = .ok (.aaload, 1) := by decide +kernel
theorem dX9_row_37 : decode cX9_row 37 = .ok (.iload_n 2, 1) := by decide +kernel
theorem dX9_row_38 : decode cX9_row 38 = .ok (.iload_n 3, 1) := by decide +kernel
theorem dX9_row_39 : decode cX9_row 39 = .ok (.invokevirtual 303, 3) := by decide +kernel
theorem dX9_row_42 : decode cX9_row 42 = .ok (.iconst 1, 1) := by decide +kernel
theorem dX9_row_43 : decode cX9_row 43 = .ok (.ireturn, 1) := by decide +kernel
theorem dX9_put_0 : decode cX9_put 0 = .ok (.aload_n 0, 1) := by decide +kernel
theorem dX9_put_1 : decode cX9_put 1 = .ok (.iload_n 1, 1) := by decide +kernel
theorem dX9_put_2 : decode cX9_put 2 = .ok (.iload_n 2, 1) := by decide +kernel
theorem dX9_put_3 : decode cX9_put 3 = .ok (.invokevirtual 307, 3) := by decide +kernel
theorem dX9_put_6 : decode cX9_put 6 = .ok (.istore 5, 2) := by decide +kernel
theorem dX9_put_8 : decode cX9_put 8 = .ok (.iload 5, 2) := by decide +kernel
theorem dX9_put_10 : decode cX9_put 10 = .ok (.ifCond .eq 6, 3) := by decide +kernel
theorem dX9_put_13 : decode cX9_put 13 = .ok (.iload 5, 2) := by decide +kernel
theorem dX9_put_15 : decode cX9_put 15 = .ok (.ireturn, 1) := by decide +kernel
theorem dX9_put_16 : decode cX9_put 16 = .ok (.aload_n 0, 1) := by decide +kernel
theorem dX9_put_17 : decode cX9_put 17 = .ok (.getfield 72, 3) := by decide +kernel
theorem dX9_put_20 : decode cX9_put 20 = .ok (.iload_n 1, 1) := by decide +kernel
theorem dX9_put_21 : decode cX9_put 21 = .ok (.aaload, 1) := by decide +kernel
theorem dX9_put_22 : decode cX9_put 22 = .ok (.iload_n 2, 1) := by decide +kernel
theorem dX9_put_23 : decode cX9_put 23 = .ok (.lload_n 3, 1) := by decide +kernel
theorem dX9_put_24 : decode cX9_put 24 = .ok (.invokevirtual 310, 3) := by decide +kernel
theorem dX9_put_27 : decode cX9_put 27 = .ok (.iconst 1, 1) := by decide +kernel
theorem dX9_put_28 : decode cX9_put 28 = .ok (.ireturn, 1) := by decide +kernel
theorem dX9_element_0 : decode cX9_element 0 = .ok (.aload_n 0, 1) := by decide +kernel
theorem dX9_element_1 : decode cX9_element 1 = .ok (.iload_n 1, 1) := by decide +kernel
theorem dX9_element_2 : decode cX9_element 2 = .ok (.iload_n 2, 1) := by decide +kernel
theorem dX9_element_3 : decode cX9_element 3 = .ok (.invokevirtual 307, 3) := by decide +kernel
theorem dX9_element_6 : decode cX9_element 6 = .ok (.ifCond .eq 9, 3) := by decide +kernel
theorem dX9_element_9 : decode cX9_element 9 = .ok (.ldc2_w 316, 3) := by decide +kernel
theorem dX9_element_12 : decode cX9_element 12 = .ok (.goto 14, 3) := by decide +kernel
theorem dX9_element_15 : decode cX9_element 15 = .ok (.aload_n 0, 1) := by decide +kernel
theorem dX9_element_16 : decode cX9_element 16 = .ok (.getfield 72, 3) := by decide +kernel
theorem dX9_element_19 : decode cX9_element 19 = .ok (.iload_n 1, 1) := by decide +kernel
theorem dX9_element_20 : decode cX9_element 20 = .ok (.aaload, 1) := by decide +kernel
theorem dX9_element_21 : decode cX9_element 21 = .ok (.getfield 88, 3) := by decide +kernel
theorem dX9_element_24 : decode cX9_element 24 = .ok (.iload_n 2, 1) := by decide +kernel
theorem dX9_element_25 : decode cX9_element 25 = .ok (.laload, 1) := by decide +kernel
theorem dX9_element_26 : decode cX9_element 26 = .ok (.lreturn, 1) := by decide +kernel
theorem dX9_elementRefusal_0 : decode cX9_elementRefusal 0 = .ok (.iload_n 1, 1) := by decide +kernel
theorem dX9_elementRefusal_1 : decode cX9_elementRefusal 1 = .ok (.invokestatic 107, 3) := by decide +kernel
theorem dX9_elementRefusal_4 : decode cX9_elementRefusal 4 = .ok (.ifCond .ne 5, 3) := by decide +kernel
theorem dX9_elementRefusal_7 : decode cX9_elementRefusal 7 = .ok (.iconst (-1), 1) := by decide +kernel
theorem dX9_elementRefusal_8 : decode cX9_elementRefusal 8 = .ok (.ireturn, 1) := by decide +kernel
theorem dX9_elementRefusal_9 : decode cX9_elementRefusal 9 = .ok (.aload_n 0, 1) := by decide +kernel
theorem dX9_elementRefusal_10 : decode cX9_elementRefusal 10 = .ok (.getfield 72, 3) := by decide +kernel
theorem dX9_elementRefusal_13 : decode cX9_elementRefusal 13 = .ok (.iload_n 1, 1) := by decide +kernel
theorem dX9_elementRefusal_14 : decode cX9_elementRefusal 14 = .ok (.aaload, 1) := by decide +kernel
theorem dX9_elementRefusal_15 : decode cX9_elementRefusal 15 = .ok (.invokevirtual 318, 3) := by decide +kernel
theorem dX9_elementRefusal_18 : decode cX9_elementRefusal 18 = .ok (.istore_n 3, 1) := by decide +kernel
theorem dX9_elementRefusal_19 : decode cX9_elementRefusal 19 = .ok (.iload_n 3, 1) := by decide +kernel
theorem dX9_elementRefusal_20 : decode cX9_elementRefusal 20 = .ok (.ifCond .eq 5, 3) := by decide +kernel
theorem dX9_elementRefusal_23 : decode cX9_elementRefusal 23 = .ok (.iload_n 3, 1) := by decide +kernel
theorem dX9_elementRefusal_24 : decode cX9_elementRefusal 24 = .ok (.ireturn, 1) := by decide +kernel
theorem dX9_elementRefusal_25 : decode cX9_elementRefusal 25 = .ok (.aload_n 0, 1) := by decide +kernel
theorem dX9_elementRefusal_26 : decode cX9_elementRefusal 26 = .ok (.getfield 72, 3) := by decide +kernel
theorem dX9_elementRefusal_29 : decode cX9_elementRefusal 29 = .ok (.iload_n 1, 1) := by decide +kernel
theorem dX9_elementRefusal_30 : decode cX9_elementRefusal 30 = .ok (.aaload, 1) := by decide +kernel
theorem dX9_elementRefusal_31 : decode cX9_elementRefusal 31 = .ok (.iload_n 2, 1) := by decide +kernel
theorem dX9_elementRefusal_32 : decode cX9_elementRefusal 32 = .ok (.iconst 1, 1) := by decide +kernel
theorem dX9_elementRefusal_33 : decode cX9_elementRefusal 33 = .ok (.invokevirtual 321, 3) := by decide +kernel
theorem dX9_elementRefusal_36 : decode cX9_elementRefusal 36 = .ok (.ifCond .eq 7, 3) := by decide +kernel
theorem dX9_elementRefusal_39 : decode cX9_elementRefusal 39 = .ok (.iconst 0, 1) := by decide +kernel
theorem dX9_elementRefusal_40 : decode cX9_elementRefusal 40 = .ok (.goto 5, 3) := by decide +kernel
theorem dX9_elementRefusal_43 : decode cX9_elementRefusal 43 = .ok (.bipush (-13), 2) := by decide +kernel
theorem dX9_elementRefusal_45 : decode cX9_elementRefusal 45 = .ok (.ireturn, 1) := by decide +kernel
theorem dX9_shift_0 : decode cX9_shift 0 = .ok (.iload_n 1, 1) := by decide +kernel
theorem dX9_shift_1 : decode cX9_shift 1 = .ok (.invokestatic 107, 3) := by decide +kernel
theorem dX9_shift_4 : decode cX9_shift 4 = .ok (.ifCond .eq 10, 3) := by decide +kernel
theorem dX9_shift_7 : decode cX9_shift 7 = .ok (.iload_n 3, 1) := by decide +kernel
theorem dX9_shift_8 : decode cX9_shift 8 = .ok (.invokestatic 107, 3) := by decide +kernel
theorem dX9_shift_11 : decode cX9_shift 11 = .ok (.ifCond .ne 5, 3) := by decide +kernel
theorem dX9_shift_14 : decode cX9_shift 14 = .ok (.iconst (-1), 1) := by decide +kernel
theorem dX9_shift_15 : decode cX9_shift 15 = .ok (.ireturn, 1) := by decide +kernel
theorem dX9_shift_16 : decode cX9_shift 16 = .ok (.aload_n 0, 1) := by decide +kernel
theorem dX9_shift_17 : decode cX9_shift 17 = .ok (.getfield 72, 3) := by decide +kernel
theorem dX9_shift_20 : decode cX9_shift 20 = .ok (.iload_n 1, 1) := by decide +kernel
theorem dX9_shift_21 : decode cX9_shift 21 = .ok (.aaload, 1) := by decide +kernel
theorem dX9_shift_22 : decode cX9_shift 22 = .ok (.astore 6, 2) := by decide +kernel
theorem dX9_shift_24 : decode cX9_shift 24 = .ok (.aload_n 0, 1) := by decide +kernel
theorem dX9_shift_25 : decode cX9_shift 25 = .ok (.getfield 72, 3) := by decide +kernel
theorem dX9_shift_28 : decode cX9_shift 28 = .ok (.iload_n 3, 1) := by decide +kernel
theorem dX9_shift_29 : decode cX9_shift 29 = .ok (.aaload, 1) := by decide +kernel
theorem dX9_shift_30 : decode cX9_shift 30 = .ok (.astore 7, 2) := by decide +kernel
theorem dX9_shift_32 : decode cX9_shift 32 = .ok (.aload 6, 2) := by decide +kernel
theorem dX9_shift_34 : decode cX9_shift 34 = .ok (.getfield 324, 3) := by decide +kernel
theorem dX9_shift_37 : decode cX9_shift 37 = .ok (.iconst (-1), 1) := by decide +kernel
theorem dX9_shift_38 : decode cX9_shift 38 = .ok (.if_icmp .eq 12, 3) := by decide +kernel
theorem dX9_shift_41 : decode cX9_shift 41 = .ok (.aload 7, 2) := by decide +kernel
theorem dX9_shift_43 : decode cX9_shift 43 = .ok (.getfield 324, 3) := by decide +kernel
theorem dX9_shift_46 : decode cX9_shift 46 = .ok (.iconst (-1), 1) := by decide +kernel
theorem dX9_shift_47 : decode cX9_shift 47 = .ok (.if_icmp .ne 6, 3) := by decide +kernel
theorem dX9_shift_50 : decode cX9_shift 50 = .ok (.bipush (-11), 2) := by decide +kernel
theorem dX9_shift_52 : decode cX9_shift 52 = .ok (.ireturn, 1) := by decide +kernel
theorem dX9_shift_53 : decode cX9_shift 53 = .ok (.aload 6, 2) := by decide +kernel
theorem dX9_shift_55 : decode cX9_shift 55 = .ok (.getfield 324, 3) := by decide +kernel
theorem dX9_shift_58 : decode cX9_shift 58 = .ok (.iconst 5, 1) := by decide +kernel
theorem dX9_shift_59 : decode cX9_shift 59 = .ok (.if_icmp .eq 16, 3) := by decide +kernel
theorem dX9_shift_62 : decode cX9_shift 62 = .ok (.aload 6, 2) := by decide +kernel
theorem dX9_shift_64 : decode cX9_shift 64 = .ok (.getfield 324, 3) := by decide +kernel
theorem dX9_shift_67 : decode cX9_shift 67 = .ok (.aload 7, 2) := by decide +kernel
theorem dX9_shift_69 : decode cX9_shift 69 = .ok (.getfield 324, 3) := by decide +kernel
theorem dX9_shift_72 : decode cX9_shift 72 = .ok (.if_icmp .eq 6, 3) := by decide +kernel
theorem dX9_shift_75 : decode cX9_shift 75 = .ok (.bipush (-12), 2) := by decide +kernel
theorem dX9_shift_77 : decode cX9_shift 77 = .ok (.ireturn, 1) := by decide +kernel
theorem dX9_shift_78 : decode cX9_shift 78 = .ok (.aload 6, 2) := by decide +kernel
theorem dX9_shift_80 : decode cX9_shift 80 = .ok (.iload_n 2, 1) := by decide +kernel
theorem dX9_shift_81 : decode cX9_shift 81 = .ok (.iload 5, 2) := by decide +kernel
theorem dX9_shift_83 : decode cX9_shift 83 = .ok (.invokevirtual 321, 3) := by decide +kernel
theorem dX9_shift_86 : decode cX9_shift 86 = .ok (.ifCond .eq 15, 3) := by decide +kernel
theorem dX9_shift_89 : decode cX9_shift 89 = .ok (.aload 7, 2) := by decide +kernel
theorem dX9_shift_91 : decode cX9_shift 91 = .ok (.iload 4, 2) := by decide +kernel
theorem dX9_shift_93 : decode cX9_shift 93 = .ok (.iload 5, 2) := by decide +kernel
theorem dX9_shift_95 : decode cX9_shift 95 = .ok (.invokevirtual 321, 3) := by decide +kernel
theorem dX9_shift_98 : decode cX9_shift 98 = .ok (.ifCond .ne 6, 3) := by decide +kernel
theorem dX9_shift_101 : decode cX9_shift 101 = .ok (.bipush (-13), 2) := by decide +kernel
theorem dX9_shift_103 : decode cX9_shift 103 = .ok (.ireturn, 1) := by decide +kernel
theorem dX9_shift_104 : decode cX9_shift 104 = .ok (.aload 6, 2) := by decide +kernel
theorem dX9_shift_106 : decode cX9_shift 106 = .ok (.getfield 88, 3) := by decide +kernel
theorem dX9_shift_109 : decode cX9_shift 109 = .ok (.iload_n 2, 1) := by decide +kernel
theorem dX9_shift_110 : decode cX9_shift 110 = .ok (.aload 7, 2) := by decide +kernel
theorem dX9_shift_112 : decode cX9_shift 112 = .ok (.getfield 88, 3) := by decide +kernel
theorem dX9_shift_115 : decode cX9_shift 115 = .ok (.iload 4, 2) := by decide +kernel
theorem dX9_shift_117 : decode cX9_shift 117 = .ok (.iload 5, 2) := by decide +kernel
theorem dX9_shift_119 : decode cX9_shift 119 = .ok (.invokestatic 327, 3) := by decide +kernel
theorem dX9_shift_122 : decode cX9_shift 122 = .ok (.iload 5, 2) := by decide +kernel
theorem dX9_shift_124 : decode cX9_shift 124 = .ok (.ireturn, 1) := by decide +kernel
theorem dX9_taken_0 : decode cX9_taken 0 = .ok (.iload_n 1, 1) := by decide +kernel
theorem dX9_taken_1 : decode cX9_taken 1 = .ok (.invokestatic 107, 3) := by decide +kernel
theorem dX9_taken_4 : decode cX9_taken 4 = .ok (.ifCond .eq 13, 3) := by decide +kernel
theorem dX9_taken_7 : decode cX9_taken 7 = .ok (.iload_n 2, 1) := by decide +kernel
theorem dX9_taken_8 : decode cX9_taken 8 = .ok (.ifCond .lt 9, 3) := by decide +kernel
theorem dX9_taken_11 : decode cX9_taken 11 = .ok (.iload_n 2, 1) := by decide +kernel
theorem dX9_taken_12 : decode cX9_taken 12 = .ok (.bipush 8, 2) := by decide +kernel
theorem dX9_taken_14 : decode cX9_taken 14 = .ok (.if_icmp .lt 5, 3) := by decide +kernel
theorem dX9_taken_17 : decode cX9_taken 17 = .ok (.iconst (-1), 1) := by decide +kernel
theorem dX9_taken_18 : decode cX9_taken 18 = .ok (.ireturn, 1) := by decide +kernel
theorem dX9_taken_19 : decode cX9_taken 19 = .ok (.aload_n 0, 1) := by decide +kernel
theorem dX9_taken_20 : decode cX9_taken 20 = .ok (.getfield 72, 3) := by decide +kernel
theorem dX9_taken_23 : decode cX9_taken 23 = .ok (.iload_n 1, 1) := by decide +kernel
theorem dX9_taken_24 : decode cX9_taken 24 = .ok (.aaload, 1) := by decide +kernel
theorem dX9_taken_25 : decode cX9_taken 25 = .ok (.astore_n 3, 1) := by decide +kernel
theorem dX9_taken_26 : decode cX9_taken 26 = .ok (.aload_n 3, 1) := by decide +kernel
theorem dX9_taken_27 : decode cX9_taken 27 = .ok (.getfield 324, 3) := by decide +kernel
theorem dX9_taken_30 : decode cX9_taken 30 = .ok (.iconst (-1), 1) := by decide +kernel
theorem dX9_taken_31 : decode cX9_taken 31 = .ok (.if_icmp .ne 6, 3) := by decide +kernel
theorem dX9_taken_34 : decode cX9_taken 34 = .ok (.bipush (-11), 2) := by decide +kernel
theorem dX9_taken_36 : decode cX9_taken 36 = .ok (.ireturn, 1) := by decide +kernel
theorem dX9_taken_37 : decode cX9_taken 37 = .ok (.aload_n 3, 1) := by decide +kernel
theorem dX9_taken_38 : decode cX9_taken 38 = .ok (.getfield 324, 3) := by decide +kernel
theorem dX9_taken_41 : decode cX9_taken 41 = .ok (.iconst 5, 1) := by decide +kernel
theorem dX9_taken_42 : decode cX9_taken 42 = .ok (.if_icmp .ne 21, 3) := by decide +kernel
theorem dX9_taken_45 : decode cX9_taken 45 = .ok (.aload_n 3, 1) := by decide +kernel
theorem dX9_taken_46 : decode cX9_taken 46 = .ok (.getfield 333, 3) := by decide +kernel
theorem dX9_taken_49 : decode cX9_taken 49 = .ok (.iload_n 2, 1) := by decide +kernel
theorem dX9_taken_50 : decode cX9_taken 50 = .ok (.invokestatic 336, 3) := by decide +kernel
theorem dX9_taken_53 : decode cX9_taken 53 = .ok (.ifCond .eq 10, 3) := by decide +kernel
theorem dX9_taken_56 : decode cX9_taken 56 = .ok (.aload_n 3, 1) := by decide +kernel
theorem dX9_taken_57 : decode cX9_taken 57 = .ok (.getfield 333, 3) := by decide +kernel
theorem dX9_taken_60 : decode cX9_taken 60 = .ok (.goto 5, 3) := by decide +kernel
theorem dX9_taken_63 : decode cX9_taken 63 = .ok (.bipush (-12), 2) := by decide +kernel
theorem dX9_taken_65 : decode cX9_taken 65 = .ok (.ireturn, 1) := by decide +kernel
theorem dX9_count_0 : decode cX9_count 0 = .ok (.iload_n 1, 1) := by decide +kernel
theorem dX9_count_1 : decode cX9_count 1 = .ok (.tableswitch 87 0 5 #[39, 47, 55, 63, 71, 79], 39) := by decide +kernel
theorem dX9_count_40 : decode cX9_count 40 = .ok (.aload_n 0, 1) := by decide +kernel
theorem dX9_count_41 : decode cX9_count 41 = .ok (.getfield 18, 3) := by decide +kernel
theorem dX9_count_44 : decode cX9_count 44 = .ok (.getfield 80, 3) := by decide +kernel
theorem dX9_count_47 : decode cX9_count 47 = .ok (.ireturn, 1) := by decide +kernel
theorem dX9_count_48 : decode cX9_count 48 = .ok (.aload_n 0, 1) := by decide +kernel
theorem dX9_count_49 : decode cX9_count 49 = .ok (.getfield 18, 3) := by decide +kernel
theorem dX9_count_52 : decode cX9_count 52 = .ok (.invokevirtual 339, 3) := by decide +kernel
theorem dX9_count_55 : decode cX9_count 55 = .ok (.ireturn, 1) := by decide +kernel
theorem dX9_count_56 : decode cX9_count 56 = .ok (.aload_n 0, 1) := by decide +kernel
theorem dX9_count_57 : decode cX9_count 57 = .ok (.getfield 24, 3) := by decide +kernel
theorem dX9_count_60 : decode cX9_count 60 = .ok (.getfield 151, 3) := by decide +kernel
theorem dX9_count_63 : decode cX9_count 63 = .ok (.ireturn, 1) := by decide +kernel
theorem dX9_count_64 : decode cX9_count 64 = .ok (.aload_n 0, 1) := by decide +kernel
theorem dX9_count_65 : decode cX9_count 65 = .ok (.getfield 58, 3) := by decide +kernel
theorem dX9_count_68 : decode cX9_count 68 = .ok (.getfield 272, 3) := by decide +kernel
theorem dX9_count_71 : decode cX9_count 71 = .ok (.ireturn, 1) := by decide +kernel
theorem dX9_count_72 : decode cX9_count 72 = .ok (.aload_n 0, 1) := by decide +kernel
theorem dX9_count_73 : decode cX9_count 73 = .ok (.getfield 65, 3) := by decide +kernel
theorem dX9_count_76 : decode cX9_count 76 = .ok (.getfield 342, 3) := by decide +kernel
theorem dX9_count_79 : decode cX9_count 79 = .ok (.ireturn, 1) := by decide +kernel
theorem dX9_count_80 : decode cX9_count 80 = .ok (.aload_n 0, 1) := by decide +kernel
theorem dX9_count_81 : decode cX9_count 81 = .ok (.getfield 65, 3) := by decide +kernel
theorem dX9_count_84 : decode cX9_count 84 = .ok (.getfield 345, 3) := by decide +kernel
theorem dX9_count_87 : decode cX9_count 87 = .ok (.ireturn, 1) := by decide +kernel
theorem dX9_count_88 : decode cX9_count 88 = .ok (.iconst (-1), 1) := by decide +kernel
theorem dX9_count_89 : decode cX9_count 89 = .ok (.ireturn, 1) := by decide +kernel
theorem dX9_isShelf_0 : decode cX9_isShelf 0 = .ok (.iload_n 0, 1) := by decide +kernel
theorem dX9_isShelf_1 : decode cX9_isShelf 1 = .ok (.ifCond .lt 13, 3) := by decide +kernel
theorem dX9_isShelf_4 : decode cX9_isShelf 4 = .ok (.iload_n 0, 1) := by decide +kernel
theorem dX9_isShelf_5 : decode cX9_isShelf 5 = .ok (.bipush 6, 2) := by decide +kernel
theorem dX9_isShelf_7 : decode cX9_isShelf 7 = .ok (.if_icmp .ge 7, 3) := by decide +kernel
theorem dX9_isShelf_10 : decode cX9_isShelf 10 = .ok (.iconst 1, 1) := by decide +kernel
theorem dX9_isShelf_11 : decode cX9_isShelf 11 = .ok (.goto 4, 3) := by decide +kernel
theorem dX9_isShelf_14 : decode cX9_isShelf 14 = .ok (.iconst 0, 1) := by decide +kernel
theorem dX9_isShelf_15 : decode cX9_isShelf 15 = .ok (.ireturn, 1) := by decide +kernel
theorem dX9_isPlace_0 : decode cX9_isPlace 0 = .ok (.iload_n 0, 1) := by decide +kernel
theorem dX9_isPlace_1 : decode cX9_isPlace 1 = .ok (.ifCond .lt 13, 3) := by decide +kernel
theorem dX9_isPlace_4 : decode cX9_isPlace 4 = .ok (.iload_n 0, 1) := by decide +kernel
theorem dX9_isPlace_5 : decode cX9_isPlace 5 = .ok (.bipush 8, 2) := by decide +kernel
theorem dX9_isPlace_7 : decode cX9_isPlace 7 = .ok (.if_icmp .ge 7, 3) := by decide +kernel
theorem dX9_isPlace_10 : decode cX9_isPlace 10 = .ok (.iconst 1, 1) := by decide +kernel
theorem dX9_isPlace_11 : decode cX9_isPlace 11 = .ok (.goto 4, 3) := by decide +kernel
theorem dX9_isPlace_14 : decode cX9_isPlace 14 = .ok (.iconst 0, 1) := by decide +kernel
theorem dX9_isPlace_15 : decode cX9_isPlace 15 = .ok (.ireturn, 1) := by decide +kernel
theorem dX9_isMinute_0 : decode cX9_isMinute 0 = .ok (.iload_n 0, 1) := by decide +kernel
theorem dX9_isMinute_1 : decode cX9_isMinute 1 = .ok (.ifCond .lt 14, 3) := by decide +kernel
theorem dX9_isMinute_4 : decode cX9_isMinute 4 = .ok (.iload_n 0, 1) := by decide +kernel
theorem dX9_isMinute_5 : decode cX9_isMinute 5 = .ok (.sipush 999, 3) := by decide +kernel
theorem dX9_isMinute_8 : decode cX9_isMinute 8 = .ok (.if_icmp .gt 7, 3) := by decide +kernel
theorem dX9_isMinute_11 : decode cX9_isMinute 11 = .ok (.iconst 1, 1) := by decide +kernel
theorem dX9_isMinute_12 : decode cX9_isMinute 12 = .ok (.goto 4, 3) := by decide +kernel
theorem dX9_isMinute_15 : decode cX9_isMinute 15 = .ok (.iconst 0, 1) := by decide +kernel
theorem dX9_isMinute_16 : decode cX9_isMinute 16 = .ok (.ireturn, 1) := by decide +kernel
theorem dX9_isZeroOrOne_0 : decode cX9_isZeroOrOne 0 = .ok (.iload_n 0, 1) := by decide +kernel
theorem dX9_isZeroOrOne_1 : decode cX9_isZeroOrOne 1 = .ok (.ifCond .eq 8, 3) := by decide +kernel
theorem dX9_isZeroOrOne_4 : decode cX9_isZeroOrOne 4 = .ok (.iload_n 0, 1) := by decide +kernel
theorem dX9_isZeroOrOne_5 : decode cX9_isZeroOrOne 5 = .ok (.iconst 1, 1) := by decide +kernel
theorem dX9_isZeroOrOne_6 : decode cX9_isZeroOrOne 6 = .ok (.if_icmp .ne 7, 3) := by decide +kernel
theorem dX9_isZeroOrOne_9 : decode cX9_isZeroOrOne 9 = .ok (.iconst 1, 1) := by decide +kernel
theorem dX9_isZeroOrOne_10 : decode cX9_isZeroOrOne 10 = .ok (.goto 4, 3) := by decide +kernel
theorem dX9_isZeroOrOne_13 : decode cX9_isZeroOrOne 13 = .ok (.iconst 0, 1) := by decide +kernel
theorem dX9_isZeroOrOne_14 : decode cX9_isZeroOrOne 14 = .ok (.ireturn, 1) := by decide +kernel
