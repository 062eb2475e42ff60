theorem d_K_init_0 : decode b_K_init 0 = .ok (.aload_n 0, 1) := by decide +kernel
theorem d_K_init_1 : decode b_K_init 1 = .ok (.invokespecial 1, 3) := by decide +kernel
theorem d_K_init_4 : decode b_K_init 4 = .ok (.aload_n 0, 1) := by decide +kernel
theorem d_K_init_5 : decode b_K_init 5 = .ok (.bipush 60, 2) := by decide +kernel
theorem d_K_init_7 : decode b_K_init 7 = .ok (.newarray .int, 2) := by decide +kernel
theorem d_K_init_9 : decode b_K_init 9 = .ok (.putfield 7, 3) := by decide +kernel
theorem d_K_init_12 : decode b_K_init 12 = .ok (.aload_n 0, 1) := by decide +kernel
theorem d_K_init_13 : decode b_K_init 13 = .ok (.bipush 60, 2) := by decide +kernel
theorem d_K_init_15 : decode b_K_init 15 = .ok (.newarray .int, 2) := by decide +kernel
theorem d_K_init_17 : decode b_K_init 17 = .ok (.putfield 13, 3) := by decide +kernel
theorem d_K_init_20 : decode b_K_init 20 = .ok (.aload_n 0, 1) := by decide +kernel
theorem d_K_init_21 : decode b_K_init 21 = .ok (.bipush 60, 2) := by decide +kernel
theorem d_K_init_23 : decode b_K_init 23 = .ok (.newarray .int, 2) := by decide +kernel
theorem d_K_init_25 : decode b_K_init 25 = .ok (.putfield 16, 3) := by decide +kernel
theorem d_K_init_28 : decode b_K_init 28 = .ok (.aload_n 0, 1) := by decide +kernel
theorem d_K_init_29 : decode b_K_init 29 = .ok (.bipush 60, 2) := by decide +kernel
theorem d_K_init_31 : decode b_K_init 31 = .ok (.newarray .int, 2) := by decide +kernel
theorem d_K_init_33 : decode b_K_init 33 = .ok (.putfield 19, 3) := by decide +kernel
theorem d_K_init_36 : decode b_K_init 36 = .ok (.aload_n 0, 1) := by decide +kernel
theorem d_K_init_37 : decode b_K_init 37 = .ok (.bipush 60, 2) := by decide +kernel
theorem d_K_init_39 : decode b_K_init 39 = .ok (.newarray .int, 2) := by decide +kernel
theorem d_K_init_41 : decode b_K_init 41 = .ok (.putfield 22, 3) := by decide +kernel
theorem d_K_init_44 : decode b_K_init 44 = .ok (.aload_n 0, 1) := by decide +kernel
theorem d_K_init_45 : decode b_K_init 45 = .ok (.sipush 200, 3) := by decide +kernel
theorem d_K_init_48 : decode b_K_init 48 = .ok (.newarray .int, 2) := by decide +kernel
theorem d_K_init_50 : decode b_K_init 50 = .ok (.putfield 25, 3) := by decide +kernel
theorem d_K_init_53 : decode b_K_init 53 = .ok (.aload_n 0, 1) := by decide +kernel
theorem d_K_init_54 : decode b_K_init 54 = .ok (.sipush 200, 3) := by decide +kernel
theorem d_K_init_57 : decode b_K_init 57 = .ok (.newarray .int, 2) := by decide +kernel
theorem d_K_init_59 : decode b_K_init 59 = .ok (.putfield 28, 3) := by decide +kernel
theorem d_K_init_62 : decode b_K_init 62 = .ok (.aload_n 0, 1) := by decide +kernel
theorem d_K_init_63 : decode b_K_init 63 = .ok (.sipush 200, 3) := by decide +kernel
theorem d_K_init_66 : decode b_K_init 66 = .ok (.newarray .int, 2) := by decide +kernel
theorem d_K_init_68 : decode b_K_init 68 = .ok (.putfield 31, 3) := by decide +kernel
theorem d_K_init_71 : decode b_K_init 71 = .ok (.aload_n 0, 1) := by decide +kernel
theorem d_K_init_72 : decode b_K_init 72 = .ok (.bipush 60, 2) := by decide +kernel
theorem d_K_init_74 : decode b_K_init 74 = .ok (.newarray .int, 2) := by decide +kernel
theorem d_K_init_76 : decode b_K_init 76 = .ok (.putfield 34, 3) := by decide +kernel
theorem d_K_init_79 : decode b_K_init 79 = .ok (.aload_n 0, 1) := by decide +kernel
theorem d_K_init_80 : decode b_K_init 80 = .ok (.bipush 60, 2) := by decide +kernel
theorem d_K_init_82 : decode b_K_init 82 = .ok (.newarray .int, 2) := by decide +kernel
theorem d_K_init_84 : decode b_K_init 84 = .ok (.putfield 37, 3) := by decide +kernel
theorem d_K_init_87 : decode b_K_init 87 = .ok (.aload_n 0, 1) := by decide +kernel
theorem d_K_init_88 : decode b_K_init 88 = .ok (.bipush 60, 2) := by decide +kernel
theorem d_K_init_90 : decode b_K_init 90 = .ok (.newarray .int, 2) := by decide +kernel
theorem d_K_init_92 : decode b_K_init 92 = .ok (.putfield 40, 3) := by decide +kernel
theorem d_K_init_95 : decode b_K_init 95 = .ok (.aload_n 0, 1) := by decide +kernel
theorem d_K_init_96 : decode b_K_init 96 = .ok (.bipush 60, 2) := by decide +kernel
theorem d_K_init_98 : decode b_K_init 98 = .ok (.newarray .int, 2) := by decide +kernel
theorem d_K_init_100 : decode b_K_init 100 = .ok (.putfield 43, 3) := by decide +kernel
theorem d_K_init_103 : decode b_K_init 103 = .ok (.aload_n 0, 1) := by decide +kernel
theorem d_K_init_104 : decode b_K_init 104 = .ok (.bipush 60, 2) := by decide +kernel
theorem d_K_init_106 : decode b_K_init 106 = .ok (.newarray .int, 2) := by decide +kernel
theorem d_K_init_108 : decode b_K_init 108 = .ok (.putfield 46, 3) := by decide +kernel
theorem d_K_init_111 : decode b_K_init 111 = .ok (.aload_n 0, 1) := by decide +kernel
theorem d_K_init_112 : decode b_K_init 112 = .ok (.bipush 60, 2) := by decide +kernel
theorem d_K_init_114 : decode b_K_init 114 = .ok (.newarray .int, 2) := by decide +kernel
theorem d_K_init_116 : decode b_K_init 116 = .ok (.putfield 49, 3) := by decide +kernel
theorem d_K_init_119 : decode b_K_init 119 = .ok (.aload_n 0, 1) := by decide +kernel
theorem d_K_init_120 : decode b_K_init 120 = .ok (.sipush 3600, 3) := by decide +kernel
theorem d_K_init_123 : decode b_K_init 123 = .ok (.newarray .boolean, 2) := by decide +kernel
theorem d_K_init_125 : decode b_K_init 125 = .ok (.putfield 52, 3) := by decide +kernel
theorem d_K_init_128 : decode b_K_init 128 = .ok (.return_, 1) := by decide +kernel
theorem d_K_thrown_0 : decode b_K_thrown 0 = .ok (.aload_n 0, 1) := by decide +kernel
theorem d_K_thrown_1 : decode b_K_thrown 1 = .ok (.getfield 56, 3) := by decide +kernel
theorem d_K_thrown_4 : decode b_K_thrown 4 = .ok (.ireturn, 1) := by decide +kernel
theorem d_K_in_0 : decode b_K_in 0 = .ok (.iload_n 0, 1) := by decide +kernel
theorem d_K_in_1 : decode b_K_in 1 = .ok (.iload_n 1, 1) := by decide +kernel
theorem d_K_in_2 : decode b_K_in 2 = .ok (.if_icmp .lt 12, 3) := by decide +kernel
theorem d_K_in_5 : decode b_K_in 5 = .ok (.iload_n 0, 1) := by decide +kernel
theorem d_K_in_6 : decode b_K_in 6 = .ok (.iload_n 2, 1) := by decide +kernel
theorem d_K_in_7 : decode b_K_in 7 = .ok (.if_icmp .gt 7, 3) := by decide +kernel
theorem d_K_in_10 : decode b_K_in 10 = .ok (.iconst 1, 1) := by decide +kernel
theorem d_K_in_11 : decode b_K_in 11 = .ok (.goto 4, 3) := by decide +kernel
theorem d_K_in_14 : decode b_K_in 14 = .ok (.iconst 0, 1) := by decide +kernel
theorem d_K_in_15 : decode b_K_in 15 = .ok (.ireturn, 1) := by decide +kernel
theorem d_K_isBill_0 : decode b_K_isBill 0 = .ok (.iload_n 1, 1) := by decide +kernel
theorem d_K_isBill_1 : decode b_K_isBill 1 = .ok (.ifCond .lt 15, 3) := by decide +kernel
theorem d_K_isBill_4 : decode b_K_isBill 4 = .ok (.iload_n 1, 1) := by decide +kernel
theorem d_K_isBill_5 : decode b_K_isBill 5 = .ok (.aload_n 0, 1) := by decide +kernel
theorem d_K_isBill_6 : decode b_K_isBill 6 = .ok (.getfield 60, 3) := by decide +kernel
theorem d_K_isBill_9 : decode b_K_isBill 9 = .ok (.if_icmp .ge 7, 3) := by decide +kernel
theorem d_K_isBill_12 : decode b_K_isBill 12 = .ok (.iconst 1, 1) := by decide +kernel
theorem d_K_isBill_13 : decode b_K_isBill 13 = .ok (.goto 4, 3) := by decide +kernel
theorem d_K_isBill_16 : decode b_K_isBill 16 = .ok (.iconst 0, 1) := by decide +kernel
theorem d_K_isBill_17 : decode b_K_isBill 17 = .ok (.ireturn, 1) := by decide +kernel
theorem d_K_isBox_0 : decode b_K_isBox 0 = .ok (.iload_n 1, 1) := by decide +kernel
theorem d_K_isBox_1 : decode b_K_isBox 1 = .ok (.ifCond .lt 15, 3) := by decide +kernel
theorem d_K_isBox_4 : decode b_K_isBox 4 = .ok (.iload_n 1, 1) := by decide +kernel
theorem d_K_isBox_5 : decode b_K_isBox 5 = .ok (.aload_n 0, 1) := by decide +kernel
theorem d_K_isBox_6 : decode b_K_isBox 6 = .ok (.getfield 63, 3) := by decide +kernel
theorem d_K_isBox_9 : decode b_K_isBox 9 = .ok (.if_icmp .ge 7, 3) := by decide +kernel
theorem d_K_isBox_12 : decode b_K_isBox 12 = .ok (.iconst 1, 1) := by decide +kernel
theorem d_K_isBox_13 : decode b_K_isBox 13 = .ok (.goto 4, 3) := by decide +kernel
theorem d_K_isBox_16 : decode b_K_isBox 16 = .ok (.iconst 0, 1) := by decide +kernel
theorem d_K_isBox_17 : decode b_K_isBox 17 = .ok (.ireturn, 1) := by decide +kernel
theorem d_K_stands_0 : decode b_K_stands 0 = .ok (.aload_n 0, 1) := by decide +kernel
theorem d_K_stands_1 : decode b_K_stands 1 = .ok (.getfield 52, 3) := by decide +kernel
theorem d_K_stands_4 : decode b_K_stands 4 = .ok (.bipush 60, 2) := by decide +kernel
theorem d_K_stands_6 : decode b_K_stands 6 = .ok (.iload_n 1, 1) := by decide +kernel
theorem d_K_stands_7 : decode b_K_stands 7 = .ok (.imul, 1) := by decide +kernel
theorem d_K_stands_8 : decode b_K_stands 8 = .ok (.iload_n 2, 1) := by decide +kernel
theorem d_K_stands_9 : decode b_K_stands 9 = .ok (.iadd, 1) := by decide +kernel
theorem d_K_stands_10 : decode b_K_stands 10 = .ok (.baload, 1) := by decide +kernel
theorem d_K_stands_11 : decode b_K_stands 11 = .ok (.ireturn, 1) := by decide +kernel
theorem d_K_numbered_0 : decode b_K_numbered 0 = .ok (.iconst (-1), 1) := by decide +kernel
theorem d_K_numbered_1 : decode b_K_numbered 1 = .ok (.istore_n 3, 1) := by decide +kernel
theorem d_K_numbered_2 : decode b_K_numbered 2 = .ok (.iconst 0, 1) := by decide +kernel
theorem d_K_numbered_3 : decode b_K_numbered 3 = .ok (.istore 4, 2) := by decide +kernel
theorem d_K_numbered_5 : decode b_K_numbered 5 = .ok (.iload 4, 2) := by decide +kernel
theorem d_K_numbered_7 : decode b_K_numbered 7 = .ok (.aload_n 0, 1) := by decide +kernel
theorem d_K_numbered_8 : decode b_K_numbered 8 = .ok (.getfield 60, 3) := by decide +kernel
theorem d_K_numbered_11 : decode b_K_numbered 11 = .ok (.if_icmp .ge 38, 3) := by decide +kernel
theorem d_K_numbered_14 : decode b_K_numbered 14 = .ok (.aload_n 0, 1) := by decide +kernel
theorem d_K_numbered_15 : decode b_K_numbered 15 = .ok (.getfield 7, 3) := by decide +kernel
theorem d_K_numbered_18 : decode b_K_numbered 18 = .ok (.iload 4, 2) := by decide +kernel
theorem d_K_numbered_20 : decode b_K_numbered 20 = .ok (.iaload, 1) := by decide +kernel
theorem d_K_numbered_21 : decode b_K_numbered 21 = .ok (.iload_n 1, 1) := by decide +kernel
theorem d_K_numbered_22 : decode b_K_numbered 22 = .ok (.if_icmp .ne 19, 3) := by decide +kernel
theorem d_K_numbered_25 : decode b_K_numbered 25 = .ok (.aload_n 0, 1) := by decide +kernel
theorem d_K_numbered_26 : decode b_K_numbered 26 = .ok (.getfield 13, 3) := by decide +kernel
theorem d_K_numbered_29 : decode b_K_numbered 29 = .ok (.iload 4, 2) := by decide +kernel
theorem d_K_numbered_31 : decode b_K_numbered 31 = .ok (.iaload, 1) := by decide +kernel
theorem d_K_numbered_32 : decode b_K_numbered 32 = .ok (.iload_n 2, 1) := by decide +kernel
theorem d_K_numbered_33 : decode b_K_numbered 33 = .ok (.if_icmp .ne 8, 3) := by decide +kernel
theorem d_K_numbered_36 : decode b_K_numbered 36 = .ok (.iload 4, 2) := by decide +kernel
theorem d_K_numbered_38 : decode b_K_numbered 38 = .ok (.goto 4, 3) := by decide +kernel
theorem d_K_numbered_41 : decode b_K_numbered 41 = .ok (.iload_n 3, 1) := by decide +kernel
theorem d_K_numbered_42 : decode b_K_numbered 42 = .ok (.istore_n 3, 1) := by decide +kernel
theorem d_K_numbered_43 : decode b_K_numbered 43 = .ok (.iinc 4 1, 3) := by decide +kernel
theorem d_K_numbered_46 : decode b_K_numbered 46 = .ok (.goto (-41), 3) := by decide +kernel
theorem d_K_numbered_49 : decode b_K_numbered 49 = .ok (.iload_n 3, 1) := by decide +kernel
theorem d_K_numbered_50 : decode b_K_numbered 50 = .ok (.ireturn, 1) := by decide +kernel
theorem d_K_depthOf_0 : decode b_K_depthOf 0 = .ok (.iconst 1, 1) := by decide +kernel
theorem d_K_depthOf_1 : decode b_K_depthOf 1 = .ok (.istore_n 2, 1) := by decide +kernel
theorem d_K_depthOf_2 : decode b_K_depthOf 2 = .ok (.iload_n 1, 1) := by decide +kernel
theorem d_K_depthOf_3 : decode b_K_depthOf 3 = .ok (.istore_n 3, 1) := by decide +kernel
theorem d_K_depthOf_4 : decode b_K_depthOf 4 = .ok (.aload_n 0, 1) := by decide +kernel
theorem d_K_depthOf_5 : decode b_K_depthOf 5 = .ok (.getfield 16, 3) := by decide +kernel
theorem d_K_depthOf_8 : decode b_K_depthOf 8 = .ok (.iload_n 3, 1) := by decide +kernel
theorem d_K_depthOf_9 : decode b_K_depthOf 9 = .ok (.iaload, 1) := by decide +kernel
theorem d_K_depthOf_10 : decode b_K_depthOf 10 = .ok (.ifCond .lt 16, 3) := by decide +kernel
theorem d_K_depthOf_13 : decode b_K_depthOf 13 = .ok (.iinc 2 1, 3) := by decide +kernel
theorem d_K_depthOf_16 : decode b_K_depthOf 16 = .ok (.aload_n 0, 1) := by decide +kernel
theorem d_K_depthOf_17 : decode b_K_depthOf 17 = .ok (.getfield 16, 3) := by decide +kernel
theorem d_K_depthOf_20 : decode b_K_depthOf 20 = .ok (.iload_n 3, 1) := by decide +kernel
theorem d_K_depthOf_21 : decode b_K_depthOf 21 = .ok (.iaload, 1) := by decide +kernel
theorem d_K_depthOf_22 : decode b_K_depthOf 22 = .ok (.istore_n 3, 1) := by decide +kernel
theorem d_K_depthOf_23 : decode b_K_depthOf 23 = .ok (.goto (-19), 3) := by decide +kernel
theorem d_K_depthOf_26 : decode b_K_depthOf 26 = .ok (.iload_n 2, 1) := by decide +kernel
theorem d_K_depthOf_27 : decode b_K_depthOf 27 = .ok (.ireturn, 1) := by decide +kernel
theorem d_K_masterOf_0 : decode b_K_masterOf 0 = .ok (.iload_n 1, 1) := by decide +kernel
theorem d_K_masterOf_1 : decode b_K_masterOf 1 = .ok (.istore_n 2, 1) := by decide +kernel
theorem d_K_masterOf_2 : decode b_K_masterOf 2 = .ok (.aload_n 0, 1) := by decide +kernel
theorem d_K_masterOf_3 : decode b_K_masterOf 3 = .ok (.getfield 16, 3) := by decide +kernel
theorem d_K_masterOf_6 : decode b_K_masterOf 6 = .ok (.iload_n 2, 1) := by decide +kernel
theorem d_K_masterOf_7 : decode b_K_masterOf 7 = .ok (.iaload, 1) := by decide +kernel
theorem d_K_masterOf_8 : decode b_K_masterOf 8 = .ok (.ifCond .lt 13, 3) := by decide +kernel
theorem d_K_masterOf_11 : decode b_K_masterOf 11 = .ok (.aload_n 0, 1) := by decide +kernel
theorem d_K_masterOf_12 : decode b_K_masterOf 12 = .ok (.getfield 16, 3) := by decide +kernel
theorem d_K_masterOf_15 : decode b_K_masterOf 15 = .ok (.iload_n 2, 1) := by decide +kernel
theorem d_K_masterOf_16 : decode b_K_masterOf 16 = .ok (.iaload, 1) := by decide +kernel
theorem d_K_masterOf_17 : decode b_K_masterOf 17 = .ok (.istore_n 2, 1) := by decide +kernel
theorem d_K_masterOf_18 : decode b_K_masterOf 18 = .ok (.goto (-16), 3) := by decide +kernel
theorem d_K_masterOf_21 : decode b_K_masterOf 21 = .ok (.iload_n 2, 1) := by decide +kernel
theorem d_K_masterOf_22 : decode b_K_masterOf 22 = .ok (.ireturn, 1) := by decide +kernel
theorem d_K_linesOf_0 : decode b_K_linesOf 0 = .ok (.iconst 0, 1) := by decide +kernel
theorem d_K_linesOf_1 : decode b_K_linesOf 1 = .ok (.istore_n 2, 1) := by decide +kernel
theorem d_K_linesOf_2 : decode b_K_linesOf 2 = .ok (.iconst 0, 1) := by decide +kernel
theorem d_K_linesOf_3 : decode b_K_linesOf 3 = .ok (.istore_n 3, 1) := by decide +kernel
theorem d_K_linesOf_4 : decode b_K_linesOf 4 = .ok (.iload_n 3, 1) := by decide +kernel
theorem d_K_linesOf_5 : decode b_K_linesOf 5 = .ok (.aload_n 0, 1) := by decide +kernel
theorem d_K_linesOf_6 : decode b_K_linesOf 6 = .ok (.getfield 66, 3) := by decide +kernel
theorem d_K_linesOf_9 : decode b_K_linesOf 9 = .ok (.if_icmp .ge 27, 3) := by decide +kernel
theorem d_K_linesOf_12 : decode b_K_linesOf 12 = .ok (.iload_n 2, 1) := by decide +kernel
theorem d_K_linesOf_13 : decode b_K_linesOf 13 = .ok (.aload_n 0, 1) := by decide +kernel
theorem d_K_linesOf_14 : decode b_K_linesOf 14 = .ok (.getfield 25, 3) := by decide +kernel
theorem d_K_linesOf_17 : decode b_K_linesOf 17 = .ok (.iload_n 3, 1) := by decide +kernel
theorem d_K_linesOf_18 : decode b_K_linesOf 18 = .ok (.iaload, 1) := by decide +kernel
theorem d_K_linesOf_19 : decode b_K_linesOf 19 = .ok (.iload_n 1, 1) := by decide +kernel
theorem d_K_linesOf_20 : decode b_K_linesOf 20 = .ok (.if_icmp .ne 7, 3) := by decide +kernel
theorem d_K_linesOf_23 : decode b_K_linesOf 23 = .ok (.iconst 1, 1) := by decide +kernel
theorem d_K_linesOf_24 : decode b_K_linesOf 24 = .ok (.goto 4, 3) := by decide +kernel
theorem d_K_linesOf_27 : decode b_K_linesOf 27 = .ok (.iconst 0, 1) := by decide +kernel
theorem d_K_linesOf_28 : decode b_K_linesOf 28 = .ok (.iadd, 1) := by decide +kernel
theorem d_K_linesOf_29 : decode b_K_linesOf 29 = .ok (.istore_n 2, 1) := by decide +kernel
theorem d_K_linesOf_30 : decode b_K_linesOf 30 = .ok (.iinc 3 1, 3) := by decide +kernel
theorem d_K_linesOf_33 : decode b_K_linesOf 33 = .ok (.goto (-29), 3) := by decide +kernel
theorem d_K_linesOf_36 : decode b_K_linesOf 36 = .ok (.iload_n 2, 1) := by decide +kernel
theorem d_K_linesOf_37 : decode b_K_linesOf 37 = .ok (.ireturn, 1) := by decide +kernel
theorem d_K_weightOf_0 : decode b_K_weightOf 0 = .ok (.iconst 0, 1) := by decide +kernel
theorem d_K_weightOf_1 : decode b_K_weightOf 1 = .ok (.istore_n 2, 1) := by decide +kernel
theorem d_K_weightOf_2 : decode b_K_weightOf 2 = .ok (.iconst 0, 1) := by decide +kernel
theorem d_K_weightOf_3 : decode b_K_weightOf 3 = .ok (.istore_n 3, 1) := by decide +kernel
theorem d_K_weightOf_4 : decode b_K_weightOf 4 = .ok (.iload_n 3, 1) := by decide +kernel
theorem d_K_weightOf_5 : decode b_K_weightOf 5 = .ok (.aload_n 0, 1) := by decide +kernel
theorem d_K_weightOf_6 : decode b_K_weightOf 6 = .ok (.getfield 66, 3) := by decide +kernel
theorem d_K_weightOf_9 : decode b_K_weightOf 9 = .ok (.if_icmp .ge 32, 3) := by decide +kernel
theorem d_K_weightOf_12 : decode b_K_weightOf 12 = .ok (.iload_n 2, 1) := by decide +kernel
theorem d_K_weightOf_13 : decode b_K_weightOf 13 = .ok (.aload_n 0, 1) := by decide +kernel
theorem d_K_weightOf_14 : decode b_K_weightOf 14 = .ok (.getfield 25, 3) := by decide +kernel
theorem d_K_weightOf_17 : decode b_K_weightOf 17 = .ok (.iload_n 3, 1) := by decide +kernel
theorem d_K_weightOf_18 : decode b_K_weightOf 18 = .ok (.iaload, 1) := by decide +kernel
theorem d_K_weightOf_19 : decode b_K_weightOf 19 = .ok (.iload_n 1, 1) := by decide +kernel
theorem d_K_weightOf_20 : decode b_K_weightOf 20 = .ok (.if_icmp .ne 12, 3) := by decide +kernel
theorem d_K_weightOf_23 : decode b_K_weightOf 23 = .ok (.aload_n 0, 1) := by decide +kernel
theorem d_K_weightOf_24 : decode b_K_weightOf 24 = .ok (.getfield 28, 3) := by decide +kernel
theorem d_K_weightOf_27 : decode b_K_weightOf 27 = .ok (.iload_n 3, 1) := by decide +kernel
theorem d_K_weightOf_28 : decode b_K_weightOf 28 = .ok (.iaload, 1) := by decide +kernel
theorem d_K_weightOf_29 : decode b_K_weightOf 29 = .ok (.goto 4, 3) := by decide +kernel
theorem d_K_weightOf_32 : decode b_K_weightOf 32 = .ok (.iconst 0, 1) := by decide +kernel
theorem d_K_weightOf_33 : decode b_K_weightOf 33 = .ok (.iadd, 1) := by decide +kernel
theorem d_K_weightOf_34 : decode b_K_weightOf 34 = .ok (.istore_n 2, 1) := by decide +kernel
theorem d_K_weightOf_35 : decode b_K_weightOf 35 = .ok (.iinc 3 1, 3) := by decide +kernel
theorem d_K_weightOf_38 : decode b_K_weightOf 38 = .ok (.goto (-34), 3) := by decide +kernel
theorem d_K_weightOf_41 : decode b_K_weightOf 41 = .ok (.iload_n 2, 1) := by decide +kernel
theorem d_K_weightOf_42 : decode b_K_weightOf 42 = .ok (.ireturn, 1) := by decide +kernel
theorem d_K_piecesOf_0 : decode b_K_piecesOf 0 = .ok (.iconst 0, 1) := by decide +kernel
theorem d_K_piecesOf_1 : decode b_K_piecesOf 1 = .ok (.istore_n 2, 1) := by decide +kernel
theorem d_K_piecesOf_2 : decode b_K_piecesOf 2 = .ok (.iconst 0, 1) := by decide +kernel
theorem d_K_piecesOf_3 : decode b_K_piecesOf 3 = .ok (.istore_n 3, 1) := by decide +kernel
theorem d_K_piecesOf_4 : decode b_K_piecesOf 4 = .ok (.iload_n 3, 1) := by decide +kernel
theorem d_K_piecesOf_5 : decode b_K_piecesOf 5 = .ok (.aload_n 0, 1) := by decide +kernel
theorem d_K_piecesOf_6 : decode b_K_piecesOf 6 = .ok (.getfield 66, 3) := by decide +kernel
theorem d_K_piecesOf_9 : decode b_K_piecesOf 9 = .ok (.if_icmp .ge 32, 3) := by decide +kernel
theorem d_K_piecesOf_12 : decode b_K_piecesOf 12 = .ok (.iload_n 2, 1) := by decide +kernel
theorem d_K_piecesOf_13 : decode b_K_piecesOf 13 = .ok (.aload_n 0, 1) := by decide +kernel
theorem d_K_piecesOf_14 : decode b_K_piecesOf 14 = .ok (.getfield 25, 3) := by decide +kernel
theorem d_K_piecesOf_17 : decode b_K_piecesOf 17 = .ok (.iload_n 3, 1) := by decide +kernel
theorem d_K_piecesOf_18 : decode b_K_piecesOf 18 = .ok (.iaload, 1) := by decide +kernel
theorem d_K_piecesOf_19 : decode b_K_piecesOf 19 = .ok (.iload_n 1, 1) := by decide +kernel
theorem d_K_piecesOf_20 : decode b_K_piecesOf 20 = .ok (.if_icmp .ne 12, 3) := by decide +kernel
theorem d_K_piecesOf_23 : decode b_K_piecesOf 23 = .ok (.aload_n 0, 1) := by decide +kernel
theorem d_K_piecesOf_24 : decode b_K_piecesOf 24 = .ok (.getfield 31, 3) := by decide +kernel
theorem d_K_piecesOf_27 : decode b_K_piecesOf 27 = .ok (.iload_n 3, 1) := by decide +kernel
theorem d_K_piecesOf_28 : decode b_K_piecesOf 28 = .ok (.iaload, 1) := by decide +kernel
theorem d_K_piecesOf_29 : decode b_K_piecesOf 29 = .ok (.goto 4, 3) := by decide +kernel
theorem d_K_piecesOf_32 : decode b_K_piecesOf 32 = .ok (.iconst 0, 1) := by decide +kernel
theorem d_K_piecesOf_33 : decode b_K_piecesOf 33 = .ok (.iadd, 1) := by decide +kernel
theorem d_K_piecesOf_34 : decode b_K_piecesOf 34 = .ok (.istore_n 2, 1) := by decide +kernel
theorem d_K_piecesOf_35 : decode b_K_piecesOf 35 = .ok (.iinc 3 1, 3) := by decide +kernel
theorem d_K_piecesOf_38 : decode b_K_piecesOf 38 = .ok (.goto (-34), 3) := by decide +kernel
theorem d_K_piecesOf_41 : decode b_K_piecesOf 41 = .ok (.iload_n 2, 1) := by decide +kernel
theorem d_K_piecesOf_42 : decode b_K_piecesOf 42 = .ok (.ireturn, 1) := by decide +kernel
theorem d_K_belowOf_0 : decode b_K_belowOf 0 = .ok (.iconst 0, 1) := by decide +kernel
theorem d_K_belowOf_1 : decode b_K_belowOf 1 = .ok (.istore_n 2, 1) := by decide +kernel
theorem d_K_belowOf_2 : decode b_K_belowOf 2 = .ok (.iconst 0, 1) := by decide +kernel
theorem d_K_belowOf_3 : decode b_K_belowOf 3 = .ok (.istore_n 3, 1) := by decide +kernel
theorem d_K_belowOf_4 : decode b_K_belowOf 4 = .ok (.iload_n 3, 1) := by decide +kernel
theorem d_K_belowOf_5 : decode b_K_belowOf 5 = .ok (.aload_n 0, 1) := by decide +kernel
theorem d_K_belowOf_6 : decode b_K_belowOf 6 = .ok (.getfield 60, 3) := by decide +kernel
theorem d_K_belowOf_9 : decode b_K_belowOf 9 = .ok (.if_icmp .ge 27, 3) := by decide +kernel
theorem d_K_belowOf_12 : decode b_K_belowOf 12 = .ok (.iload_n 2, 1) := by decide +kernel
theorem d_K_belowOf_13 : decode b_K_belowOf 13 = .ok (.aload_n 0, 1) := by decide +kernel
theorem d_K_belowOf_14 : decode b_K_belowOf 14 = .ok (.getfield 16, 3) := by decide +kernel
theorem d_K_belowOf_17 : decode b_K_belowOf 17 = .ok (.iload_n 3, 1) := by decide +kernel
theorem d_K_belowOf_18 : decode b_K_belowOf 18 = .ok (.iaload, 1) := by decide +kernel
theorem d_K_belowOf_19 : decode b_K_belowOf 19 = .ok (.iload_n 1, 1) := by decide +kernel
theorem d_K_belowOf_20 : decode b_K_belowOf 20 = .ok (.if_icmp .ne 7, 3) := by decide +kernel
theorem d_K_belowOf_23 : decode b_K_belowOf 23 = .ok (.iconst 1, 1) := by decide +kernel
theorem d_K_belowOf_24 : decode b_K_belowOf 24 = .ok (.goto 4, 3) := by decide +kernel
theorem d_K_belowOf_27 : decode b_K_belowOf 27 = .ok (.iconst 0, 1) := by decide +kernel
theorem d_K_belowOf_28 : decode b_K_belowOf 28 = .ok (.iadd, 1) := by decide +kernel
theorem d_K_belowOf_29 : decode b_K_belowOf 29 = .ok (.istore_n 2, 1) := by decide +kernel
theorem d_K_belowOf_30 : decode b_K_belowOf 30 = .ok (.iinc 3 1, 3) := by decide +kernel
theorem d_K_belowOf_33 : decode b_K_belowOf 33 = .ok (.goto (-29), 3) := by decide +kernel
theorem d_K_belowOf_36 : decode b_K_belowOf 36 = .ok (.iload_n 2, 1) := by decide +kernel
theorem d_K_belowOf_37 : decode b_K_belowOf 37 = .ok (.ireturn, 1) := by decide +kernel
theorem d_K_differs_0 : decode b_K_differs 0 = .ok (.aload_n 0, 1) := by decide +kernel
theorem d_K_differs_1 : decode b_K_differs 1 = .ok (.iload_n 1, 1) := by decide +kernel
theorem d_K_differs_2 : decode b_K_differs 2 = .ok (.invokevirtual 69, 3) := by decide +kernel
theorem d_K_differs_5 : decode b_K_differs 5 = .ok (.istore_n 2, 1) := by decide +kernel
theorem d_K_differs_6 : decode b_K_differs 6 = .ok (.iconst 0, 1) := by decide +kernel
theorem d_K_differs_7 : decode b_K_differs 7 = .ok (.istore_n 3, 1) := by decide +kernel
theorem d_K_differs_8 : decode b_K_differs 8 = .ok (.iload_n 3, 1) := by decide +kernel
theorem d_K_differs_9 : decode b_K_differs 9 = .ok (.aload_n 0, 1) := by decide +kernel
theorem d_K_differs_10 : decode b_K_differs 10 = .ok (.getfield 60, 3) := by decide +kernel
theorem d_K_differs_13 : decode b_K_differs 13 = .ok (.if_icmp .ge 31, 3) := by decide +kernel
theorem d_K_differs_16 : decode b_K_differs 16 = .ok (.iload_n 2, 1) := by decide +kernel
theorem d_K_differs_17 : decode b_K_differs 17 = .ok (.aload_n 0, 1) := by decide +kernel
theorem d_K_differs_18 : decode b_K_differs 18 = .ok (.getfield 16, 3) := by decide +kernel
theorem d_K_differs_21 : decode b_K_differs 21 = .ok (.iload_n 3, 1) := by decide +kernel
theorem d_K_differs_22 : decode b_K_differs 22 = .ok (.iaload, 1) := by decide +kernel
theorem d_K_differs_23 : decode b_K_differs 23 = .ok (.iload_n 1, 1) := by decide +kernel
theorem d_K_differs_24 : decode b_K_differs 24 = .ok (.if_icmp .ne 11, 3) := by decide +kernel
theorem d_K_differs_27 : decode b_K_differs 27 = .ok (.aload_n 0, 1) := by decide +kernel
theorem d_K_differs_28 : decode b_K_differs 28 = .ok (.iload_n 3, 1) := by decide +kernel
theorem d_K_differs_29 : decode b_K_differs 29 = .ok (.invokevirtual 69, 3) := by decide +kernel
theorem d_K_differs_32 : decode b_K_differs 32 = .ok (.goto 4, 3) := by decide +kernel
theorem d_K_differs_35 : decode b_K_differs 35 = .ok (.iconst 0, 1) := by decide +kernel
theorem d_K_differs_36 : decode b_K_differs 36 = .ok (.isub, 1) := by decide +kernel
theorem d_K_differs_37 : decode b_K_differs 37 = .ok (.istore_n 2, 1) := by decide +kernel
theorem d_K_differs_38 : decode b_K_differs 38 = .ok (.iinc 3 1, 3) := by decide +kernel
theorem d_K_differs_41 : decode b_K_differs 41 = .ok (.goto (-33), 3) := by decide +kernel
theorem d_K_differs_44 : decode b_K_differs 44 = .ok (.aload_n 0, 1) := by decide +kernel
theorem d_K_differs_45 : decode b_K_differs 45 = .ok (.iload_n 1, 1) := by decide +kernel
theorem d_K_differs_46 : decode b_K_differs 46 = .ok (.invokevirtual 73, 3) := by decide +kernel
theorem d_K_differs_49 : decode b_K_differs 49 = .ok (.ifCond .ne 7, 3) := by decide +kernel
theorem d_K_differs_52 : decode b_K_differs 52 = .ok (.iconst 0, 1) := by decide +kernel
theorem d_K_differs_53 : decode b_K_differs 53 = .ok (.goto 4, 3) := by decide +kernel
theorem d_K_differs_56 : decode b_K_differs 56 = .ok (.iload_n 2, 1) := by decide +kernel
theorem d_K_differs_57 : decode b_K_differs 57 = .ok (.ireturn, 1) := by decide +kernel
theorem d_K_billsOf_0 : decode b_K_billsOf 0 = .ok (.iconst 0, 1) := by decide +kernel
theorem d_K_billsOf_1 : decode b_K_billsOf 1 = .ok (.istore_n 2, 1) := by decide +kernel
theorem d_K_billsOf_2 : decode b_K_billsOf 2 = .ok (.iconst 0, 1) := by decide +kernel
theorem d_K_billsOf_3 : decode b_K_billsOf 3 = .ok (.istore_n 3, 1) := by decide +kernel
theorem d_K_billsOf_4 : decode b_K_billsOf 4 = .ok (.iload_n 3, 1) := by decide +kernel
theorem d_K_billsOf_5 : decode b_K_billsOf 5 = .ok (.aload_n 0, 1) := by decide +kernel
theorem d_K_billsOf_6 : decode b_K_billsOf 6 = .ok (.getfield 60, 3) := by decide +kernel
theorem d_K_billsOf_9 : decode b_K_billsOf 9 = .ok (.if_icmp .ge 26, 3) := by decide +kernel
theorem d_K_billsOf_12 : decode b_K_billsOf 12 = .ok (.iload_n 2, 1) := by decide +kernel
theorem d_K_billsOf_13 : decode b_K_billsOf 13 = .ok (.aload_n 0, 1) := by decide +kernel
theorem d_K_billsOf_14 : decode b_K_billsOf 14 = .ok (.iload_n 1, 1) := by decide +kernel
theorem d_K_billsOf_15 : decode b_K_billsOf 15 = .ok (.iload_n 3, 1) := by decide +kernel
theorem d_K_billsOf_16 : decode b_K_billsOf 16 = .ok (.invokevirtual 76, 3) := by decide +kernel
theorem d_K_billsOf_19 : decode b_K_billsOf 19 = .ok (.ifCond .eq 7, 3) := by decide +kernel
theorem d_K_billsOf_22 : decode b_K_billsOf 22 = .ok (.iconst 1, 1) := by decide +kernel
theorem d_K_billsOf_23 : decode b_K_billsOf 23 = .ok (.goto 4, 3) := by decide +kernel
theorem d_K_billsOf_26 : decode b_K_billsOf 26 = .ok (.iconst 0, 1) := by decide +kernel
theorem d_K_billsOf_27 : decode b_K_billsOf 27 = .ok (.iadd, 1) := by decide +kernel
theorem d_K_billsOf_28 : decode b_K_billsOf 28 = .ok (.istore_n 2, 1) := by decide +kernel
theorem d_K_billsOf_29 : decode b_K_billsOf 29 = .ok (.iinc 3 1, 3) := by decide +kernel
theorem d_K_billsOf_32 : decode b_K_billsOf 32 = .ok (.goto (-28), 3) := by decide +kernel
theorem d_K_billsOf_35 : decode b_K_billsOf 35 = .ok (.iload_n 2, 1) := by decide +kernel
theorem d_K_billsOf_36 : decode b_K_billsOf 36 = .ok (.ireturn, 1) := by decide +kernel
theorem d_K_boxesOf_0 : decode b_K_boxesOf 0 = .ok (.iconst 0, 1) := by decide +kernel
theorem d_K_boxesOf_1 : decode b_K_boxesOf 1 = .ok (.istore_n 2, 1) := by decide +kernel
theorem d_K_boxesOf_2 : decode b_K_boxesOf 2 = .ok (.iconst 0, 1) := by decide +kernel
theorem d_K_boxesOf_3 : decode b_K_boxesOf 3 = .ok (.istore_n 3, 1) := by decide +kernel
theorem d_K_boxesOf_4 : decode b_K_boxesOf 4 = .ok (.iload_n 3, 1) := by decide +kernel
theorem d_K_boxesOf_5 : decode b_K_boxesOf 5 = .ok (.aload_n 0, 1) := by decide +kernel
theorem d_K_boxesOf_6 : decode b_K_boxesOf 6 = .ok (.getfield 63, 3) := by decide +kernel
theorem d_K_boxesOf_9 : decode b_K_boxesOf 9 = .ok (.if_icmp .ge 26, 3) := by decide +kernel
theorem d_K_boxesOf_12 : decode b_K_boxesOf 12 = .ok (.iload_n 2, 1) := by decide +kernel
theorem d_K_boxesOf_13 : decode b_K_boxesOf 13 = .ok (.aload_n 0, 1) := by decide +kernel
theorem d_K_boxesOf_14 : decode b_K_boxesOf 14 = .ok (.iload_n 3, 1) := by decide +kernel
theorem d_K_boxesOf_15 : decode b_K_boxesOf 15 = .ok (.iload_n 1, 1) := by decide +kernel
theorem d_K_boxesOf_16 : decode b_K_boxesOf 16 = .ok (.invokevirtual 76, 3) := by decide +kernel
theorem d_K_boxesOf_19 : decode b_K_boxesOf 19 = .ok (.ifCond .eq 7, 3) := by decide +kernel
theorem d_K_boxesOf_22 : decode b_K_boxesOf 22 = .ok (.iconst 1, 1) := by decide +kernel
theorem d_K_boxesOf_23 : decode b_K_boxesOf 23 = .ok (.goto 4, 3) := by decide +kernel
theorem d_K_boxesOf_26 : decode b_K_boxesOf 26 = .ok (.iconst 0, 1) := by decide +kernel
theorem d_K_boxesOf_27 : decode b_K_boxesOf 27 = .ok (.iadd, 1) := by decide +kernel
theorem d_K_boxesOf_28 : decode b_K_boxesOf 28 = .ok (.istore_n 2, 1) := by decide +kernel
theorem d_K_boxesOf_29 : decode b_K_boxesOf 29 = .ok (.iinc 3 1, 3) := by decide +kernel
theorem d_K_boxesOf_32 : decode b_K_boxesOf 32 = .ok (.goto (-28), 3) := by decide +kernel
theorem d_K_boxesOf_35 : decode b_K_boxesOf 35 = .ok (.iload_n 2, 1) := by decide +kernel
theorem d_K_boxesOf_36 : decode b_K_boxesOf 36 = .ok (.ireturn, 1) := by decide +kernel
theorem d_K_landedWeight_0 : decode b_K_landedWeight 0 = .ok (.iconst 0, 1) := by decide +kernel
theorem d_K_landedWeight_1 : decode b_K_landedWeight 1 = .ok (.istore_n 2, 1) := by decide +kernel
theorem d_K_landedWeight_2 : decode b_K_landedWeight 2 = .ok (.iconst 0, 1) := by decide +kernel
theorem d_K_landedWeight_3 : decode b_K_landedWeight 3 = .ok (.istore_n 3, 1) := by decide +kernel
theorem d_K_landedWeight_4 : decode b_K_landedWeight 4 = .ok (.iload_n 3, 1) := by decide +kernel
theorem d_K_landedWeight_5 : decode b_K_landedWeight 5 = .ok (.aload_n 0, 1) := by decide +kernel
theorem d_K_landedWeight_6 : decode b_K_landedWeight 6 = .ok (.getfield 63, 3) := by decide +kernel
theorem d_K_landedWeight_9 : decode b_K_landedWeight 9 = .ok (.if_icmp .ge 107, 3) := by decide +kernel
theorem d_K_landedWeight_12 : decode b_K_landedWeight 12 = .ok (.aload_n 0, 1) := by decide +kernel
theorem d_K_landedWeight_13 : decode b_K_landedWeight 13 = .ok (.iload_n 3, 1) := by decide +kernel
theorem d_K_landedWeight_14 : decode b_K_landedWeight 14 = .ok (.iload_n 1, 1) := by decide +kernel
theorem d_K_landedWeight_15 : decode b_K_landedWeight 15 = .ok (.invokevirtual 76, 3) := by decide +kernel
theorem d_K_landedWeight_18 : decode b_K_landedWeight 18 = .ok (.ifCond .eq 92, 3) := by decide +kernel
theorem d_K_landedWeight_21 : decode b_K_landedWeight 21 = .ok (.aload_n 0, 1) := by decide +kernel
theorem d_K_landedWeight_22 : decode b_K_landedWeight 22 = .ok (.getfield 43, 3) := by decide +kernel
theorem d_K_landedWeight_25 : decode b_K_landedWeight 25 = .ok (.iload_n 3, 1) := by decide +kernel
theorem d_K_landedWeight_26 : decode b_K_landedWeight 26 = .ok (.iaload, 1) := by decide +kernel
theorem d_K_landedWeight_27 : decode b_K_landedWeight 27 = .ok (.ifCond .ge 6, 3) := by decide +kernel
theorem d_K_landedWeight_30 : decode b_K_landedWeight 30 = .ok (.goto 80, 3) := by decide +kernel
theorem d_K_landedWeight_33 : decode b_K_landedWeight 33 = .ok (.iconst 0, 1) := by decide +kernel
theorem d_K_landedWeight_34 : decode b_K_landedWeight 34 = .ok (.istore 4, 2) := by decide +kernel
theorem d_K_landedWeight_36 : decode b_K_landedWeight 36 = .ok (.iconst 0, 1) := by decide +kernel
theorem d_K_landedWeight_37 : decode b_K_landedWeight 37 = .ok (.istore 5, 2) := by decide +kernel
theorem d_K_landedWeight_39 : decode b_K_landedWeight 39 = .ok (.iload 5, 2) := by decide +kernel
theorem d_K_landedWeight_41 : decode b_K_landedWeight 41 = .ok (.iload_n 1, 1) := by decide +kernel
theorem d_K_landedWeight_42 : decode b_K_landedWeight 42 = .ok (.if_icmp .ge 29, 3) := by decide +kernel
theorem d_K_landedWeight_45 : decode b_K_landedWeight 45 = .ok (.iload 4, 2) := by decide +kernel
theorem d_K_landedWeight_47 : decode b_K_landedWeight 47 = .ok (.aload_n 0, 1) := by decide +kernel
theorem d_K_landedWeight_48 : decode b_K_landedWeight 48 = .ok (.iload_n 3, 1) := by decide +kernel
theorem d_K_landedWeight_49 : decode b_K_landedWeight 49 = .ok (.iload 5, 2) := by decide +kernel
theorem d_K_landedWeight_51 : decode b_K_landedWeight 51 = .ok (.invokevirtual 76, 3) := by decide +kernel
theorem d_K_landedWeight_54 : decode b_K_landedWeight 54 = .ok (.ifCond .eq 7, 3) := by decide +kernel
theorem d_K_landedWeight_57 : decode b_K_landedWeight 57 = .ok (.iconst 1, 1) := by decide +kernel
theorem d_K_landedWeight_58 : decode b_K_landedWeight 58 = .ok (.goto 4, 3) := by decide +kernel
theorem d_K_landedWeight_61 : decode b_K_landedWeight 61 = .ok (.iconst 0, 1) := by decide +kernel
theorem d_K_landedWeight_62 : decode b_K_landedWeight 62 = .ok (.iadd, 1) := by decide +kernel
theorem d_K_landedWeight_63 : decode b_K_landedWeight 63 = .ok (.istore 4, 2) := by decide +kernel
theorem d_K_landedWeight_65 : decode b_K_landedWeight 65 = .ok (.iinc 5 1, 3) := by decide +kernel
theorem d_K_landedWeight_68 : decode b_K_landedWeight 68 = .ok (.goto (-29), 3) := by decide +kernel
theorem d_K_landedWeight_71 : decode b_K_landedWeight 71 = .ok (.aload_n 0, 1) := by decide +kernel
theorem d_K_landedWeight_72 : decode b_K_landedWeight 72 = .ok (.iload_n 3, 1) := by decide +kernel
theorem d_K_landedWeight_73 : decode b_K_landedWeight 73 = .ok (.invokevirtual 80, 3) := by decide +kernel
theorem d_K_landedWeight_76 : decode b_K_landedWeight 76 = .ok (.istore 5, 2) := by decide +kernel
theorem d_K_landedWeight_78 : decode b_K_landedWeight 78 = .ok (.iload_n 2, 1) := by decide +kernel
theorem d_K_landedWeight_79 : decode b_K_landedWeight 79 = .ok (.aload_n 0, 1) := by decide +kernel
theorem d_K_landedWeight_80 : decode b_K_landedWeight 80 = .ok (.getfield 43, 3) := by decide +kernel
theorem d_K_landedWeight_83 : decode b_K_landedWeight 83 = .ok (.iload_n 3, 1) := by decide +kernel
theorem d_K_landedWeight_84 : decode b_K_landedWeight 84 = .ok (.iaload, 1) := by decide +kernel
theorem d_K_landedWeight_85 : decode b_K_landedWeight 85 = .ok (.iload 5, 2) := by decide +kernel
theorem d_K_landedWeight_87 : decode b_K_landedWeight 87 = .ok (.idiv, 1) := by decide +kernel
theorem d_K_landedWeight_88 : decode b_K_landedWeight 88 = .ok (.iload 4, 2) := by decide +kernel
theorem d_K_landedWeight_90 : decode b_K_landedWeight 90 = .ok (.aload_n 0, 1) := by decide +kernel
theorem d_K_landedWeight_91 : decode b_K_landedWeight 91 = .ok (.getfield 43, 3) := by decide +kernel
theorem d_K_landedWeight_94 : decode b_K_landedWeight 94 = .ok (.iload_n 3, 1) := by decide +kernel
theorem d_K_landedWeight_95 : decode b_K_landedWeight 95 = .ok (.iaload, 1) := by decide +kernel
theorem d_K_landedWeight_96 : decode b_K_landedWeight 96 = .ok (.iload 5, 2) := by decide +kernel
theorem d_K_landedWeight_98 : decode b_K_landedWeight 98 = .ok (.irem, 1) := by decide +kernel
theorem d_K_landedWeight_99 : decode b_K_landedWeight 99 = .ok (.if_icmp .ge 7, 3) := by decide +kernel
theorem d_K_landedWeight_102 : decode b_K_landedWeight 102 = .ok (.iconst 1, 1) := by decide +kernel
theorem d_K_landedWeight_103 : decode b_K_landedWeight 103 = .ok (.goto 4, 3) := by decide +kernel
theorem d_K_landedWeight_106 : decode b_K_landedWeight 106 = .ok (.iconst 0, 1) := by decide +kernel
theorem d_K_landedWeight_107 : decode b_K_landedWeight 107 = .ok (.iadd, 1) := by decide +kernel
theorem d_K_landedWeight_108 : decode b_K_landedWeight 108 = .ok (.iadd, 1) := by decide +kernel
theorem d_K_landedWeight_109 : decode b_K_landedWeight 109 = .ok (.istore_n 2, 1) := by decide +kernel
theorem d_K_landedWeight_110 : decode b_K_landedWeight 110 = .ok (.iinc 3 1, 3) := by decide +kernel
theorem d_K_landedWeight_113 : decode b_K_landedWeight 113 = .ok (.goto (-109), 3) := by decide +kernel
theorem d_K_landedWeight_116 : decode b_K_landedWeight 116 = .ok (.iload_n 2, 1) := by decide +kernel
theorem d_K_landedWeight_117 : decode b_K_landedWeight 117 = .ok (.ireturn, 1) := by decide +kernel
theorem d_K_waitsNow_0 : decode b_K_waitsNow 0 = .ok (.aload_n 0, 1) := by decide +kernel
theorem d_K_waitsNow_1 : decode b_K_waitsNow 1 = .ok (.getfield 43, 3) := by decide +kernel
theorem d_K_waitsNow_4 : decode b_K_waitsNow 4 = .ok (.iload_n 1, 1) := by decide +kernel
theorem d_K_waitsNow_5 : decode b_K_waitsNow 5 = .ok (.iaload, 1) := by decide +kernel
theorem d_K_waitsNow_6 : decode b_K_waitsNow 6 = .ok (.ifCond .lt 15, 3) := by decide +kernel
theorem d_K_waitsNow_9 : decode b_K_waitsNow 9 = .ok (.aload_n 0, 1) := by decide +kernel
theorem d_K_waitsNow_10 : decode b_K_waitsNow 10 = .ok (.iload_n 1, 1) := by decide +kernel
theorem d_K_waitsNow_11 : decode b_K_waitsNow 11 = .ok (.invokevirtual 80, 3) := by decide +kernel
theorem d_K_waitsNow_14 : decode b_K_waitsNow 14 = .ok (.ifCond .ne 7, 3) := by decide +kernel
theorem d_K_waitsNow_17 : decode b_K_waitsNow 17 = .ok (.iconst 1, 1) := by decide +kernel
theorem d_K_waitsNow_18 : decode b_K_waitsNow 18 = .ok (.goto 4, 3) := by decide +kernel
theorem d_K_waitsNow_21 : decode b_K_waitsNow 21 = .ok (.iconst 0, 1) := by decide +kernel
theorem d_K_waitsNow_22 : decode b_K_waitsNow 22 = .ok (.ireturn, 1) := by decide +kernel
theorem d_K_make_0 : decode b_K_make 0 = .ok (.aload_n 0, 1) := by decide +kernel
theorem d_K_make_1 : decode b_K_make 1 = .ok (.getfield 7, 3) := by decide +kernel
theorem d_K_make_4 : decode b_K_make 4 = .ok (.aload_n 0, 1) := by decide +kernel
theorem d_K_make_5 : decode b_K_make 5 = .ok (.getfield 60, 3) := by decide +kernel
theorem d_K_make_8 : decode b_K_make 8 = .ok (.iload_n 1, 1) := by decide +kernel
theorem d_K_make_9 : decode b_K_make 9 = .ok (.iastore, 1) := by decide +kernel
theorem d_K_make_10 : decode b_K_make 10 = .ok (.aload_n 0, 1) := by decide +kernel
theorem d_K_make_11 : decode b_K_make 11 = .ok (.getfield 13, 3) := by decide +kernel
theorem d_K_make_14 : decode b_K_make 14 = .ok (.aload_n 0, 1) := by decide +kernel
theorem d_K_make_15 : decode b_K_make 15 = .ok (.getfield 60, 3) := by decide +kernel
theorem d_K_make_18 : decode b_K_make 18 = .ok (.iload_n 2, 1) := by decide +kernel
theorem d_K_make_19 : decode b_K_make 19 = .ok (.iastore, 1) := by decide +kernel
theorem d_K_make_20 : decode b_K_make 20 = .ok (.aload_n 0, 1) := by decide +kernel
theorem d_K_make_21 : decode b_K_make 21 = .ok (.getfield 16, 3) := by decide +kernel
theorem d_K_make_24 : decode b_K_make 24 = .ok (.aload_n 0, 1) := by decide +kernel
theorem d_K_make_25 : decode b_K_make 25 = .ok (.getfield 60, 3) := by decide +kernel
theorem d_K_make_28 : decode b_K_make 28 = .ok (.iload_n 3, 1) := by decide +kernel
theorem d_K_make_29 : decode b_K_make 29 = .ok (.iastore, 1) := by decide +kernel
theorem d_K_make_30 : decode b_K_make 30 = .ok (.aload_n 0, 1) := by decide +kernel
theorem d_K_make_31 : decode b_K_make 31 = .ok (.dup, 1) := by decide +kernel
theorem d_K_make_32 : decode b_K_make 32 = .ok (.getfield 60, 3) := by decide +kernel
theorem d_K_make_35 : decode b_K_make 35 = .ok (.iconst 1, 1) := by decide +kernel
theorem d_K_make_36 : decode b_K_make 36 = .ok (.iadd, 1) := by decide +kernel
theorem d_K_make_37 : decode b_K_make 37 = .ok (.putfield 60, 3) := by decide +kernel
theorem d_K_make_40 : decode b_K_make 40 = .ok (.aload_n 0, 1) := by decide +kernel
theorem d_K_make_41 : decode b_K_make 41 = .ok (.getfield 60, 3) := by decide +kernel
theorem d_K_make_44 : decode b_K_make 44 = .ok (.iconst 1, 1) := by decide +kernel
theorem d_K_make_45 : decode b_K_make 45 = .ok (.isub, 1) := by decide +kernel
theorem d_K_make_46 : decode b_K_make 46 = .ok (.ireturn, 1) := by decide +kernel
theorem d_K_bill_0 : decode b_K_bill 0 = .ok (.aload_n 0, 1) := by decide +kernel
theorem d_K_bill_1 : decode b_K_bill 1 = .ok (.iload_n 1, 1) := by decide +kernel
theorem d_K_bill_2 : decode b_K_bill 2 = .ok (.iconst 0, 1) := by decide +kernel
theorem d_K_bill_3 : decode b_K_bill 3 = .ok (.iconst 3, 1) := by decide +kernel
theorem d_K_bill_4 : decode b_K_bill 4 = .ok (.invokestatic 83, 3) := by decide +kernel
theorem d_K_bill_7 : decode b_K_bill 7 = .ok (.ifCond .eq 13, 3) := by decide +kernel
theorem d_K_bill_10 : decode b_K_bill 10 = .ok (.iload_n 2, 1) := by decide +kernel
theorem d_K_bill_11 : decode b_K_bill 11 = .ok (.iconst 0, 1) := by decide +kernel
theorem d_K_bill_12 : decode b_K_bill 12 = .ok (.ldc 87, 2) := by decide +kernel
theorem d_K_bill_14 : decode b_K_bill 14 = .ok (.invokestatic 83, 3) := by decide +kernel
theorem d_K_bill_17 : decode b_K_bill 17 = .ok (.ifCond .ne 7, 3) := by decide +kernel
theorem d_K_bill_20 : decode b_K_bill 20 = .ok (.iconst 1, 1) := by decide +kernel
theorem d_K_bill_21 : decode b_K_bill 21 = .ok (.goto 17, 3) := by decide +kernel
theorem d_K_bill_24 : decode b_K_bill 24 = .ok (.aload_n 0, 1) := by decide +kernel
theorem d_K_bill_25 : decode b_K_bill 25 = .ok (.getfield 60, 3) := by decide +kernel
theorem d_K_bill_28 : decode b_K_bill 28 = .ok (.bipush 60, 2) := by decide +kernel
theorem d_K_bill_30 : decode b_K_bill 30 = .ok (.if_icmp .ne 7, 3) := by decide +kernel
theorem d_K_bill_33 : decode b_K_bill 33 = .ok (.iconst 2, 1) := by decide +kernel
theorem d_K_bill_34 : decode b_K_bill 34 = .ok (.goto 4, 3) := by decide +kernel
theorem d_K_bill_37 : decode b_K_bill 37 = .ok (.iconst 0, 1) := by decide +kernel
theorem d_K_bill_38 : decode b_K_bill 38 = .ok (.putfield 56, 3) := by decide +kernel
theorem d_K_bill_41 : decode b_K_bill 41 = .ok (.aload_n 0, 1) := by decide +kernel
theorem d_K_bill_42 : decode b_K_bill 42 = .ok (.getfield 56, 3) := by decide +kernel
theorem d_K_bill_45 : decode b_K_bill 45 = .ok (.ifCond .le 5, 3) := by decide +kernel
theorem d_K_bill_48 : decode b_K_bill 48 = .ok (.iconst 0, 1) := by decide +kernel
theorem d_K_bill_49 : decode b_K_bill 49 = .ok (.ireturn, 1) := by decide +kernel
theorem d_K_bill_50 : decode b_K_bill 50 = .ok (.aload_n 0, 1) := by decide +kernel
theorem d_K_bill_51 : decode b_K_bill 51 = .ok (.iload_n 1, 1) := by decide +kernel
theorem d_K_bill_52 : decode b_K_bill 52 = .ok (.iload_n 2, 1) := by decide +kernel
theorem d_K_bill_53 : decode b_K_bill 53 = .ok (.invokevirtual 88, 3) := by decide +kernel
theorem d_K_bill_56 : decode b_K_bill 56 = .ok (.ifCond .ge 16, 3) := by decide +kernel
theorem d_K_bill_59 : decode b_K_bill 59 = .ok (.iload_n 3, 1) := by decide +kernel
theorem d_K_bill_60 : decode b_K_bill 60 = .ok (.iconst (-1), 1) := by decide +kernel
theorem d_K_bill_61 : decode b_K_bill 61 = .ok (.if_icmp .eq 13, 3) := by decide +kernel
theorem d_K_bill_64 : decode b_K_bill 64 = .ok (.aload_n 0, 1) := by decide +kernel
theorem d_K_bill_65 : decode b_K_bill 65 = .ok (.iload_n 3, 1) := by decide +kernel
theorem d_K_bill_66 : decode b_K_bill 66 = .ok (.invokevirtual 92, 3) := by decide +kernel
theorem d_K_bill_69 : decode b_K_bill 69 = .ok (.ifCond .ne 5, 3) := by decide +kernel
theorem d_K_bill_72 : decode b_K_bill 72 = .ok (.iconst (-1), 1) := by decide +kernel
theorem d_K_bill_73 : decode b_K_bill 73 = .ok (.ireturn, 1) := by decide +kernel
theorem d_K_bill_74 : decode b_K_bill 74 = .ok (.iload_n 3, 1) := by decide +kernel
theorem d_K_bill_75 : decode b_K_bill 75 = .ok (.ifCond .lt 33, 3) := by decide +kernel
theorem d_K_bill_78 : decode b_K_bill 78 = .ok (.aload_n 0, 1) := by decide +kernel
theorem d_K_bill_79 : decode b_K_bill 79 = .ok (.getfield 7, 3) := by decide +kernel
theorem d_K_bill_82 : decode b_K_bill 82 = .ok (.iload_n 3, 1) := by decide +kernel
theorem d_K_bill_83 : decode b_K_bill 83 = .ok (.iaload, 1) := by decide +kernel
theorem d_K_bill_84 : decode b_K_bill 84 = .ok (.iload_n 1, 1) := by decide +kernel
theorem d_K_bill_85 : decode b_K_bill 85 = .ok (.if_icmp .ne 21, 3) := by decide +kernel
theorem d_K_bill_88 : decode b_K_bill 88 = .ok (.aload_n 0, 1) := by decide +kernel
theorem d_K_bill_89 : decode b_K_bill 89 = .ok (.iload_n 3, 1) := by decide +kernel
theorem d_K_bill_90 : decode b_K_bill 90 = .ok (.invokevirtual 96, 3) := by decide +kernel
theorem d_K_bill_93 : decode b_K_bill 93 = .ok (.iconst 4, 1) := by decide +kernel
theorem d_K_bill_94 : decode b_K_bill 94 = .ok (.if_icmp .eq 12, 3) := by decide +kernel
theorem d_K_bill_97 : decode b_K_bill 97 = .ok (.aload_n 0, 1) := by decide +kernel
theorem d_K_bill_98 : decode b_K_bill 98 = .ok (.getfield 22, 3) := by decide +kernel
theorem d_K_bill_101 : decode b_K_bill 101 = .ok (.iload_n 3, 1) := by decide +kernel
theorem d_K_bill_102 : decode b_K_bill 102 = .ok (.iaload, 1) := by decide +kernel
theorem d_K_bill_103 : decode b_K_bill 103 = .ok (.ifCond .le 5, 3) := by decide +kernel
theorem d_K_bill_106 : decode b_K_bill 106 = .ok (.iconst (-1), 1) := by decide +kernel
theorem d_K_bill_107 : decode b_K_bill 107 = .ok (.ireturn, 1) := by decide +kernel
theorem d_K_bill_108 : decode b_K_bill 108 = .ok (.aload_n 0, 1) := by decide +kernel
theorem d_K_bill_109 : decode b_K_bill 109 = .ok (.iload_n 1, 1) := by decide +kernel
theorem d_K_bill_110 : decode b_K_bill 110 = .ok (.iload_n 2, 1) := by decide +kernel
theorem d_K_bill_111 : decode b_K_bill 111 = .ok (.iload_n 3, 1) := by decide +kernel
theorem d_K_bill_112 : decode b_K_bill 112 = .ok (.invokevirtual 99, 3) := by decide +kernel
theorem d_K_bill_115 : decode b_K_bill 115 = .ok (.ireturn, 1) := by decide +kernel
theorem d_K_add_0 : decode b_K_add 0 = .ok (.aload_n 0, 1) := by decide +kernel
theorem d_K_add_1 : decode b_K_add 1 = .ok (.getfield 25, 3) := by decide +kernel
theorem d_K_add_4 : decode b_K_add 4 = .ok (.aload_n 0, 1) := by decide +kernel
theorem d_K_add_5 : decode b_K_add 5 = .ok (.getfield 66, 3) := by decide +kernel
theorem d_K_add_8 : decode b_K_add 8 = .ok (.iload_n 1, 1) := by decide +kernel
theorem d_K_add_9 : decode b_K_add 9 = .ok (.iastore, 1) := by decide +kernel
theorem d_K_add_10 : decode b_K_add 10 = .ok (.aload_n 0, 1) := by decide +kernel
theorem d_K_add_11 : decode b_K_add 11 = .ok (.getfield 28, 3) := by decide +kernel
theorem d_K_add_14 : decode b_K_add 14 = .ok (.aload_n 0, 1) := by decide +kernel
theorem d_K_add_15 : decode b_K_add 15 = .ok (.getfield 66, 3) := by decide +kernel
theorem d_K_add_18 : decode b_K_add 18 = .ok (.iload_n 2, 1) := by decide +kernel
theorem d_K_add_19 : decode b_K_add 19 = .ok (.iastore, 1) := by decide +kernel
theorem d_K_add_20 : decode b_K_add 20 = .ok (.aload_n 0, 1) := by decide +kernel
theorem d_K_add_21 : decode b_K_add 21 = .ok (.getfield 31, 3) := by decide +kernel
theorem d_K_add_24 : decode b_K_add 24 = .ok (.aload_n 0, 1) := by decide +kernel
theorem d_K_add_25 : decode b_K_add 25 = .ok (.getfield 66, 3) := by decide +kernel
theorem d_K_add_28 : decode b_K_add 28 = .ok (.iload_n 3, 1) := by decide +kernel
theorem d_K_add_29 : decode b_K_add 29 = .ok (.iastore, 1) := by decide +kernel
theorem d_K_add_30 : decode b_K_add 30 = .ok (.aload_n 0, 1) := by decide +kernel
theorem d_K_add_31 : decode b_K_add 31 = .ok (.dup, 1) := by decide +kernel
theorem d_K_add_32 : decode b_K_add 32 = .ok (.getfield 66, 3) := by decide +kernel
theorem d_K_add_35 : decode b_K_add 35 = .ok (.iconst 1, 1) := by decide +kernel
theorem d_K_add_36 : decode b_K_add 36 = .ok (.iadd, 1) := by decide +kernel
theorem d_K_add_37 : decode b_K_add 37 = .ok (.putfield 66, 3) := by decide +kernel
theorem d_K_add_40 : decode b_K_add 40 = .ok (.aload_n 0, 1) := by decide +kernel
theorem d_K_add_41 : decode b_K_add 41 = .ok (.iload_n 1, 1) := by decide +kernel
theorem d_K_add_42 : decode b_K_add 42 = .ok (.invokevirtual 103, 3) := by decide +kernel
theorem d_K_add_45 : decode b_K_add 45 = .ok (.iconst 1, 1) := by decide +kernel
theorem d_K_add_46 : decode b_K_add 46 = .ok (.isub, 1) := by decide +kernel
theorem d_K_add_47 : decode b_K_add 47 = .ok (.ireturn, 1) := by decide +kernel
theorem d_K_line_0 : decode b_K_line 0 = .ok (.aload_n 0, 1) := by decide +kernel
theorem d_K_line_1 : decode b_K_line 1 = .ok (.aload_n 0, 1) := by decide +kernel
theorem d_K_line_2 : decode b_K_line 2 = .ok (.iload_n 1, 1) := by decide +kernel
theorem d_K_line_3 : decode b_K_line 3 = .ok (.invokevirtual 92, 3) := by decide +kernel
theorem d_K_line_6 : decode b_K_line 6 = .ok (.ifCond .eq 24, 3) := by decide +kernel
theorem d_K_line_9 : decode b_K_line 9 = .ok (.iload_n 2, 1) := by decide +kernel
theorem d_K_line_10 : decode b_K_line 10 = .ok (.iconst 0, 1) := by decide +kernel
theorem d_K_line_11 : decode b_K_line 11 = .ok (.ldc 106, 2) := by decide +kernel
theorem d_K_line_13 : decode b_K_line 13 = .ok (.invokestatic 83, 3) := by decide +kernel
theorem d_K_line_16 : decode b_K_line 16 = .ok (.ifCond .eq 14, 3) := by decide +kernel
theorem d_K_line_19 : decode b_K_line 19 = .ok (.iload_n 3, 1) := by decide +kernel
theorem d_K_line_20 : decode b_K_line 20 = .ok (.iconst 0, 1) := by decide +kernel
theorem d_K_line_21 : decode b_K_line 21 = .ok (.sipush 10000, 3) := by decide +kernel
theorem d_K_line_24 : decode b_K_line 24 = .ok (.invokestatic 83, 3) := by decide +kernel
theorem d_K_line_27 : decode b_K_line 27 = .ok (.ifCond .ne 7, 3) := by decide +kernel
theorem d_K_line_30 : decode b_K_line 30 = .ok (.iconst 1, 1) := by decide +kernel
theorem d_K_line_31 : decode b_K_line 31 = .ok (.goto 18, 3) := by decide +kernel
theorem d_K_line_34 : decode b_K_line 34 = .ok (.aload_n 0, 1) := by decide +kernel
theorem d_K_line_35 : decode b_K_line 35 = .ok (.getfield 66, 3) := by decide +kernel
theorem d_K_line_38 : decode b_K_line 38 = .ok (.sipush 200, 3) := by decide +kernel
theorem d_K_line_41 : decode b_K_line 41 = .ok (.if_icmp .ne 7, 3) := by decide +kernel
theorem d_K_line_44 : decode b_K_line 44 = .ok (.iconst 2, 1) := by decide +kernel
theorem d_K_line_45 : decode b_K_line 45 = .ok (.goto 4, 3) := by decide +kernel
theorem d_K_line_48 : decode b_K_line 48 = .ok (.iconst 0, 1) := by decide +kernel
theorem d_K_line_49 : decode b_K_line 49 = .ok (.putfield 56, 3) := by decide +kernel
theorem d_K_line_52 : decode b_K_line 52 = .ok (.aload_n 0, 1) := by decide +kernel
theorem d_K_line_53 : decode b_K_line 53 = .ok (.getfield 56, 3) := by decide +kernel
theorem d_K_line_56 : decode b_K_line 56 = .ok (.ifCond .le 7, 3) := by decide +kernel
theorem d_K_line_59 : decode b_K_line 59 = .ok (.iconst 0, 1) := by decide +kernel
theorem d_K_line_60 : decode b_K_line 60 = .ok (.goto 10, 3) := by decide +kernel
theorem d_K_line_63 : decode b_K_line 63 = .ok (.aload_n 0, 1) := by decide +kernel
theorem d_K_line_64 : decode b_K_line 64 = .ok (.iload_n 1, 1) := by decide +kernel
theorem d_K_line_65 : decode b_K_line 65 = .ok (.iload_n 2, 1) := by decide +kernel
theorem d_K_line_66 : decode b_K_line 66 = .ok (.iload_n 3, 1) := by decide +kernel
theorem d_K_line_67 : decode b_K_line 67 = .ok (.invokevirtual 107, 3) := by decide +kernel
theorem d_K_line_70 : decode b_K_line 70 = .ok (.ireturn, 1) := by decide +kernel
theorem d_K_box_0 : decode b_K_box 0 = .ok (.aload_n 0, 1) := by decide +kernel
theorem d_K_box_1 : decode b_K_box 1 = .ok (.iload_n 1, 1) := by decide +kernel
theorem d_K_box_2 : decode b_K_box 2 = .ok (.iconst 0, 1) := by decide +kernel
theorem d_K_box_3 : decode b_K_box 3 = .ok (.iconst 3, 1) := by decide +kernel
theorem d_K_box_4 : decode b_K_box 4 = .ok (.invokestatic 83, 3) := by decide +kernel
theorem d_K_box_7 : decode b_K_box 7 = .ok (.ifCond .eq 23, 3) := by decide +kernel
theorem d_K_box_10 : decode b_K_box 10 = .ok (.iload_n 2, 1) := by decide +kernel
theorem d_K_box_11 : decode b_K_box 11 = .ok (.iconst 0, 1) := by decide +kernel
theorem d_K_box_12 : decode b_K_box 12 = .ok (.ldc 87, 2) := by decide +kernel
theorem d_K_box_14 : decode b_K_box 14 = .ok (.invokestatic 83, 3) := by decide +kernel
theorem d_K_box_17 : decode b_K_box 17 = .ok (.ifCond .eq 13, 3) := by decide +kernel
theorem d_K_box_20 : decode b_K_box 20 = .ok (.iload_n 3, 1) := by decide +kernel
theorem d_K_box_21 : decode b_K_box 21 = .ok (.iconst 0, 1) := by decide +kernel
theorem d_K_box_22 : decode b_K_box 22 = .ok (.ldc 106, 2) := by decide +kernel
theorem d_K_box_24 : decode b_K_box 24 = .ok (.invokestatic 83, 3) := by decide +kernel
theorem d_K_box_27 : decode b_K_box 27 = .ok (.ifCond .ne 7, 3) := by decide +kernel
theorem d_K_box_30 : decode b_K_box 30 = .ok (.iconst 1, 1) := by decide +kernel
theorem d_K_box_31 : decode b_K_box 31 = .ok (.goto 17, 3) := by decide +kernel
theorem d_K_box_34 : decode b_K_box 34 = .ok (.aload_n 0, 1) := by decide +kernel
theorem d_K_box_35 : decode b_K_box 35 = .ok (.getfield 63, 3) := by decide +kernel
theorem d_K_box_38 : decode b_K_box 38 = .ok (.bipush 60, 2) := by decide +kernel
theorem d_K_box_40 : decode b_K_box 40 = .ok (.if_icmp .ne 7, 3) := by decide +kernel
theorem d_K_box_43 : decode b_K_box 43 = .ok (.iconst 2, 1) := by decide +kernel
theorem d_K_box_44 : decode b_K_box 44 = .ok (.goto 4, 3) := by decide +kernel
theorem d_K_box_47 : decode b_K_box 47 = .ok (.iconst 0, 1) := by decide +kernel
theorem d_K_box_48 : decode b_K_box 48 = .ok (.putfield 56, 3) := by decide +kernel
theorem d_K_box_51 : decode b_K_box 51 = .ok (.aload_n 0, 1) := by decide +kernel
theorem d_K_box_52 : decode b_K_box 52 = .ok (.getfield 56, 3) := by decide +kernel
theorem d_K_box_55 : decode b_K_box 55 = .ok (.ifCond .le 5, 3) := by decide +kernel
theorem d_K_box_58 : decode b_K_box 58 = .ok (.iconst 0, 1) := by decide +kernel
theorem d_K_box_59 : decode b_K_box 59 = .ok (.ireturn, 1) := by decide +kernel
theorem d_K_box_60 : decode b_K_box 60 = .ok (.iconst 0, 1) := by decide +kernel
theorem d_K_box_61 : decode b_K_box 61 = .ok (.istore 4, 2) := by decide +kernel
theorem d_K_box_63 : decode b_K_box 63 = .ok (.iload 4, 2) := by decide +kernel
theorem d_K_box_65 : decode b_K_box 65 = .ok (.aload_n 0, 1) := by decide +kernel
theorem d_K_box_66 : decode b_K_box 66 = .ok (.getfield 63, 3) := by decide +kernel
theorem d_K_box_69 : decode b_K_box 69 = .ok (.if_icmp .ge 33, 3) := by decide +kernel
theorem d_K_box_72 : decode b_K_box 72 = .ok (.aload_n 0, 1) := by decide +kernel
theorem d_K_box_73 : decode b_K_box 73 = .ok (.getfield 34, 3) := by decide +kernel
theorem d_K_box_76 : decode b_K_box 76 = .ok (.iload 4, 2) := by decide +kernel
theorem d_K_box_78 : decode b_K_box 78 = .ok (.iaload, 1) := by decide +kernel
theorem d_K_box_79 : decode b_K_box 79 = .ok (.iload_n 1, 1) := by decide +kernel
theorem d_K_box_80 : decode b_K_box 80 = .ok (.if_icmp .ne 16, 3) := by decide +kernel
theorem d_K_box_83 : decode b_K_box 83 = .ok (.aload_n 0, 1) := by decide +kernel
theorem d_K_box_84 : decode b_K_box 84 = .ok (.getfield 37, 3) := by decide +kernel
theorem d_K_box_87 : decode b_K_box 87 = .ok (.iload 4, 2) := by decide +kernel
theorem d_K_box_89 : decode b_K_box 89 = .ok (.iaload, 1) := by decide +kernel
theorem d_K_box_90 : decode b_K_box 90 = .ok (.iload_n 2, 1) := by decide +kernel
theorem d_K_box_91 : decode b_K_box 91 = .ok (.if_icmp .ne 5, 3) := by decide +kernel
theorem d_K_box_94 : decode b_K_box 94 = .ok (.iconst (-1), 1) := by decide +kernel
theorem d_K_box_95 : decode b_K_box 95 = .ok (.ireturn, 1) := by decide +kernel
theorem d_K_box_96 : decode b_K_box 96 = .ok (.iinc 4 1, 3) := by decide +kernel
theorem d_K_box_99 : decode b_K_box 99 = .ok (.goto (-36), 3) := by decide +kernel
theorem d_K_box_102 : decode b_K_box 102 = .ok (.aload_n 0, 1) := by decide +kernel
theorem d_K_box_103 : decode b_K_box 103 = .ok (.getfield 34, 3) := by decide +kernel
theorem d_K_box_106 : decode b_K_box 106 = .ok (.aload_n 0, 1) := by decide +kernel
theorem d_K_box_107 : decode b_K_box 107 = .ok (.getfield 63, 3) := by decide +kernel
theorem d_K_box_110 : decode b_K_box 110 = .ok (.iload_n 1, 1) := by decide +kernel
theorem d_K_box_111 : decode b_K_box 111 = .ok (.iastore, 1) := by decide +kernel
theorem d_K_box_112 : decode b_K_box 112 = .ok (.aload_n 0, 1) := by decide +kernel
theorem d_K_box_113 : decode b_K_box 113 = .ok (.getfield 37, 3) := by decide +kernel
theorem d_K_box_116 : decode b_K_box 116 = .ok (.aload_n 0, 1) := by decide +kernel
theorem d_K_box_117 : decode b_K_box 117 = .ok (.getfield 63, 3) := by decide +kernel
theorem d_K_box_120 : decode b_K_box 120 = .ok (.iload_n 2, 1) := by decide +kernel
theorem d_K_box_121 : decode b_K_box 121 = .ok (.iastore, 1) := by decide +kernel
theorem d_K_box_122 : decode b_K_box 122 = .ok (.aload_n 0, 1) := by decide +kernel
theorem d_K_box_123 : decode b_K_box 123 = .ok (.getfield 40, 3) := by decide +kernel
theorem d_K_box_126 : decode b_K_box 126 = .ok (.aload_n 0, 1) := by decide +kernel
theorem d_K_box_127 : decode b_K_box 127 = .ok (.getfield 63, 3) := by decide +kernel
theorem d_K_box_130 : decode b_K_box 130 = .ok (.iload_n 3, 1) := by decide +kernel
theorem d_K_box_131 : decode b_K_box 131 = .ok (.iastore, 1) := by decide +kernel
theorem d_K_box_132 : decode b_K_box 132 = .ok (.aload_n 0, 1) := by decide +kernel
theorem d_K_box_133 : decode b_K_box 133 = .ok (.getfield 43, 3) := by decide +kernel
theorem d_K_box_136 : decode b_K_box 136 = .ok (.aload_n 0, 1) := by decide +kernel
theorem d_K_box_137 : decode b_K_box 137 = .ok (.getfield 63, 3) := by decide +kernel
theorem d_K_box_140 : decode b_K_box 140 = .ok (.iconst (-1), 1) := by decide +kernel
theorem d_K_box_141 : decode b_K_box 141 = .ok (.iastore, 1) := by decide +kernel
theorem d_K_box_142 : decode b_K_box 142 = .ok (.aload_n 0, 1) := by decide +kernel
theorem d_K_box_143 : decode b_K_box 143 = .ok (.getfield 46, 3) := by decide +kernel
theorem d_K_box_146 : decode b_K_box 146 = .ok (.aload_n 0, 1) := by decide +kernel
theorem d_K_box_147 : decode b_K_box 147 = .ok (.getfield 63, 3) := by decide +kernel
theorem d_K_box_150 : decode b_K_box 150 = .ok (.iconst (-1), 1) := by decide +kernel
theorem d_K_box_151 : decode b_K_box 151 = .ok (.iastore, 1) := by decide +kernel
theorem d_K_box_152 : decode b_K_box 152 = .ok (.aload_n 0, 1) := by decide +kernel
theorem d_K_box_153 : decode b_K_box 153 = .ok (.getfield 49, 3) := by decide +kernel
theorem d_K_box_156 : decode b_K_box 156 = .ok (.aload_n 0, 1) := by decide +kernel
theorem d_K_box_157 : decode b_K_box 157 = .ok (.getfield 63, 3) := by decide +kernel
theorem d_K_box_160 : decode b_K_box 160 = .ok (.iconst (-1), 1) := by decide +kernel
theorem d_K_box_161 : decode b_K_box 161 = .ok (.iastore, 1) := by decide +kernel
theorem d_K_box_162 : decode b_K_box 162 = .ok (.aload_n 0, 1) := by decide +kernel
theorem d_K_box_163 : decode b_K_box 163 = .ok (.dup, 1) := by decide +kernel
theorem d_K_box_164 : decode b_K_box 164 = .ok (.getfield 63, 3) := by decide +kernel
theorem d_K_box_167 : decode b_K_box 167 = .ok (.iconst 1, 1) := by decide +kernel
theorem d_K_box_168 : decode b_K_box 168 = .ok (.iadd, 1) := by decide +kernel
theorem d_K_box_169 : decode b_K_box 169 = .ok (.putfield 63, 3) := by decide +kernel
theorem d_K_box_172 : decode b_K_box 172 = .ok (.aload_n 0, 1) := by decide +kernel
theorem d_K_box_173 : decode b_K_box 173 = .ok (.getfield 63, 3) := by decide +kernel
theorem d_K_box_176 : decode b_K_box 176 = .ok (.iconst 1, 1) := by decide +kernel
theorem d_K_box_177 : decode b_K_box 177 = .ok (.isub, 1) := by decide +kernel
theorem d_K_box_178 : decode b_K_box 178 = .ok (.ireturn, 1) := by decide +kernel
theorem d_K_on_0 : decode b_K_on 0 = .ok (.aload_n 0, 1) := by decide +kernel
theorem d_K_on_1 : decode b_K_on 1 = .ok (.iconst 0, 1) := by decide +kernel
theorem d_K_on_2 : decode b_K_on 2 = .ok (.putfield 56, 3) := by decide +kernel
theorem d_K_on_5 : decode b_K_on 5 = .ok (.aload_n 0, 1) := by decide +kernel
theorem d_K_on_6 : decode b_K_on 6 = .ok (.iload_n 1, 1) := by decide +kernel
theorem d_K_on_7 : decode b_K_on 7 = .ok (.invokevirtual 110, 3) := by decide +kernel
theorem d_K_on_10 : decode b_K_on 10 = .ok (.ifCond .eq 53, 3) := by decide +kernel
theorem d_K_on_13 : decode b_K_on 13 = .ok (.aload_n 0, 1) := by decide +kernel
theorem d_K_on_14 : decode b_K_on 14 = .ok (.iload_n 2, 1) := by decide +kernel
theorem d_K_on_15 : decode b_K_on 15 = .ok (.invokevirtual 92, 3) := by decide +kernel
theorem d_K_on_18 : decode b_K_on 18 = .ok (.ifCond .eq 45, 3) := by decide +kernel
theorem d_K_on_21 : decode b_K_on 21 = .ok (.aload_n 0, 1) := by decide +kernel
theorem d_K_on_22 : decode b_K_on 22 = .ok (.getfield 34, 3) := by decide +kernel
theorem d_K_on_25 : decode b_K_on 25 = .ok (.iload_n 1, 1) := by decide +kernel
theorem d_K_on_26 : decode b_K_on 26 = .ok (.iaload, 1) := by decide +kernel
theorem d_K_on_27 : decode b_K_on 27 = .ok (.aload_n 0, 1) := by decide +kernel
theorem d_K_on_28 : decode b_K_on 28 = .ok (.getfield 7, 3) := by decide +kernel
theorem d_K_on_31 : decode b_K_on 31 = .ok (.iload_n 2, 1) := by decide +kernel
theorem d_K_on_32 : decode b_K_on 32 = .ok (.iaload, 1) := by decide +kernel
theorem d_K_on_33 : decode b_K_on 33 = .ok (.if_icmp .ne 30, 3) := by decide +kernel
theorem d_K_on_36 : decode b_K_on 36 = .ok (.aload_n 0, 1) := by decide +kernel
theorem d_K_on_37 : decode b_K_on 37 = .ok (.iload_n 1, 1) := by decide +kernel
theorem d_K_on_38 : decode b_K_on 38 = .ok (.iload_n 2, 1) := by decide +kernel
theorem d_K_on_39 : decode b_K_on 39 = .ok (.invokevirtual 76, 3) := by decide +kernel
theorem d_K_on_42 : decode b_K_on 42 = .ok (.ifCond .ne 21, 3) := by decide +kernel
theorem d_K_on_45 : decode b_K_on 45 = .ok (.aload_n 0, 1) := by decide +kernel
theorem d_K_on_46 : decode b_K_on 46 = .ok (.iload_n 1, 1) := by decide +kernel
theorem d_K_on_47 : decode b_K_on 47 = .ok (.invokevirtual 80, 3) := by decide +kernel
theorem d_K_on_50 : decode b_K_on 50 = .ok (.iconst 4, 1) := by decide +kernel
theorem d_K_on_51 : decode b_K_on 51 = .ok (.if_icmp .eq 12, 3) := by decide +kernel
theorem d_K_on_54 : decode b_K_on 54 = .ok (.aload_n 0, 1) := by decide +kernel
theorem d_K_on_55 : decode b_K_on 55 = .ok (.getfield 46, 3) := by decide +kernel
theorem d_K_on_58 : decode b_K_on 58 = .ok (.iload_n 1, 1) := by decide +kernel
theorem d_K_on_59 : decode b_K_on 59 = .ok (.iaload, 1) := by decide +kernel
theorem d_K_on_60 : decode b_K_on 60 = .ok (.ifCond .lt 5, 3) := by decide +kernel
theorem d_K_on_63 : decode b_K_on 63 = .ok (.iconst 0, 1) := by decide +kernel
theorem d_K_on_64 : decode b_K_on 64 = .ok (.ireturn, 1) := by decide +kernel
theorem d_K_on_65 : decode b_K_on 65 = .ok (.aload_n 0, 1) := by decide +kernel
theorem d_K_on_66 : decode b_K_on 66 = .ok (.getfield 52, 3) := by decide +kernel
theorem d_K_on_69 : decode b_K_on 69 = .ok (.bipush 60, 2) := by decide +kernel
theorem d_K_on_71 : decode b_K_on 71 = .ok (.iload_n 1, 1) := by decide +kernel
theorem d_K_on_72 : decode b_K_on 72 = .ok (.imul, 1) := by decide +kernel
theorem d_K_on_73 : decode b_K_on 73 = .ok (.iload_n 2, 1) := by decide +kernel
theorem d_K_on_74 : decode b_K_on 74 = .ok (.iadd, 1) := by decide +kernel
theorem d_K_on_75 : decode b_K_on 75 = .ok (.iconst 1, 1) := by decide +kernel
theorem d_K_on_76 : decode b_K_on 76 = .ok (.bastore, 1) := by decide +kernel
theorem d_K_on_77 : decode b_K_on 77 = .ok (.iconst 1, 1) := by decide +kernel
theorem d_K_on_78 : decode b_K_on 78 = .ok (.ireturn, 1) := by decide +kernel
theorem d_K_land_0 : decode b_K_land 0 = .ok (.aload_n 0, 1) := by decide +kernel
theorem d_K_land_1 : decode b_K_land 1 = .ok (.iconst 0, 1) := by decide +kernel
theorem d_K_land_2 : decode b_K_land 2 = .ok (.putfield 56, 3) := by decide +kernel
theorem d_K_land_5 : decode b_K_land 5 = .ok (.aload_n 0, 1) := by decide +kernel
theorem d_K_land_6 : decode b_K_land 6 = .ok (.iload_n 1, 1) := by decide +kernel
theorem d_K_land_7 : decode b_K_land 7 = .ok (.invokevirtual 110, 3) := by decide +kernel
theorem d_K_land_10 : decode b_K_land 10 = .ok (.ifCond .eq 22, 3) := by decide +kernel
theorem d_K_land_13 : decode b_K_land 13 = .ok (.aload_n 0, 1) := by decide +kernel
theorem d_K_land_14 : decode b_K_land 14 = .ok (.getfield 43, 3) := by decide +kernel
theorem d_K_land_17 : decode b_K_land 17 = .ok (.iload_n 1, 1) := by decide +kernel
theorem d_K_land_18 : decode b_K_land 18 = .ok (.iaload, 1) := by decide +kernel
theorem d_K_land_19 : decode b_K_land 19 = .ok (.ifCond .ge 13, 3) := by decide +kernel
theorem d_K_land_22 : decode b_K_land 22 = .ok (.iload_n 2, 1) := by decide +kernel
theorem d_K_land_23 : decode b_K_land 23 = .ok (.iconst 0, 1) := by decide +kernel
theorem d_K_land_24 : decode b_K_land 24 = .ok (.ldc 106, 2) := by decide +kernel
theorem d_K_land_26 : decode b_K_land 26 = .ok (.invokestatic 83, 3) := by decide +kernel
theorem d_K_land_29 : decode b_K_land 29 = .ok (.ifCond .ne 5, 3) := by decide +kernel
theorem d_K_land_32 : decode b_K_land 32 = .ok (.iconst 0, 1) := by decide +kernel
theorem d_K_land_33 : decode b_K_land 33 = .ok (.ireturn, 1) := by decide +kernel
theorem d_K_land_34 : decode b_K_land 34 = .ok (.aload_n 0, 1) := by decide +kernel
theorem d_K_land_35 : decode b_K_land 35 = .ok (.getfield 43, 3) := by decide +kernel
theorem d_K_land_38 : decode b_K_land 38 = .ok (.iload_n 1, 1) := by decide +kernel
theorem d_K_land_39 : decode b_K_land 39 = .ok (.iload_n 2, 1) := by decide +kernel
theorem d_K_land_40 : decode b_K_land 40 = .ok (.iastore, 1) := by decide +kernel
theorem d_K_land_41 : decode b_K_land 41 = .ok (.iconst 1, 1) := by decide +kernel
theorem d_K_land_42 : decode b_K_land 42 = .ok (.ireturn, 1) := by decide +kernel
theorem d_K_arrive_0 : decode b_K_arrive 0 = .ok (.aload_n 0, 1) := by decide +kernel
theorem d_K_arrive_1 : decode b_K_arrive 1 = .ok (.iconst 0, 1) := by decide +kernel
theorem d_K_arrive_2 : decode b_K_arrive 2 = .ok (.putfield 56, 3) := by decide +kernel
theorem d_K_arrive_5 : decode b_K_arrive 5 = .ok (.iload_n 1, 1) := by decide +kernel
theorem d_K_arrive_6 : decode b_K_arrive 6 = .ok (.iconst 0, 1) := by decide +kernel
theorem d_K_arrive_7 : decode b_K_arrive 7 = .ok (.iconst 3, 1) := by decide +kernel
theorem d_K_arrive_8 : decode b_K_arrive 8 = .ok (.invokestatic 83, 3) := by decide +kernel
theorem d_K_arrive_11 : decode b_K_arrive 11 = .ok (.ifCond .eq 15, 3) := by decide +kernel
theorem d_K_arrive_14 : decode b_K_arrive 14 = .ok (.aload_n 0, 1) := by decide +kernel
theorem d_K_arrive_15 : decode b_K_arrive 15 = .ok (.getfield 113, 3) := by decide +kernel
theorem d_K_arrive_18 : decode b_K_arrive 18 = .ok (.iload_n 1, 1) := by decide +kernel
theorem d_K_arrive_19 : decode b_K_arrive 19 = .ok (.ishr, 1) := by decide +kernel
theorem d_K_arrive_20 : decode b_K_arrive 20 = .ok (.iconst 1, 1) := by decide +kernel
theorem d_K_arrive_21 : decode b_K_arrive 21 = .ok (.iand, 1) := by decide +kernel
theorem d_K_arrive_22 : decode b_K_arrive 22 = .ok (.iconst 1, 1) := by decide +kernel
theorem d_K_arrive_23 : decode b_K_arrive 23 = .ok (.if_icmp .ne 5, 3) := by decide +kernel
theorem d_K_arrive_26 : decode b_K_arrive 26 = .ok (.iconst 0, 1) := by decide +kernel
theorem d_K_arrive_27 : decode b_K_arrive 27 = .ok (.ireturn, 1) := by decide +kernel
theorem d_K_arrive_28 : decode b_K_arrive 28 = .ok (.aload_n 0, 1) := by decide +kernel
theorem d_K_arrive_29 : decode b_K_arrive 29 = .ok (.dup, 1) := by decide +kernel
theorem d_K_arrive_30 : decode b_K_arrive 30 = .ok (.getfield 113, 3) := by decide +kernel
theorem d_K_arrive_33 : decode b_K_arrive 33 = .ok (.iconst 1, 1) := by decide +kernel
theorem d_K_arrive_34 : decode b_K_arrive 34 = .ok (.iload_n 1, 1) := by decide +kernel
theorem d_K_arrive_35 : decode b_K_arrive 35 = .ok (.ishl, 1) := by decide +kernel
theorem d_K_arrive_36 : decode b_K_arrive 36 = .ok (.ior, 1) := by decide +kernel
theorem d_K_arrive_37 : decode b_K_arrive 37 = .ok (.putfield 113, 3) := by decide +kernel
theorem d_K_arrive_40 : decode b_K_arrive 40 = .ok (.iconst 1, 1) := by decide +kernel
theorem d_K_arrive_41 : decode b_K_arrive 41 = .ok (.ireturn, 1) := by decide +kernel
theorem d_K_lineAt_0 : decode b_K_lineAt 0 = .ok (.iload_n 2, 1) := by decide +kernel
theorem d_K_lineAt_1 : decode b_K_lineAt 1 = .ok (.istore_n 3, 1) := by decide +kernel
theorem d_K_lineAt_2 : decode b_K_lineAt 2 = .ok (.iconst 0, 1) := by decide +kernel
theorem d_K_lineAt_3 : decode b_K_lineAt 3 = .ok (.istore 4, 2) := by decide +kernel
theorem d_K_lineAt_5 : decode b_K_lineAt 5 = .ok (.aload_n 0, 1) := by decide +kernel
theorem d_K_lineAt_6 : decode b_K_lineAt 6 = .ok (.getfield 25, 3) := by decide +kernel
theorem d_K_lineAt_9 : decode b_K_lineAt 9 = .ok (.iload 4, 2) := by decide +kernel
theorem d_K_lineAt_11 : decode b_K_lineAt 11 = .ok (.iaload, 1) := by decide +kernel
theorem d_K_lineAt_12 : decode b_K_lineAt 12 = .ok (.iload_n 1, 1) := by decide +kernel
theorem d_K_lineAt_13 : decode b_K_lineAt 13 = .ok (.if_icmp .ne 7, 3) := by decide +kernel
theorem d_K_lineAt_16 : decode b_K_lineAt 16 = .ok (.iload_n 3, 1) := by decide +kernel
theorem d_K_lineAt_17 : decode b_K_lineAt 17 = .ok (.ifCond .le 28, 3) := by decide +kernel
theorem d_K_lineAt_20 : decode b_K_lineAt 20 = .ok (.iload_n 3, 1) := by decide +kernel
theorem d_K_lineAt_21 : decode b_K_lineAt 21 = .ok (.aload_n 0, 1) := by decide +kernel
theorem d_K_lineAt_22 : decode b_K_lineAt 22 = .ok (.getfield 25, 3) := by decide +kernel
theorem d_K_lineAt_25 : decode b_K_lineAt 25 = .ok (.iload 4, 2) := by decide +kernel
theorem d_K_lineAt_27 : decode b_K_lineAt 27 = .ok (.iaload, 1) := by decide +kernel
theorem d_K_lineAt_28 : decode b_K_lineAt 28 = .ok (.iload_n 1, 1) := by decide +kernel
theorem d_K_lineAt_29 : decode b_K_lineAt 29 = .ok (.if_icmp .ne 7, 3) := by decide +kernel
theorem d_K_lineAt_32 : decode b_K_lineAt 32 = .ok (.iconst 1, 1) := by decide +kernel
theorem d_K_lineAt_33 : decode b_K_lineAt 33 = .ok (.goto 4, 3) := by decide +kernel
theorem d_K_lineAt_36 : decode b_K_lineAt 36 = .ok (.iconst 0, 1) := by decide +kernel
theorem d_K_lineAt_37 : decode b_K_lineAt 37 = .ok (.isub, 1) := by decide +kernel
theorem d_K_lineAt_38 : decode b_K_lineAt 38 = .ok (.istore_n 3, 1) := by decide +kernel
theorem d_K_lineAt_39 : decode b_K_lineAt 39 = .ok (.iinc 4 1, 3) := by decide +kernel
theorem d_K_lineAt_42 : decode b_K_lineAt 42 = .ok (.goto (-37), 3) := by decide +kernel
theorem d_K_lineAt_45 : decode b_K_lineAt 45 = .ok (.iload 4, 2) := by decide +kernel
theorem d_K_lineAt_47 : decode b_K_lineAt 47 = .ok (.ireturn, 1) := by decide +kernel
theorem d_K_amend_0 : decode b_K_amend 0 = .ok (.aload_n 0, 1) := by decide +kernel
theorem d_K_amend_1 : decode b_K_amend 1 = .ok (.aload_n 0, 1) := by decide +kernel
theorem d_K_amend_2 : decode b_K_amend 2 = .ok (.iload_n 1, 1) := by decide +kernel
theorem d_K_amend_3 : decode b_K_amend 3 = .ok (.invokevirtual 92, 3) := by decide +kernel
theorem d_K_amend_6 : decode b_K_amend 6 = .ok (.ifCond .eq 30, 3) := by decide +kernel
theorem d_K_amend_9 : decode b_K_amend 9 = .ok (.iload_n 2, 1) := by decide +kernel
theorem d_K_amend_10 : decode b_K_amend 10 = .ok (.ifCond .lt 26, 3) := by decide +kernel
theorem d_K_amend_13 : decode b_K_amend 13 = .ok (.iload_n 2, 1) := by decide +kernel
theorem d_K_amend_14 : decode b_K_amend 14 = .ok (.aload_n 0, 1) := by decide +kernel
theorem d_K_amend_15 : decode b_K_amend 15 = .ok (.iload_n 1, 1) := by decide +kernel
theorem d_K_amend_16 : decode b_K_amend 16 = .ok (.invokevirtual 103, 3) := by decide +kernel
theorem d_K_amend_19 : decode b_K_amend 19 = .ok (.if_icmp .ge 17, 3) := by decide +kernel
theorem d_K_amend_22 : decode b_K_amend 22 = .ok (.iload_n 3, 1) := by decide +kernel
theorem d_K_amend_23 : decode b_K_amend 23 = .ok (.iconst 0, 1) := by decide +kernel
theorem d_K_amend_24 : decode b_K_amend 24 = .ok (.ldc 106, 2) := by decide +kernel
theorem d_K_amend_26 : decode b_K_amend 26 = .ok (.invokestatic 83, 3) := by decide +kernel
theorem d_K_amend_29 : decode b_K_amend 29 = .ok (.ifCond .eq 7, 3) := by decide +kernel
theorem d_K_amend_32 : decode b_K_amend 32 = .ok (.iconst 0, 1) := by decide +kernel
theorem d_K_amend_33 : decode b_K_amend 33 = .ok (.goto 4, 3) := by decide +kernel
theorem d_K_amend_36 : decode b_K_amend 36 = .ok (.iconst 1, 1) := by decide +kernel
theorem d_K_amend_37 : decode b_K_amend 37 = .ok (.putfield 56, 3) := by decide +kernel
theorem d_K_amend_40 : decode b_K_amend 40 = .ok (.aload_n 0, 1) := by decide +kernel
theorem d_K_amend_41 : decode b_K_amend 41 = .ok (.getfield 56, 3) := by decide +kernel
theorem d_K_amend_44 : decode b_K_amend 44 = .ok (.ifCond .le 5, 3) := by decide +kernel
theorem d_K_amend_47 : decode b_K_amend 47 = .ok (.iconst 0, 1) := by decide +kernel
theorem d_K_amend_48 : decode b_K_amend 48 = .ok (.ireturn, 1) := by decide +kernel
theorem d_K_amend_49 : decode b_K_amend 49 = .ok (.aload_n 0, 1) := by decide +kernel
theorem d_K_amend_50 : decode b_K_amend 50 = .ok (.iload_n 1, 1) := by decide +kernel
theorem d_K_amend_51 : decode b_K_amend 51 = .ok (.iload_n 2, 1) := by decide +kernel
theorem d_K_amend_52 : decode b_K_amend 52 = .ok (.invokevirtual 116, 3) := by decide +kernel
theorem d_K_amend_55 : decode b_K_amend 55 = .ok (.istore 4, 2) := by decide +kernel
theorem d_K_amend_57 : decode b_K_amend 57 = .ok (.iload_n 3, 1) := by decide +kernel
theorem d_K_amend_58 : decode b_K_amend 58 = .ok (.aload_n 0, 1) := by decide +kernel
theorem d_K_amend_59 : decode b_K_amend 59 = .ok (.getfield 28, 3) := by decide +kernel
theorem d_K_amend_62 : decode b_K_amend 62 = .ok (.iload 4, 2) := by decide +kernel
theorem d_K_amend_64 : decode b_K_amend 64 = .ok (.iaload, 1) := by decide +kernel
theorem d_K_amend_65 : decode b_K_amend 65 = .ok (.if_icmp .le 15, 3) := by decide +kernel
theorem d_K_amend_68 : decode b_K_amend 68 = .ok (.iload_n 3, 1) := by decide +kernel
theorem d_K_amend_69 : decode b_K_amend 69 = .ok (.aload_n 0, 1) := by decide +kernel
theorem d_K_amend_70 : decode b_K_amend 70 = .ok (.getfield 28, 3) := by decide +kernel
theorem d_K_amend_73 : decode b_K_amend 73 = .ok (.iload 4, 2) := by decide +kernel
theorem d_K_amend_75 : decode b_K_amend 75 = .ok (.iaload, 1) := by decide +kernel
theorem d_K_amend_76 : decode b_K_amend 76 = .ok (.isub, 1) := by decide +kernel
theorem d_K_amend_77 : decode b_K_amend 77 = .ok (.goto 12, 3) := by decide +kernel
theorem d_K_amend_80 : decode b_K_amend 80 = .ok (.aload_n 0, 1) := by decide +kernel
theorem d_K_amend_81 : decode b_K_amend 81 = .ok (.getfield 28, 3) := by decide +kernel
theorem d_K_amend_84 : decode b_K_amend 84 = .ok (.iload 4, 2) := by decide +kernel
theorem d_K_amend_86 : decode b_K_amend 86 = .ok (.iaload, 1) := by decide +kernel
theorem d_K_amend_87 : decode b_K_amend 87 = .ok (.iload_n 3, 1) := by decide +kernel
theorem d_K_amend_88 : decode b_K_amend 88 = .ok (.isub, 1) := by decide +kernel
theorem d_K_amend_89 : decode b_K_amend 89 = .ok (.istore 5, 2) := by decide +kernel
theorem d_K_amend_91 : decode b_K_amend 91 = .ok (.aload_n 0, 1) := by decide +kernel
theorem d_K_amend_92 : decode b_K_amend 92 = .ok (.getfield 28, 3) := by decide +kernel
theorem d_K_amend_95 : decode b_K_amend 95 = .ok (.iload 4, 2) := by decide +kernel
theorem d_K_amend_97 : decode b_K_amend 97 = .ok (.iload_n 3, 1) := by decide +kernel
theorem d_K_amend_98 : decode b_K_amend 98 = .ok (.iastore, 1) := by decide +kernel
theorem d_K_amend_99 : decode b_K_amend 99 = .ok (.iload 5, 2) := by decide +kernel
theorem d_K_amend_101 : decode b_K_amend 101 = .ok (.ifCond .le 32, 3) := by decide +kernel
theorem d_K_amend_104 : decode b_K_amend 104 = .ok (.aload_n 0, 1) := by decide +kernel
theorem d_K_amend_105 : decode b_K_amend 105 = .ok (.getfield 113, 3) := by decide +kernel
theorem d_K_amend_108 : decode b_K_amend 108 = .ok (.aload_n 0, 1) := by decide +kernel
theorem d_K_amend_109 : decode b_K_amend 109 = .ok (.getfield 7, 3) := by decide +kernel
theorem d_K_amend_112 : decode b_K_amend 112 = .ok (.iload_n 1, 1) := by decide +kernel
theorem d_K_amend_113 : decode b_K_amend 113 = .ok (.iaload, 1) := by decide +kernel
theorem d_K_amend_114 : decode b_K_amend 114 = .ok (.ishr, 1) := by decide +kernel
theorem d_K_amend_115 : decode b_K_amend 115 = .ok (.iconst 1, 1) := by decide +kernel
theorem d_K_amend_116 : decode b_K_amend 116 = .ok (.iand, 1) := by decide +kernel
theorem d_K_amend_117 : decode b_K_amend 117 = .ok (.iconst 1, 1) := by decide +kernel
theorem d_K_amend_118 : decode b_K_amend 118 = .ok (.if_icmp .ne 15, 3) := by decide +kernel
theorem d_K_amend_121 : decode b_K_amend 121 = .ok (.bipush 100, 2) := by decide +kernel
theorem d_K_amend_123 : decode b_K_amend 123 = .ok (.iload 5, 2) := by decide +kernel
theorem d_K_amend_125 : decode b_K_amend 125 = .ok (.sipush 1000, 3) := by decide +kernel
theorem d_K_amend_128 : decode b_K_amend 128 = .ok (.idiv, 1) := by decide +kernel
theorem d_K_amend_129 : decode b_K_amend 129 = .ok (.iadd, 1) := by decide +kernel
theorem d_K_amend_130 : decode b_K_amend 130 = .ok (.goto 4, 3) := by decide +kernel
theorem d_K_amend_133 : decode b_K_amend 133 = .ok (.iconst 0, 1) := by decide +kernel
theorem d_K_amend_134 : decode b_K_amend 134 = .ok (.istore 6, 2) := by decide +kernel
theorem d_K_amend_136 : decode b_K_amend 136 = .ok (.aload_n 0, 1) := by decide +kernel
theorem d_K_amend_137 : decode b_K_amend 137 = .ok (.dup, 1) := by decide +kernel
theorem d_K_amend_138 : decode b_K_amend 138 = .ok (.getfield 119, 3) := by decide +kernel
