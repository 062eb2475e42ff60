theorem d_K_amend_141 : decode b_K_amend 141 = .ok (.iload 6, 2) := by decide +kernel
theorem d_K_amend_143 : decode b_K_amend 143 = .ok (.iadd, 1) := by decide +kernel
theorem d_K_amend_144 : decode b_K_amend 144 = .ok (.putfield 119, 3) := by decide +kernel
theorem d_K_amend_147 : decode b_K_amend 147 = .ok (.iload 6, 2) := by decide +kernel
theorem d_K_amend_149 : decode b_K_amend 149 = .ok (.ireturn, 1) := by decide +kernel
theorem d_K_isHolder_0 : decode b_K_isHolder 0 = .ok (.iload_n 0, 1) := by decide +kernel
theorem d_K_isHolder_1 : decode b_K_isHolder 1 = .ok (.iconst 0, 1) := by decide +kernel
theorem d_K_isHolder_2 : decode b_K_isHolder 2 = .ok (.bipush 9, 2) := by decide +kernel
theorem d_K_isHolder_4 : decode b_K_isHolder 4 = .ok (.invokestatic 83, 3) := by decide +kernel
theorem d_K_isHolder_7 : decode b_K_isHolder 7 = .ok (.ireturn, 1) := by decide +kernel
theorem d_K_title_0 : decode b_K_title 0 = .ok (.aload_n 0, 1) := by decide +kernel
theorem d_K_title_1 : decode b_K_title 1 = .ok (.aload_n 0, 1) := by decide +kernel
theorem d_K_title_2 : decode b_K_title 2 = .ok (.iload_n 1, 1) := by decide +kernel
theorem d_K_title_3 : decode b_K_title 3 = .ok (.invokevirtual 92, 3) := by decide +kernel
theorem d_K_title_6 : decode b_K_title 6 = .ok (.ifCond .eq 26, 3) := by decide +kernel
theorem d_K_title_9 : decode b_K_title 9 = .ok (.iload_n 2, 1) := by decide +kernel
theorem d_K_title_10 : decode b_K_title 10 = .ok (.invokestatic 122, 3) := by decide +kernel
theorem d_K_title_13 : decode b_K_title 13 = .ok (.ifCond .eq 19, 3) := by decide +kernel
theorem d_K_title_16 : decode b_K_title 16 = .ok (.iload_n 3, 1) := by decide +kernel
theorem d_K_title_17 : decode b_K_title 17 = .ok (.invokestatic 122, 3) := by decide +kernel
theorem d_K_title_20 : decode b_K_title 20 = .ok (.ifCond .eq 12, 3) := by decide +kernel
theorem d_K_title_23 : decode b_K_title 23 = .ok (.iload_n 2, 1) := by decide +kernel
theorem d_K_title_24 : decode b_K_title 24 = .ok (.iload_n 3, 1) := by decide +kernel
theorem d_K_title_25 : decode b_K_title 25 = .ok (.if_icmp .eq 7, 3) := by decide +kernel
theorem d_K_title_28 : decode b_K_title 28 = .ok (.iconst 0, 1) := by decide +kernel
theorem d_K_title_29 : decode b_K_title 29 = .ok (.goto 4, 3) := by decide +kernel
theorem d_K_title_32 : decode b_K_title 32 = .ok (.iconst 1, 1) := by decide +kernel
theorem d_K_title_33 : decode b_K_title 33 = .ok (.putfield 56, 3) := by decide +kernel
theorem d_K_title_36 : decode b_K_title 36 = .ok (.aload_n 0, 1) := by decide +kernel
theorem d_K_title_37 : decode b_K_title 37 = .ok (.getfield 56, 3) := by decide +kernel
theorem d_K_title_40 : decode b_K_title 40 = .ok (.ifCond .gt 22, 3) := by decide +kernel
theorem d_K_title_43 : decode b_K_title 43 = .ok (.aload_n 0, 1) := by decide +kernel
theorem d_K_title_44 : decode b_K_title 44 = .ok (.getfield 19, 3) := by decide +kernel
theorem d_K_title_47 : decode b_K_title 47 = .ok (.iload_n 1, 1) := by decide +kernel
theorem d_K_title_48 : decode b_K_title 48 = .ok (.iaload, 1) := by decide +kernel
theorem d_K_title_49 : decode b_K_title 49 = .ok (.iload_n 2, 1) := by decide +kernel
theorem d_K_title_50 : decode b_K_title 50 = .ok (.if_icmp .ne 12, 3) := by decide +kernel
theorem d_K_title_53 : decode b_K_title 53 = .ok (.aload_n 0, 1) := by decide +kernel
theorem d_K_title_54 : decode b_K_title 54 = .ok (.getfield 22, 3) := by decide +kernel
theorem d_K_title_57 : decode b_K_title 57 = .ok (.iload_n 1, 1) := by decide +kernel
theorem d_K_title_58 : decode b_K_title 58 = .ok (.iaload, 1) := by decide +kernel
theorem d_K_title_59 : decode b_K_title 59 = .ok (.ifCond .le 5, 3) := by decide +kernel
theorem d_K_title_62 : decode b_K_title 62 = .ok (.iconst 0, 1) := by decide +kernel
theorem d_K_title_63 : decode b_K_title 63 = .ok (.ireturn, 1) := by decide +kernel
theorem d_K_title_64 : decode b_K_title 64 = .ok (.aload_n 0, 1) := by decide +kernel
theorem d_K_title_65 : decode b_K_title 65 = .ok (.getfield 19, 3) := by decide +kernel
theorem d_K_title_68 : decode b_K_title 68 = .ok (.iload_n 1, 1) := by decide +kernel
theorem d_K_title_69 : decode b_K_title 69 = .ok (.iload_n 3, 1) := by decide +kernel
theorem d_K_title_70 : decode b_K_title 70 = .ok (.iastore, 1) := by decide +kernel
theorem d_K_title_71 : decode b_K_title 71 = .ok (.iconst 1, 1) := by decide +kernel
theorem d_K_title_72 : decode b_K_title 72 = .ok (.ireturn, 1) := by decide +kernel
theorem d_K_order_0 : decode b_K_order 0 = .ok (.aload_n 0, 1) := by decide +kernel
theorem d_K_order_1 : decode b_K_order 1 = .ok (.aload_n 0, 1) := by decide +kernel
theorem d_K_order_2 : decode b_K_order 2 = .ok (.iload_n 1, 1) := by decide +kernel
theorem d_K_order_3 : decode b_K_order 3 = .ok (.invokevirtual 92, 3) := by decide +kernel
theorem d_K_order_6 : decode b_K_order 6 = .ok (.ifCond .eq 22, 3) := by decide +kernel
theorem d_K_order_9 : decode b_K_order 9 = .ok (.aload_n 0, 1) := by decide +kernel
theorem d_K_order_10 : decode b_K_order 10 = .ok (.iload_n 2, 1) := by decide +kernel
theorem d_K_order_11 : decode b_K_order 11 = .ok (.invokevirtual 110, 3) := by decide +kernel
theorem d_K_order_14 : decode b_K_order 14 = .ok (.ifCond .eq 14, 3) := by decide +kernel
theorem d_K_order_17 : decode b_K_order 17 = .ok (.iload_n 3, 1) := by decide +kernel
theorem d_K_order_18 : decode b_K_order 18 = .ok (.invokestatic 122, 3) := by decide +kernel
theorem d_K_order_21 : decode b_K_order 21 = .ok (.ifCond .eq 7, 3) := by decide +kernel
theorem d_K_order_24 : decode b_K_order 24 = .ok (.iconst 0, 1) := by decide +kernel
theorem d_K_order_25 : decode b_K_order 25 = .ok (.goto 4, 3) := by decide +kernel
theorem d_K_order_28 : decode b_K_order 28 = .ok (.iconst 1, 1) := by decide +kernel
theorem d_K_order_29 : decode b_K_order 29 = .ok (.putfield 56, 3) := by decide +kernel
theorem d_K_order_32 : decode b_K_order 32 = .ok (.aload_n 0, 1) := by decide +kernel
theorem d_K_order_33 : decode b_K_order 33 = .ok (.getfield 56, 3) := by decide +kernel
theorem d_K_order_36 : decode b_K_order 36 = .ok (.ifCond .gt 40, 3) := by decide +kernel
theorem d_K_order_39 : decode b_K_order 39 = .ok (.aload_n 0, 1) := by decide +kernel
theorem d_K_order_40 : decode b_K_order 40 = .ok (.getfield 46, 3) := by decide +kernel
theorem d_K_order_43 : decode b_K_order 43 = .ok (.iload_n 2, 1) := by decide +kernel
theorem d_K_order_44 : decode b_K_order 44 = .ok (.iaload, 1) := by decide +kernel
theorem d_K_order_45 : decode b_K_order 45 = .ok (.ifCond .ge 31, 3) := by decide +kernel
theorem d_K_order_48 : decode b_K_order 48 = .ok (.aload_n 0, 1) := by decide +kernel
theorem d_K_order_49 : decode b_K_order 49 = .ok (.iload_n 2, 1) := by decide +kernel
theorem d_K_order_50 : decode b_K_order 50 = .ok (.iload_n 1, 1) := by decide +kernel
theorem d_K_order_51 : decode b_K_order 51 = .ok (.invokevirtual 76, 3) := by decide +kernel
theorem d_K_order_54 : decode b_K_order 54 = .ok (.ifCond .eq 22, 3) := by decide +kernel
theorem d_K_order_57 : decode b_K_order 57 = .ok (.aload_n 0, 1) := by decide +kernel
theorem d_K_order_58 : decode b_K_order 58 = .ok (.getfield 43, 3) := by decide +kernel
theorem d_K_order_61 : decode b_K_order 61 = .ok (.iload_n 2, 1) := by decide +kernel
theorem d_K_order_62 : decode b_K_order 62 = .ok (.iaload, 1) := by decide +kernel
theorem d_K_order_63 : decode b_K_order 63 = .ok (.ifCond .lt 13, 3) := by decide +kernel
theorem d_K_order_66 : decode b_K_order 66 = .ok (.aload_n 0, 1) := by decide +kernel
theorem d_K_order_67 : decode b_K_order 67 = .ok (.getfield 19, 3) := by decide +kernel
theorem d_K_order_70 : decode b_K_order 70 = .ok (.iload_n 1, 1) := by decide +kernel
theorem d_K_order_71 : decode b_K_order 71 = .ok (.iaload, 1) := by decide +kernel
theorem d_K_order_72 : decode b_K_order 72 = .ok (.iload_n 3, 1) := by decide +kernel
theorem d_K_order_73 : decode b_K_order 73 = .ok (.if_icmp .eq 5, 3) := by decide +kernel
theorem d_K_order_76 : decode b_K_order 76 = .ok (.iconst 0, 1) := by decide +kernel
theorem d_K_order_77 : decode b_K_order 77 = .ok (.ireturn, 1) := by decide +kernel
theorem d_K_order_78 : decode b_K_order 78 = .ok (.aload_n 0, 1) := by decide +kernel
theorem d_K_order_79 : decode b_K_order 79 = .ok (.getfield 46, 3) := by decide +kernel
theorem d_K_order_82 : decode b_K_order 82 = .ok (.iload_n 2, 1) := by decide +kernel
theorem d_K_order_83 : decode b_K_order 83 = .ok (.iload_n 1, 1) := by decide +kernel
theorem d_K_order_84 : decode b_K_order 84 = .ok (.iastore, 1) := by decide +kernel
theorem d_K_order_85 : decode b_K_order 85 = .ok (.aload_n 0, 1) := by decide +kernel
theorem d_K_order_86 : decode b_K_order 86 = .ok (.getfield 22, 3) := by decide +kernel
theorem d_K_order_89 : decode b_K_order 89 = .ok (.iload_n 1, 1) := by decide +kernel
theorem d_K_order_90 : decode b_K_order 90 = .ok (.dup2, 1) := by decide +kernel
theorem d_K_order_91 : decode b_K_order 91 = .ok (.iaload, 1) := by decide +kernel
theorem d_K_order_92 : decode b_K_order 92 = .ok (.iconst 1, 1) := by decide +kernel
theorem d_K_order_93 : decode b_K_order 93 = .ok (.iadd, 1) := by decide +kernel
theorem d_K_order_94 : decode b_K_order 94 = .ok (.iastore, 1) := by decide +kernel
theorem d_K_order_95 : decode b_K_order 95 = .ok (.aload_n 0, 1) := by decide +kernel
theorem d_K_order_96 : decode b_K_order 96 = .ok (.dup, 1) := by decide +kernel
theorem d_K_order_97 : decode b_K_order 97 = .ok (.getfield 125, 3) := by decide +kernel
theorem d_K_order_100 : decode b_K_order 100 = .ok (.iconst 1, 1) := by decide +kernel
theorem d_K_order_101 : decode b_K_order 101 = .ok (.iadd, 1) := by decide +kernel
theorem d_K_order_102 : decode b_K_order 102 = .ok (.putfield 125, 3) := by decide +kernel
theorem d_K_order_105 : decode b_K_order 105 = .ok (.iconst 1, 1) := by decide +kernel
theorem d_K_order_106 : decode b_K_order 106 = .ok (.ireturn, 1) := by decide +kernel
theorem d_K_split_0 : decode b_K_split 0 = .ok (.aload_n 0, 1) := by decide +kernel
theorem d_K_split_1 : decode b_K_split 1 = .ok (.aload_n 0, 1) := by decide +kernel
theorem d_K_split_2 : decode b_K_split 2 = .ok (.iload_n 1, 1) := by decide +kernel
theorem d_K_split_3 : decode b_K_split 3 = .ok (.invokevirtual 92, 3) := by decide +kernel
theorem d_K_split_6 : decode b_K_split 6 = .ok (.ifCond .eq 8, 3) := by decide +kernel
theorem d_K_split_9 : decode b_K_split 9 = .ok (.iload_n 2, 1) := by decide +kernel
theorem d_K_split_10 : decode b_K_split 10 = .ok (.iconst 1, 1) := by decide +kernel
theorem d_K_split_11 : decode b_K_split 11 = .ok (.if_icmp .ge 7, 3) := by decide +kernel
theorem d_K_split_14 : decode b_K_split 14 = .ok (.iconst 1, 1) := by decide +kernel
theorem d_K_split_15 : decode b_K_split 15 = .ok (.goto 27, 3) := by decide +kernel
theorem d_K_split_18 : decode b_K_split 18 = .ok (.aload_n 0, 1) := by decide +kernel
theorem d_K_split_19 : decode b_K_split 19 = .ok (.getfield 60, 3) := by decide +kernel
theorem d_K_split_22 : decode b_K_split 22 = .ok (.bipush 60, 2) := by decide +kernel
theorem d_K_split_24 : decode b_K_split 24 = .ok (.if_icmp .eq 13, 3) := by decide +kernel
theorem d_K_split_27 : decode b_K_split 27 = .ok (.aload_n 0, 1) := by decide +kernel
theorem d_K_split_28 : decode b_K_split 28 = .ok (.getfield 66, 3) := by decide +kernel
theorem d_K_split_31 : decode b_K_split 31 = .ok (.sipush 200, 3) := by decide +kernel
theorem d_K_split_34 : decode b_K_split 34 = .ok (.if_icmp .ne 7, 3) := by decide +kernel
theorem d_K_split_37 : decode b_K_split 37 = .ok (.iconst 2, 1) := by decide +kernel
theorem d_K_split_38 : decode b_K_split 38 = .ok (.goto 4, 3) := by decide +kernel
theorem d_K_split_41 : decode b_K_split 41 = .ok (.iconst 0, 1) := by decide +kernel
theorem d_K_split_42 : decode b_K_split 42 = .ok (.putfield 56, 3) := by decide +kernel
theorem d_K_split_45 : decode b_K_split 45 = .ok (.aload_n 0, 1) := by decide +kernel
theorem d_K_split_46 : decode b_K_split 46 = .ok (.getfield 56, 3) := by decide +kernel
theorem d_K_split_49 : decode b_K_split 49 = .ok (.ifCond .le 5, 3) := by decide +kernel
theorem d_K_split_52 : decode b_K_split 52 = .ok (.iconst 0, 1) := by decide +kernel
theorem d_K_split_53 : decode b_K_split 53 = .ok (.ireturn, 1) := by decide +kernel
theorem d_K_split_54 : decode b_K_split 54 = .ok (.aload_n 0, 1) := by decide +kernel
theorem d_K_split_55 : decode b_K_split 55 = .ok (.getfield 13, 3) := by decide +kernel
theorem d_K_split_58 : decode b_K_split 58 = .ok (.iload_n 1, 1) := by decide +kernel
theorem d_K_split_59 : decode b_K_split 59 = .ok (.iaload, 1) := by decide +kernel
theorem d_K_split_60 : decode b_K_split 60 = .ok (.iconst 1, 1) := by decide +kernel
theorem d_K_split_61 : decode b_K_split 61 = .ok (.iadd, 1) := by decide +kernel
theorem d_K_split_62 : decode b_K_split 62 = .ok (.istore_n 3, 1) := by decide +kernel
theorem d_K_split_63 : decode b_K_split 63 = .ok (.aload_n 0, 1) := by decide +kernel
theorem d_K_split_64 : decode b_K_split 64 = .ok (.aload_n 0, 1) := by decide +kernel
theorem d_K_split_65 : decode b_K_split 65 = .ok (.getfield 7, 3) := by decide +kernel
theorem d_K_split_68 : decode b_K_split 68 = .ok (.iload_n 1, 1) := by decide +kernel
theorem d_K_split_69 : decode b_K_split 69 = .ok (.iaload, 1) := by decide +kernel
theorem d_K_split_70 : decode b_K_split 70 = .ok (.iload_n 3, 1) := by decide +kernel
theorem d_K_split_71 : decode b_K_split 71 = .ok (.invokevirtual 88, 3) := by decide +kernel
theorem d_K_split_74 : decode b_K_split 74 = .ok (.ifCond .lt 9, 3) := by decide +kernel
theorem d_K_split_77 : decode b_K_split 77 = .ok (.iinc 3 1, 3) := by decide +kernel
theorem d_K_split_80 : decode b_K_split 80 = .ok (.goto (-17), 3) := by decide +kernel
theorem d_K_split_83 : decode b_K_split 83 = .ok (.iload_n 2, 1) := by decide +kernel
theorem d_K_split_84 : decode b_K_split 84 = .ok (.aload_n 0, 1) := by decide +kernel
theorem d_K_split_85 : decode b_K_split 85 = .ok (.iload_n 1, 1) := by decide +kernel
theorem d_K_split_86 : decode b_K_split 86 = .ok (.invokevirtual 69, 3) := by decide +kernel
theorem d_K_split_89 : decode b_K_split 89 = .ok (.if_icmp .ge 26, 3) := by decide +kernel
theorem d_K_split_92 : decode b_K_split 92 = .ok (.aload_n 0, 1) := by decide +kernel
theorem d_K_split_93 : decode b_K_split 93 = .ok (.iload_n 1, 1) := by decide +kernel
theorem d_K_split_94 : decode b_K_split 94 = .ok (.invokevirtual 73, 3) := by decide +kernel
theorem d_K_split_97 : decode b_K_split 97 = .ok (.ifCond .gt 18, 3) := by decide +kernel
theorem d_K_split_100 : decode b_K_split 100 = .ok (.aload_n 0, 1) := by decide +kernel
theorem d_K_split_101 : decode b_K_split 101 = .ok (.getfield 22, 3) := by decide +kernel
theorem d_K_split_104 : decode b_K_split 104 = .ok (.iload_n 1, 1) := by decide +kernel
theorem d_K_split_105 : decode b_K_split 105 = .ok (.iaload, 1) := by decide +kernel
theorem d_K_split_106 : decode b_K_split 106 = .ok (.ifCond .gt 9, 3) := by decide +kernel
theorem d_K_split_109 : decode b_K_split 109 = .ok (.iload_n 3, 1) := by decide +kernel
theorem d_K_split_110 : decode b_K_split 110 = .ok (.ldc 128, 2) := by decide +kernel
theorem d_K_split_112 : decode b_K_split 112 = .ok (.if_icmp .ne 5, 3) := by decide +kernel
theorem d_K_split_115 : decode b_K_split 115 = .ok (.iconst (-1), 1) := by decide +kernel
theorem d_K_split_116 : decode b_K_split 116 = .ok (.ireturn, 1) := by decide +kernel
theorem d_K_split_117 : decode b_K_split 117 = .ok (.iload_n 2, 1) := by decide +kernel
theorem d_K_split_118 : decode b_K_split 118 = .ok (.istore 4, 2) := by decide +kernel
theorem d_K_split_120 : decode b_K_split 120 = .ok (.aload_n 0, 1) := by decide +kernel
theorem d_K_split_121 : decode b_K_split 121 = .ok (.iload_n 1, 1) := by decide +kernel
theorem d_K_split_122 : decode b_K_split 122 = .ok (.invokevirtual 103, 3) := by decide +kernel
theorem d_K_split_125 : decode b_K_split 125 = .ok (.iconst 1, 1) := by decide +kernel
theorem d_K_split_126 : decode b_K_split 126 = .ok (.isub, 1) := by decide +kernel
theorem d_K_split_127 : decode b_K_split 127 = .ok (.istore 5, 2) := by decide +kernel
theorem d_K_split_129 : decode b_K_split 129 = .ok (.iload 5, 2) := by decide +kernel
theorem d_K_split_131 : decode b_K_split 131 = .ok (.ifCond .lt 63, 3) := by decide +kernel
theorem d_K_split_134 : decode b_K_split 134 = .ok (.aload_n 0, 1) := by decide +kernel
theorem d_K_split_135 : decode b_K_split 135 = .ok (.iload_n 1, 1) := by decide +kernel
theorem d_K_split_136 : decode b_K_split 136 = .ok (.iload 5, 2) := by decide +kernel
theorem d_K_split_138 : decode b_K_split 138 = .ok (.invokevirtual 116, 3) := by decide +kernel
theorem d_K_split_141 : decode b_K_split 141 = .ok (.istore 6, 2) := by decide +kernel
theorem d_K_split_143 : decode b_K_split 143 = .ok (.aload_n 0, 1) := by decide +kernel
theorem d_K_split_144 : decode b_K_split 144 = .ok (.getfield 28, 3) := by decide +kernel
theorem d_K_split_147 : decode b_K_split 147 = .ok (.iload 6, 2) := by decide +kernel
theorem d_K_split_149 : decode b_K_split 149 = .ok (.iaload, 1) := by decide +kernel
theorem d_K_split_150 : decode b_K_split 150 = .ok (.iload 4, 2) := by decide +kernel
theorem d_K_split_152 : decode b_K_split 152 = .ok (.if_icmp .ge 13, 3) := by decide +kernel
theorem d_K_split_155 : decode b_K_split 155 = .ok (.aload_n 0, 1) := by decide +kernel
theorem d_K_split_156 : decode b_K_split 156 = .ok (.getfield 28, 3) := by decide +kernel
theorem d_K_split_159 : decode b_K_split 159 = .ok (.iload 6, 2) := by decide +kernel
theorem d_K_split_161 : decode b_K_split 161 = .ok (.iaload, 1) := by decide +kernel
theorem d_K_split_162 : decode b_K_split 162 = .ok (.goto 5, 3) := by decide +kernel
theorem d_K_split_165 : decode b_K_split 165 = .ok (.iload 4, 2) := by decide +kernel
theorem d_K_split_167 : decode b_K_split 167 = .ok (.istore 7, 2) := by decide +kernel
theorem d_K_split_169 : decode b_K_split 169 = .ok (.aload_n 0, 1) := by decide +kernel
theorem d_K_split_170 : decode b_K_split 170 = .ok (.getfield 28, 3) := by decide +kernel
theorem d_K_split_173 : decode b_K_split 173 = .ok (.iload 6, 2) := by decide +kernel
theorem d_K_split_175 : decode b_K_split 175 = .ok (.dup2, 1) := by decide +kernel
theorem d_K_split_176 : decode b_K_split 176 = .ok (.iaload, 1) := by decide +kernel
theorem d_K_split_177 : decode b_K_split 177 = .ok (.iload 7, 2) := by decide +kernel
theorem d_K_split_179 : decode b_K_split 179 = .ok (.isub, 1) := by decide +kernel
theorem d_K_split_180 : decode b_K_split 180 = .ok (.iastore, 1) := by decide +kernel
theorem d_K_split_181 : decode b_K_split 181 = .ok (.iload 4, 2) := by decide +kernel
theorem d_K_split_183 : decode b_K_split 183 = .ok (.iload 7, 2) := by decide +kernel
theorem d_K_split_185 : decode b_K_split 185 = .ok (.isub, 1) := by decide +kernel
theorem d_K_split_186 : decode b_K_split 186 = .ok (.istore 4, 2) := by decide +kernel
theorem d_K_split_188 : decode b_K_split 188 = .ok (.iinc 5 (-1), 3) := by decide +kernel
theorem d_K_split_191 : decode b_K_split 191 = .ok (.goto (-62), 3) := by decide +kernel
theorem d_K_split_194 : decode b_K_split 194 = .ok (.aload_n 0, 1) := by decide +kernel
theorem d_K_split_195 : decode b_K_split 195 = .ok (.aload_n 0, 1) := by decide +kernel
theorem d_K_split_196 : decode b_K_split 196 = .ok (.getfield 7, 3) := by decide +kernel
theorem d_K_split_199 : decode b_K_split 199 = .ok (.iload_n 1, 1) := by decide +kernel
theorem d_K_split_200 : decode b_K_split 200 = .ok (.iaload, 1) := by decide +kernel
theorem d_K_split_201 : decode b_K_split 201 = .ok (.iload_n 3, 1) := by decide +kernel
theorem d_K_split_202 : decode b_K_split 202 = .ok (.aload_n 0, 1) := by decide +kernel
theorem d_K_split_203 : decode b_K_split 203 = .ok (.getfield 16, 3) := by decide +kernel
theorem d_K_split_206 : decode b_K_split 206 = .ok (.iload_n 1, 1) := by decide +kernel
theorem d_K_split_207 : decode b_K_split 207 = .ok (.iaload, 1) := by decide +kernel
theorem d_K_split_208 : decode b_K_split 208 = .ok (.invokevirtual 99, 3) := by decide +kernel
theorem d_K_split_211 : decode b_K_split 211 = .ok (.istore 5, 2) := by decide +kernel
theorem d_K_split_213 : decode b_K_split 213 = .ok (.aload_n 0, 1) := by decide +kernel
theorem d_K_split_214 : decode b_K_split 214 = .ok (.getfield 19, 3) := by decide +kernel
theorem d_K_split_217 : decode b_K_split 217 = .ok (.iload 5, 2) := by decide +kernel
theorem d_K_split_219 : decode b_K_split 219 = .ok (.aload_n 0, 1) := by decide +kernel
theorem d_K_split_220 : decode b_K_split 220 = .ok (.getfield 19, 3) := by decide +kernel
theorem d_K_split_223 : decode b_K_split 223 = .ok (.iload_n 1, 1) := by decide +kernel
theorem d_K_split_224 : decode b_K_split 224 = .ok (.iaload, 1) := by decide +kernel
theorem d_K_split_225 : decode b_K_split 225 = .ok (.iastore, 1) := by decide +kernel
theorem d_K_split_226 : decode b_K_split 226 = .ok (.aload_n 0, 1) := by decide +kernel
theorem d_K_split_227 : decode b_K_split 227 = .ok (.iload 5, 2) := by decide +kernel
theorem d_K_split_229 : decode b_K_split 229 = .ok (.iload_n 2, 1) := by decide +kernel
theorem d_K_split_230 : decode b_K_split 230 = .ok (.iconst 0, 1) := by decide +kernel
theorem d_K_split_231 : decode b_K_split 231 = .ok (.invokevirtual 107, 3) := by decide +kernel
theorem d_K_split_234 : decode b_K_split 234 = .ok (.istore 6, 2) := by decide +kernel
theorem d_K_split_236 : decode b_K_split 236 = .ok (.iload 5, 2) := by decide +kernel
theorem d_K_split_238 : decode b_K_split 238 = .ok (.ireturn, 1) := by decide +kernel
theorem d_K_previousOf_0 : decode b_K_previousOf 0 = .ok (.iconst (-1), 1) := by decide +kernel
theorem d_K_previousOf_1 : decode b_K_previousOf 1 = .ok (.istore_n 2, 1) := by decide +kernel
theorem d_K_previousOf_2 : decode b_K_previousOf 2 = .ok (.iconst 0, 1) := by decide +kernel
theorem d_K_previousOf_3 : decode b_K_previousOf 3 = .ok (.istore_n 3, 1) := by decide +kernel
theorem d_K_previousOf_4 : decode b_K_previousOf 4 = .ok (.iload_n 3, 1) := by decide +kernel
theorem d_K_previousOf_5 : decode b_K_previousOf 5 = .ok (.aload_n 0, 1) := by decide +kernel
theorem d_K_previousOf_6 : decode b_K_previousOf 6 = .ok (.getfield 63, 3) := by decide +kernel
theorem d_K_previousOf_9 : decode b_K_previousOf 9 = .ok (.if_icmp .ge 25, 3) := by decide +kernel
theorem d_K_previousOf_12 : decode b_K_previousOf 12 = .ok (.aload_n 0, 1) := by decide +kernel
theorem d_K_previousOf_13 : decode b_K_previousOf 13 = .ok (.getfield 49, 3) := by decide +kernel
theorem d_K_previousOf_16 : decode b_K_previousOf 16 = .ok (.iload_n 3, 1) := by decide +kernel
theorem d_K_previousOf_17 : decode b_K_previousOf 17 = .ok (.iaload, 1) := by decide +kernel
theorem d_K_previousOf_18 : decode b_K_previousOf 18 = .ok (.iload_n 1, 1) := by decide +kernel
theorem d_K_previousOf_19 : decode b_K_previousOf 19 = .ok (.if_icmp .ne 7, 3) := by decide +kernel
theorem d_K_previousOf_22 : decode b_K_previousOf 22 = .ok (.iload_n 3, 1) := by decide +kernel
theorem d_K_previousOf_23 : decode b_K_previousOf 23 = .ok (.goto 4, 3) := by decide +kernel
theorem d_K_previousOf_26 : decode b_K_previousOf 26 = .ok (.iload_n 2, 1) := by decide +kernel
theorem d_K_previousOf_27 : decode b_K_previousOf 27 = .ok (.istore_n 2, 1) := by decide +kernel
theorem d_K_previousOf_28 : decode b_K_previousOf 28 = .ok (.iinc 3 1, 3) := by decide +kernel
theorem d_K_previousOf_31 : decode b_K_previousOf 31 = .ok (.goto (-27), 3) := by decide +kernel
theorem d_K_previousOf_34 : decode b_K_previousOf 34 = .ok (.iload_n 2, 1) := by decide +kernel
theorem d_K_previousOf_35 : decode b_K_previousOf 35 = .ok (.ireturn, 1) := by decide +kernel
theorem d_K_firstOf_0 : decode b_K_firstOf 0 = .ok (.iload_n 1, 1) := by decide +kernel
theorem d_K_firstOf_1 : decode b_K_firstOf 1 = .ok (.istore_n 2, 1) := by decide +kernel
theorem d_K_firstOf_2 : decode b_K_firstOf 2 = .ok (.aload_n 0, 1) := by decide +kernel
theorem d_K_firstOf_3 : decode b_K_firstOf 3 = .ok (.iload_n 2, 1) := by decide +kernel
theorem d_K_firstOf_4 : decode b_K_firstOf 4 = .ok (.invokevirtual 129, 3) := by decide +kernel
theorem d_K_firstOf_7 : decode b_K_firstOf 7 = .ok (.ifCond .lt 12, 3) := by decide +kernel
theorem d_K_firstOf_10 : decode b_K_firstOf 10 = .ok (.aload_n 0, 1) := by decide +kernel
theorem d_K_firstOf_11 : decode b_K_firstOf 11 = .ok (.iload_n 2, 1) := by decide +kernel
theorem d_K_firstOf_12 : decode b_K_firstOf 12 = .ok (.invokevirtual 129, 3) := by decide +kernel
theorem d_K_firstOf_15 : decode b_K_firstOf 15 = .ok (.istore_n 2, 1) := by decide +kernel
theorem d_K_firstOf_16 : decode b_K_firstOf 16 = .ok (.goto (-14), 3) := by decide +kernel
theorem d_K_firstOf_19 : decode b_K_firstOf 19 = .ok (.iload_n 2, 1) := by decide +kernel
theorem d_K_firstOf_20 : decode b_K_firstOf 20 = .ok (.ireturn, 1) := by decide +kernel
theorem d_K_leg_0 : decode b_K_leg 0 = .ok (.aload_n 0, 1) := by decide +kernel
theorem d_K_leg_1 : decode b_K_leg 1 = .ok (.iconst 0, 1) := by decide +kernel
theorem d_K_leg_2 : decode b_K_leg 2 = .ok (.putfield 56, 3) := by decide +kernel
theorem d_K_leg_5 : decode b_K_leg 5 = .ok (.aload_n 0, 1) := by decide +kernel
theorem d_K_leg_6 : decode b_K_leg 6 = .ok (.iload_n 1, 1) := by decide +kernel
theorem d_K_leg_7 : decode b_K_leg 7 = .ok (.invokevirtual 110, 3) := by decide +kernel
theorem d_K_leg_10 : decode b_K_leg 10 = .ok (.ifCond .eq 52, 3) := by decide +kernel
theorem d_K_leg_13 : decode b_K_leg 13 = .ok (.aload_n 0, 1) := by decide +kernel
theorem d_K_leg_14 : decode b_K_leg 14 = .ok (.iload_n 2, 1) := by decide +kernel
theorem d_K_leg_15 : decode b_K_leg 15 = .ok (.invokevirtual 110, 3) := by decide +kernel
theorem d_K_leg_18 : decode b_K_leg 18 = .ok (.ifCond .eq 44, 3) := by decide +kernel
theorem d_K_leg_21 : decode b_K_leg 21 = .ok (.aload_n 0, 1) := by decide +kernel
theorem d_K_leg_22 : decode b_K_leg 22 = .ok (.getfield 34, 3) := by decide +kernel
theorem d_K_leg_25 : decode b_K_leg 25 = .ok (.iload_n 1, 1) := by decide +kernel
theorem d_K_leg_26 : decode b_K_leg 26 = .ok (.iaload, 1) := by decide +kernel
theorem d_K_leg_27 : decode b_K_leg 27 = .ok (.aload_n 0, 1) := by decide +kernel
theorem d_K_leg_28 : decode b_K_leg 28 = .ok (.getfield 34, 3) := by decide +kernel
theorem d_K_leg_31 : decode b_K_leg 31 = .ok (.iload_n 2, 1) := by decide +kernel
theorem d_K_leg_32 : decode b_K_leg 32 = .ok (.iaload, 1) := by decide +kernel
theorem d_K_leg_33 : decode b_K_leg 33 = .ok (.if_icmp .eq 29, 3) := by decide +kernel
theorem d_K_leg_36 : decode b_K_leg 36 = .ok (.aload_n 0, 1) := by decide +kernel
theorem d_K_leg_37 : decode b_K_leg 37 = .ok (.getfield 49, 3) := by decide +kernel
theorem d_K_leg_40 : decode b_K_leg 40 = .ok (.iload_n 1, 1) := by decide +kernel
theorem d_K_leg_41 : decode b_K_leg 41 = .ok (.iaload, 1) := by decide +kernel
theorem d_K_leg_42 : decode b_K_leg 42 = .ok (.ifCond .ge 20, 3) := by decide +kernel
theorem d_K_leg_45 : decode b_K_leg 45 = .ok (.aload_n 0, 1) := by decide +kernel
theorem d_K_leg_46 : decode b_K_leg 46 = .ok (.iload_n 2, 1) := by decide +kernel
theorem d_K_leg_47 : decode b_K_leg 47 = .ok (.invokevirtual 129, 3) := by decide +kernel
theorem d_K_leg_50 : decode b_K_leg 50 = .ok (.ifCond .ge 12, 3) := by decide +kernel
theorem d_K_leg_53 : decode b_K_leg 53 = .ok (.aload_n 0, 1) := by decide +kernel
theorem d_K_leg_54 : decode b_K_leg 54 = .ok (.iload_n 1, 1) := by decide +kernel
theorem d_K_leg_55 : decode b_K_leg 55 = .ok (.invokevirtual 132, 3) := by decide +kernel
theorem d_K_leg_58 : decode b_K_leg 58 = .ok (.iload_n 2, 1) := by decide +kernel
theorem d_K_leg_59 : decode b_K_leg 59 = .ok (.if_icmp .ne 5, 3) := by decide +kernel
theorem d_K_leg_62 : decode b_K_leg 62 = .ok (.iconst 0, 1) := by decide +kernel
theorem d_K_leg_63 : decode b_K_leg 63 = .ok (.ireturn, 1) := by decide +kernel
theorem d_K_leg_64 : decode b_K_leg 64 = .ok (.aload_n 0, 1) := by decide +kernel
theorem d_K_leg_65 : decode b_K_leg 65 = .ok (.getfield 49, 3) := by decide +kernel
theorem d_K_leg_68 : decode b_K_leg 68 = .ok (.iload_n 1, 1) := by decide +kernel
theorem d_K_leg_69 : decode b_K_leg 69 = .ok (.iload_n 2, 1) := by decide +kernel
theorem d_K_leg_70 : decode b_K_leg 70 = .ok (.iastore, 1) := by decide +kernel
theorem d_K_leg_71 : decode b_K_leg 71 = .ok (.iconst 1, 1) := by decide +kernel
theorem d_K_leg_72 : decode b_K_leg 72 = .ok (.ireturn, 1) := by decide +kernel
theorem d_K_look_0 : decode b_K_look 0 = .ok (.aload_n 0, 1) := by decide +kernel
theorem d_K_look_1 : decode b_K_look 1 = .ok (.aload_n 0, 1) := by decide +kernel
theorem d_K_look_2 : decode b_K_look 2 = .ok (.iload_n 1, 1) := by decide +kernel
theorem d_K_look_3 : decode b_K_look 3 = .ok (.invokevirtual 92, 3) := by decide +kernel
theorem d_K_look_6 : decode b_K_look 6 = .ok (.ifCond .eq 17, 3) := by decide +kernel
theorem d_K_look_9 : decode b_K_look 9 = .ok (.iload_n 2, 1) := by decide +kernel
theorem d_K_look_10 : decode b_K_look 10 = .ok (.iconst 0, 1) := by decide +kernel
theorem d_K_look_11 : decode b_K_look 11 = .ok (.bipush 15, 2) := by decide +kernel
theorem d_K_look_13 : decode b_K_look 13 = .ok (.invokestatic 83, 3) := by decide +kernel
theorem d_K_look_16 : decode b_K_look 16 = .ok (.ifCond .eq 7, 3) := by decide +kernel
theorem d_K_look_19 : decode b_K_look 19 = .ok (.iconst 0, 1) := by decide +kernel
theorem d_K_look_20 : decode b_K_look 20 = .ok (.goto 4, 3) := by decide +kernel
theorem d_K_look_23 : decode b_K_look 23 = .ok (.iconst 1, 1) := by decide +kernel
theorem d_K_look_24 : decode b_K_look 24 = .ok (.putfield 56, 3) := by decide +kernel
theorem d_K_look_27 : decode b_K_look 27 = .ok (.aload_n 0, 1) := by decide +kernel
theorem d_K_look_28 : decode b_K_look 28 = .ok (.getfield 56, 3) := by decide +kernel
theorem d_K_look_31 : decode b_K_look 31 = .ok (.ifCond .le 5, 3) := by decide +kernel
theorem d_K_look_34 : decode b_K_look 34 = .ok (.iconst 0, 1) := by decide +kernel
theorem d_K_look_35 : decode b_K_look 35 = .ok (.ireturn, 1) := by decide +kernel
theorem d_K_look_36 : decode b_K_look 36 = .ok (.aload_n 0, 1) := by decide +kernel
theorem d_K_look_37 : decode b_K_look 37 = .ok (.iload_n 1, 1) := by decide +kernel
theorem d_K_look_38 : decode b_K_look 38 = .ok (.invokevirtual 69, 3) := by decide +kernel
theorem d_K_look_41 : decode b_K_look 41 = .ok (.aload_n 0, 1) := by decide +kernel
theorem d_K_look_42 : decode b_K_look 42 = .ok (.iload_n 1, 1) := by decide +kernel
theorem d_K_look_43 : decode b_K_look 43 = .ok (.invokevirtual 135, 3) := by decide +kernel
theorem d_K_look_46 : decode b_K_look 46 = .ok (.isub, 1) := by decide +kernel
theorem d_K_look_47 : decode b_K_look 47 = .ok (.istore_n 3, 1) := by decide +kernel
theorem d_K_look_48 : decode b_K_look 48 = .ok (.iload_n 2, 1) := by decide +kernel
theorem d_K_look_49 : decode b_K_look 49 = .ok (.tableswitch 179 0 14 #[75, 82, 89, 96, 102, 108, 114, 120, 126, 132, 142, 153, 160, 167, 173], 75) := by decide +kernel
theorem d_K_look_124 : decode b_K_look 124 = .ok (.aload_n 0, 1) := by decide +kernel
theorem d_K_look_125 : decode b_K_look 125 = .ok (.getfield 7, 3) := by decide +kernel
theorem d_K_look_128 : decode b_K_look 128 = .ok (.iload_n 1, 1) := by decide +kernel
theorem d_K_look_129 : decode b_K_look 129 = .ok (.iaload, 1) := by decide +kernel
theorem d_K_look_130 : decode b_K_look 130 = .ok (.ireturn, 1) := by decide +kernel
theorem d_K_look_131 : decode b_K_look 131 = .ok (.aload_n 0, 1) := by decide +kernel
theorem d_K_look_132 : decode b_K_look 132 = .ok (.getfield 13, 3) := by decide +kernel
theorem d_K_look_135 : decode b_K_look 135 = .ok (.iload_n 1, 1) := by decide +kernel
theorem d_K_look_136 : decode b_K_look 136 = .ok (.iaload, 1) := by decide +kernel
theorem d_K_look_137 : decode b_K_look 137 = .ok (.ireturn, 1) := by decide +kernel
theorem d_K_look_138 : decode b_K_look 138 = .ok (.aload_n 0, 1) := by decide +kernel
theorem d_K_look_139 : decode b_K_look 139 = .ok (.getfield 16, 3) := by decide +kernel
theorem d_K_look_142 : decode b_K_look 142 = .ok (.iload_n 1, 1) := by decide +kernel
theorem d_K_look_143 : decode b_K_look 143 = .ok (.iaload, 1) := by decide +kernel
theorem d_K_look_144 : decode b_K_look 144 = .ok (.ireturn, 1) := by decide +kernel
theorem d_K_look_145 : decode b_K_look 145 = .ok (.aload_n 0, 1) := by decide +kernel
theorem d_K_look_146 : decode b_K_look 146 = .ok (.iload_n 1, 1) := by decide +kernel
theorem d_K_look_147 : decode b_K_look 147 = .ok (.invokevirtual 96, 3) := by decide +kernel
theorem d_K_look_150 : decode b_K_look 150 = .ok (.ireturn, 1) := by decide +kernel
theorem d_K_look_151 : decode b_K_look 151 = .ok (.aload_n 0, 1) := by decide +kernel
theorem d_K_look_152 : decode b_K_look 152 = .ok (.iload_n 1, 1) := by decide +kernel
theorem d_K_look_153 : decode b_K_look 153 = .ok (.invokevirtual 103, 3) := by decide +kernel
theorem d_K_look_156 : decode b_K_look 156 = .ok (.ireturn, 1) := by decide +kernel
theorem d_K_look_157 : decode b_K_look 157 = .ok (.aload_n 0, 1) := by decide +kernel
theorem d_K_look_158 : decode b_K_look 158 = .ok (.iload_n 1, 1) := by decide +kernel
theorem d_K_look_159 : decode b_K_look 159 = .ok (.invokevirtual 69, 3) := by decide +kernel
theorem d_K_look_162 : decode b_K_look 162 = .ok (.ireturn, 1) := by decide +kernel
theorem d_K_look_163 : decode b_K_look 163 = .ok (.aload_n 0, 1) := by decide +kernel
theorem d_K_look_164 : decode b_K_look 164 = .ok (.iload_n 1, 1) := by decide +kernel
theorem d_K_look_165 : decode b_K_look 165 = .ok (.invokevirtual 138, 3) := by decide +kernel
theorem d_K_look_168 : decode b_K_look 168 = .ok (.ireturn, 1) := by decide +kernel
theorem d_K_look_169 : decode b_K_look 169 = .ok (.aload_n 0, 1) := by decide +kernel
theorem d_K_look_170 : decode b_K_look 170 = .ok (.iload_n 1, 1) := by decide +kernel
theorem d_K_look_171 : decode b_K_look 171 = .ok (.invokevirtual 141, 3) := by decide +kernel
theorem d_K_look_174 : decode b_K_look 174 = .ok (.ireturn, 1) := by decide +kernel
theorem d_K_look_175 : decode b_K_look 175 = .ok (.aload_n 0, 1) := by decide +kernel
theorem d_K_look_176 : decode b_K_look 176 = .ok (.iload_n 1, 1) := by decide +kernel
theorem d_K_look_177 : decode b_K_look 177 = .ok (.invokevirtual 135, 3) := by decide +kernel
theorem d_K_look_180 : decode b_K_look 180 = .ok (.ireturn, 1) := by decide +kernel
theorem d_K_look_181 : decode b_K_look 181 = .ok (.iload_n 3, 1) := by decide +kernel
theorem d_K_look_182 : decode b_K_look 182 = .ok (.ifCond .le 7, 3) := by decide +kernel
theorem d_K_look_185 : decode b_K_look 185 = .ok (.iload_n 3, 1) := by decide +kernel
theorem d_K_look_186 : decode b_K_look 186 = .ok (.goto 4, 3) := by decide +kernel
theorem d_K_look_189 : decode b_K_look 189 = .ok (.iconst 0, 1) := by decide +kernel
theorem d_K_look_190 : decode b_K_look 190 = .ok (.ireturn, 1) := by decide +kernel
theorem d_K_look_191 : decode b_K_look 191 = .ok (.iload_n 3, 1) := by decide +kernel
theorem d_K_look_192 : decode b_K_look 192 = .ok (.ifCond .ge 8, 3) := by decide +kernel
theorem d_K_look_195 : decode b_K_look 195 = .ok (.iload_n 3, 1) := by decide +kernel
theorem d_K_look_196 : decode b_K_look 196 = .ok (.ineg, 1) := by decide +kernel
theorem d_K_look_197 : decode b_K_look 197 = .ok (.goto 4, 3) := by decide +kernel
theorem d_K_look_200 : decode b_K_look 200 = .ok (.iconst 0, 1) := by decide +kernel
theorem d_K_look_201 : decode b_K_look 201 = .ok (.ireturn, 1) := by decide +kernel
theorem d_K_look_202 : decode b_K_look 202 = .ok (.aload_n 0, 1) := by decide +kernel
theorem d_K_look_203 : decode b_K_look 203 = .ok (.getfield 19, 3) := by decide +kernel
theorem d_K_look_206 : decode b_K_look 206 = .ok (.iload_n 1, 1) := by decide +kernel
theorem d_K_look_207 : decode b_K_look 207 = .ok (.iaload, 1) := by decide +kernel
theorem d_K_look_208 : decode b_K_look 208 = .ok (.ireturn, 1) := by decide +kernel
theorem d_K_look_209 : decode b_K_look 209 = .ok (.aload_n 0, 1) := by decide +kernel
theorem d_K_look_210 : decode b_K_look 210 = .ok (.getfield 22, 3) := by decide +kernel
theorem d_K_look_213 : decode b_K_look 213 = .ok (.iload_n 1, 1) := by decide +kernel
theorem d_K_look_214 : decode b_K_look 214 = .ok (.iaload, 1) := by decide +kernel
theorem d_K_look_215 : decode b_K_look 215 = .ok (.ireturn, 1) := by decide +kernel
theorem d_K_look_216 : decode b_K_look 216 = .ok (.aload_n 0, 1) := by decide +kernel
theorem d_K_look_217 : decode b_K_look 217 = .ok (.iload_n 1, 1) := by decide +kernel
theorem d_K_look_218 : decode b_K_look 218 = .ok (.invokevirtual 73, 3) := by decide +kernel
theorem d_K_look_221 : decode b_K_look 221 = .ok (.ireturn, 1) := by decide +kernel
theorem d_K_look_222 : decode b_K_look 222 = .ok (.aload_n 0, 1) := by decide +kernel
theorem d_K_look_223 : decode b_K_look 223 = .ok (.iload_n 1, 1) := by decide +kernel
theorem d_K_look_224 : decode b_K_look 224 = .ok (.invokevirtual 144, 3) := by decide +kernel
theorem d_K_look_227 : decode b_K_look 227 = .ok (.ireturn, 1) := by decide +kernel
theorem d_K_look_228 : decode b_K_look 228 = .ok (.aload_n 0, 1) := by decide +kernel
theorem d_K_look_229 : decode b_K_look 229 = .ok (.iload_n 1, 1) := by decide +kernel
theorem d_K_look_230 : decode b_K_look 230 = .ok (.invokevirtual 147, 3) := by decide +kernel
theorem d_K_look_233 : decode b_K_look 233 = .ok (.ireturn, 1) := by decide +kernel
theorem d_K_seen_0 : decode b_K_seen 0 = .ok (.aload_n 0, 1) := by decide +kernel
theorem d_K_seen_1 : decode b_K_seen 1 = .ok (.aload_n 0, 1) := by decide +kernel
theorem d_K_seen_2 : decode b_K_seen 2 = .ok (.iload_n 1, 1) := by decide +kernel
theorem d_K_seen_3 : decode b_K_seen 3 = .ok (.invokevirtual 110, 3) := by decide +kernel
theorem d_K_seen_6 : decode b_K_seen 6 = .ok (.ifCond .eq 13, 3) := by decide +kernel
theorem d_K_seen_9 : decode b_K_seen 9 = .ok (.iload_n 2, 1) := by decide +kernel
theorem d_K_seen_10 : decode b_K_seen 10 = .ok (.iconst 0, 1) := by decide +kernel
theorem d_K_seen_11 : decode b_K_seen 11 = .ok (.bipush 13, 2) := by decide +kernel
theorem d_K_seen_13 : decode b_K_seen 13 = .ok (.invokestatic 83, 3) := by decide +kernel
theorem d_K_seen_16 : decode b_K_seen 16 = .ok (.ifCond .ne 7, 3) := by decide +kernel
theorem d_K_seen_19 : decode b_K_seen 19 = .ok (.iconst 1, 1) := by decide +kernel
theorem d_K_seen_20 : decode b_K_seen 20 = .ok (.goto 32, 3) := by decide +kernel
theorem d_K_seen_23 : decode b_K_seen 23 = .ok (.iload_n 2, 1) := by decide +kernel
theorem d_K_seen_24 : decode b_K_seen 24 = .ok (.bipush 10, 2) := by decide +kernel
theorem d_K_seen_26 : decode b_K_seen 26 = .ok (.isub, 1) := by decide +kernel
theorem d_K_seen_27 : decode b_K_seen 27 = .ok (.aload_n 0, 1) := by decide +kernel
theorem d_K_seen_28 : decode b_K_seen 28 = .ok (.aload_n 0, 1) := by decide +kernel
theorem d_K_seen_29 : decode b_K_seen 29 = .ok (.iload_n 1, 1) := by decide +kernel
theorem d_K_seen_30 : decode b_K_seen 30 = .ok (.invokevirtual 110, 3) := by decide +kernel
theorem d_K_seen_33 : decode b_K_seen 33 = .ok (.ifCond .eq 7, 3) := by decide +kernel
theorem d_K_seen_36 : decode b_K_seen 36 = .ok (.iload_n 1, 1) := by decide +kernel
theorem d_K_seen_37 : decode b_K_seen 37 = .ok (.goto 4, 3) := by decide +kernel
theorem d_K_seen_40 : decode b_K_seen 40 = .ok (.iconst 0, 1) := by decide +kernel
theorem d_K_seen_41 : decode b_K_seen 41 = .ok (.invokevirtual 80, 3) := by decide +kernel
theorem d_K_seen_44 : decode b_K_seen 44 = .ok (.if_icmp .lt 7, 3) := by decide +kernel
theorem d_K_seen_47 : decode b_K_seen 47 = .ok (.iconst 2, 1) := by decide +kernel
theorem d_K_seen_48 : decode b_K_seen 48 = .ok (.goto 4, 3) := by decide +kernel
theorem d_K_seen_51 : decode b_K_seen 51 = .ok (.iconst 0, 1) := by decide +kernel
theorem d_K_seen_52 : decode b_K_seen 52 = .ok (.putfield 56, 3) := by decide +kernel
theorem d_K_seen_55 : decode b_K_seen 55 = .ok (.aload_n 0, 1) := by decide +kernel
theorem d_K_seen_56 : decode b_K_seen 56 = .ok (.getfield 56, 3) := by decide +kernel
theorem d_K_seen_59 : decode b_K_seen 59 = .ok (.ifCond .le 5, 3) := by decide +kernel
theorem d_K_seen_62 : decode b_K_seen 62 = .ok (.iconst 0, 1) := by decide +kernel
theorem d_K_seen_63 : decode b_K_seen 63 = .ok (.ireturn, 1) := by decide +kernel
theorem d_K_seen_64 : decode b_K_seen 64 = .ok (.iconst 0, 1) := by decide +kernel
theorem d_K_seen_65 : decode b_K_seen 65 = .ok (.istore_n 3, 1) := by decide +kernel
theorem d_K_seen_66 : decode b_K_seen 66 = .ok (.iload_n 1, 1) := by decide +kernel
theorem d_K_seen_67 : decode b_K_seen 67 = .ok (.istore 4, 2) := by decide +kernel
theorem d_K_seen_69 : decode b_K_seen 69 = .ok (.iload 4, 2) := by decide +kernel
theorem d_K_seen_71 : decode b_K_seen 71 = .ok (.ifCond .lt 24, 3) := by decide +kernel
theorem d_K_seen_74 : decode b_K_seen 74 = .ok (.iload_n 3, 1) := by decide +kernel
theorem d_K_seen_75 : decode b_K_seen 75 = .ok (.aload_n 0, 1) := by decide +kernel
theorem d_K_seen_76 : decode b_K_seen 76 = .ok (.getfield 40, 3) := by decide +kernel
theorem d_K_seen_79 : decode b_K_seen 79 = .ok (.iload 4, 2) := by decide +kernel
theorem d_K_seen_81 : decode b_K_seen 81 = .ok (.iaload, 1) := by decide +kernel
theorem d_K_seen_82 : decode b_K_seen 82 = .ok (.iadd, 1) := by decide +kernel
theorem d_K_seen_83 : decode b_K_seen 83 = .ok (.istore_n 3, 1) := by decide +kernel
theorem d_K_seen_84 : decode b_K_seen 84 = .ok (.aload_n 0, 1) := by decide +kernel
theorem d_K_seen_85 : decode b_K_seen 85 = .ok (.iload 4, 2) := by decide +kernel
theorem d_K_seen_87 : decode b_K_seen 87 = .ok (.invokevirtual 129, 3) := by decide +kernel
theorem d_K_seen_90 : decode b_K_seen 90 = .ok (.istore 4, 2) := by decide +kernel
theorem d_K_seen_92 : decode b_K_seen 92 = .ok (.goto (-23), 3) := by decide +kernel
theorem d_K_seen_95 : decode b_K_seen 95 = .ok (.iload_n 2, 1) := by decide +kernel
theorem d_K_seen_96 : decode b_K_seen 96 = .ok (.bipush 10, 2) := by decide +kernel
theorem d_K_seen_98 : decode b_K_seen 98 = .ok (.isub, 1) := by decide +kernel
theorem d_K_seen_99 : decode b_K_seen 99 = .ok (.istore 4, 2) := by decide +kernel
theorem d_K_seen_101 : decode b_K_seen 101 = .ok (.iconst 0, 1) := by decide +kernel
theorem d_K_seen_102 : decode b_K_seen 102 = .ok (.istore 5, 2) := by decide +kernel
theorem d_K_seen_104 : decode b_K_seen 104 = .ok (.iload_n 2, 1) := by decide +kernel
theorem d_K_seen_105 : decode b_K_seen 105 = .ok (.bipush 9, 2) := by decide +kernel
theorem d_K_seen_107 : decode b_K_seen 107 = .ok (.if_icmp .le 44, 3) := by decide +kernel
theorem d_K_seen_110 : decode b_K_seen 110 = .ok (.aload_n 0, 1) := by decide +kernel
theorem d_K_seen_111 : decode b_K_seen 111 = .ok (.iload_n 1, 1) := by decide +kernel
theorem d_K_seen_112 : decode b_K_seen 112 = .ok (.iload 5, 2) := by decide +kernel
theorem d_K_seen_114 : decode b_K_seen 114 = .ok (.invokevirtual 76, 3) := by decide +kernel
theorem d_K_seen_117 : decode b_K_seen 117 = .ok (.ifCond .eq 8, 3) := by decide +kernel
theorem d_K_seen_120 : decode b_K_seen 120 = .ok (.iload 4, 2) := by decide +kernel
theorem d_K_seen_122 : decode b_K_seen 122 = .ok (.ifCond .le 29, 3) := by decide +kernel
theorem d_K_seen_125 : decode b_K_seen 125 = .ok (.iload 4, 2) := by decide +kernel
theorem d_K_seen_127 : decode b_K_seen 127 = .ok (.aload_n 0, 1) := by decide +kernel
theorem d_K_seen_128 : decode b_K_seen 128 = .ok (.iload_n 1, 1) := by decide +kernel
theorem d_K_seen_129 : decode b_K_seen 129 = .ok (.iload 5, 2) := by decide +kernel
theorem d_K_seen_131 : decode b_K_seen 131 = .ok (.invokevirtual 76, 3) := by decide +kernel
theorem d_K_seen_134 : decode b_K_seen 134 = .ok (.ifCond .eq 7, 3) := by decide +kernel
theorem d_K_seen_137 : decode b_K_seen 137 = .ok (.iconst 1, 1) := by decide +kernel
theorem d_K_seen_138 : decode b_K_seen 138 = .ok (.goto 4, 3) := by decide +kernel
theorem d_K_seen_141 : decode b_K_seen 141 = .ok (.iconst 0, 1) := by decide +kernel
theorem d_K_seen_142 : decode b_K_seen 142 = .ok (.isub, 1) := by decide +kernel
theorem d_K_seen_143 : decode b_K_seen 143 = .ok (.istore 4, 2) := by decide +kernel
theorem d_K_seen_145 : decode b_K_seen 145 = .ok (.iinc 5 1, 3) := by decide +kernel
theorem d_K_seen_148 : decode b_K_seen 148 = .ok (.goto (-44), 3) := by decide +kernel
theorem d_K_seen_151 : decode b_K_seen 151 = .ok (.iload_n 2, 1) := by decide +kernel
theorem d_K_seen_152 : decode b_K_seen 152 = .ok (.tableswitch 126 0 9 #[56, 63, 70, 77, 84, 90, 104, 111, 118, 124], 56) := by decide +kernel
theorem d_K_seen_208 : decode b_K_seen 208 = .ok (.aload_n 0, 1) := by decide +kernel
theorem d_K_seen_209 : decode b_K_seen 209 = .ok (.getfield 34, 3) := by decide +kernel
theorem d_K_seen_212 : decode b_K_seen 212 = .ok (.iload_n 1, 1) := by decide +kernel
theorem d_K_seen_213 : decode b_K_seen 213 = .ok (.iaload, 1) := by decide +kernel
theorem d_K_seen_214 : decode b_K_seen 214 = .ok (.ireturn, 1) := by decide +kernel
theorem d_K_seen_215 : decode b_K_seen 215 = .ok (.aload_n 0, 1) := by decide +kernel
theorem d_K_seen_216 : decode b_K_seen 216 = .ok (.getfield 37, 3) := by decide +kernel
theorem d_K_seen_219 : decode b_K_seen 219 = .ok (.iload_n 1, 1) := by decide +kernel
theorem d_K_seen_220 : decode b_K_seen 220 = .ok (.iaload, 1) := by decide +kernel
theorem d_K_seen_221 : decode b_K_seen 221 = .ok (.ireturn, 1) := by decide +kernel
theorem d_K_seen_222 : decode b_K_seen 222 = .ok (.aload_n 0, 1) := by decide +kernel
theorem d_K_seen_223 : decode b_K_seen 223 = .ok (.getfield 40, 3) := by decide +kernel
theorem d_K_seen_226 : decode b_K_seen 226 = .ok (.iload_n 1, 1) := by decide +kernel
theorem d_K_seen_227 : decode b_K_seen 227 = .ok (.iaload, 1) := by decide +kernel
theorem d_K_seen_228 : decode b_K_seen 228 = .ok (.ireturn, 1) := by decide +kernel
theorem d_K_seen_229 : decode b_K_seen 229 = .ok (.aload_n 0, 1) := by decide +kernel
theorem d_K_seen_230 : decode b_K_seen 230 = .ok (.getfield 43, 3) := by decide +kernel
theorem d_K_seen_233 : decode b_K_seen 233 = .ok (.iload_n 1, 1) := by decide +kernel
theorem d_K_seen_234 : decode b_K_seen 234 = .ok (.iaload, 1) := by decide +kernel
theorem d_K_seen_235 : decode b_K_seen 235 = .ok (.ireturn, 1) := by decide +kernel
theorem d_K_seen_236 : decode b_K_seen 236 = .ok (.aload_n 0, 1) := by decide +kernel
theorem d_K_seen_237 : decode b_K_seen 237 = .ok (.iload_n 1, 1) := by decide +kernel
theorem d_K_seen_238 : decode b_K_seen 238 = .ok (.invokevirtual 80, 3) := by decide +kernel
theorem d_K_seen_241 : decode b_K_seen 241 = .ok (.ireturn, 1) := by decide +kernel
theorem d_K_seen_242 : decode b_K_seen 242 = .ok (.aload_n 0, 1) := by decide +kernel
theorem d_K_seen_243 : decode b_K_seen 243 = .ok (.iload_n 1, 1) := by decide +kernel
theorem d_K_seen_244 : decode b_K_seen 244 = .ok (.invokevirtual 150, 3) := by decide +kernel
theorem d_K_seen_247 : decode b_K_seen 247 = .ok (.ifCond .eq 7, 3) := by decide +kernel
theorem d_K_seen_250 : decode b_K_seen 250 = .ok (.iconst 1, 1) := by decide +kernel
theorem d_K_seen_251 : decode b_K_seen 251 = .ok (.goto 4, 3) := by decide +kernel
theorem d_K_seen_254 : decode b_K_seen 254 = .ok (.iconst 0, 1) := by decide +kernel
theorem d_K_seen_255 : decode b_K_seen 255 = .ok (.ireturn, 1) := by decide +kernel
theorem d_K_seen_256 : decode b_K_seen 256 = .ok (.aload_n 0, 1) := by decide +kernel
theorem d_K_seen_257 : decode b_K_seen 257 = .ok (.getfield 46, 3) := by decide +kernel
theorem d_K_seen_260 : decode b_K_seen 260 = .ok (.iload_n 1, 1) := by decide +kernel
theorem d_K_seen_261 : decode b_K_seen 261 = .ok (.iaload, 1) := by decide +kernel
theorem d_K_seen_262 : decode b_K_seen 262 = .ok (.ireturn, 1) := by decide +kernel
theorem d_K_seen_263 : decode b_K_seen 263 = .ok (.aload_n 0, 1) := by decide +kernel
theorem d_K_seen_264 : decode b_K_seen 264 = .ok (.getfield 49, 3) := by decide +kernel
theorem d_K_seen_267 : decode b_K_seen 267 = .ok (.iload_n 1, 1) := by decide +kernel
theorem d_K_seen_268 : decode b_K_seen 268 = .ok (.iaload, 1) := by decide +kernel
theorem d_K_seen_269 : decode b_K_seen 269 = .ok (.ireturn, 1) := by decide +kernel
theorem d_K_seen_270 : decode b_K_seen 270 = .ok (.aload_n 0, 1) := by decide +kernel
theorem d_K_seen_271 : decode b_K_seen 271 = .ok (.iload_n 1, 1) := by decide +kernel
theorem d_K_seen_272 : decode b_K_seen 272 = .ok (.invokevirtual 132, 3) := by decide +kernel
theorem d_K_seen_275 : decode b_K_seen 275 = .ok (.ireturn, 1) := by decide +kernel
theorem d_K_seen_276 : decode b_K_seen 276 = .ok (.iload_n 3, 1) := by decide +kernel
theorem d_K_seen_277 : decode b_K_seen 277 = .ok (.ireturn, 1) := by decide +kernel
theorem d_K_seen_278 : decode b_K_seen 278 = .ok (.iload 5, 2) := by decide +kernel
theorem d_K_seen_280 : decode b_K_seen 280 = .ok (.ireturn, 1) := by decide +kernel
theorem d_K_waits_0 : decode b_K_waits 0 = .ok (.aload_n 0, 1) := by decide +kernel
theorem d_K_waits_1 : decode b_K_waits 1 = .ok (.iconst 0, 1) := by decide +kernel
theorem d_K_waits_2 : decode b_K_waits 2 = .ok (.putfield 56, 3) := by decide +kernel
theorem d_K_waits_5 : decode b_K_waits 5 = .ok (.iload_n 1, 1) := by decide +kernel
theorem d_K_waits_6 : decode b_K_waits 6 = .ok (.istore_n 2, 1) := by decide +kernel
theorem d_K_waits_7 : decode b_K_waits 7 = .ok (.iconst 0, 1) := by decide +kernel
theorem d_K_waits_8 : decode b_K_waits 8 = .ok (.istore_n 3, 1) := by decide +kernel
theorem d_K_waits_9 : decode b_K_waits 9 = .ok (.iload_n 3, 1) := by decide +kernel
theorem d_K_waits_10 : decode b_K_waits 10 = .ok (.aload_n 0, 1) := by decide +kernel
theorem d_K_waits_11 : decode b_K_waits 11 = .ok (.getfield 63, 3) := by decide +kernel
theorem d_K_waits_14 : decode b_K_waits 14 = .ok (.if_icmp .ge 39, 3) := by decide +kernel
theorem d_K_waits_17 : decode b_K_waits 17 = .ok (.aload_n 0, 1) := by decide +kernel
theorem d_K_waits_18 : decode b_K_waits 18 = .ok (.iload_n 3, 1) := by decide +kernel
theorem d_K_waits_19 : decode b_K_waits 19 = .ok (.invokevirtual 150, 3) := by decide +kernel
theorem d_K_waits_22 : decode b_K_waits 22 = .ok (.ifCond .eq 9, 3) := by decide +kernel
theorem d_K_waits_25 : decode b_K_waits 25 = .ok (.iload_n 2, 1) := by decide +kernel
theorem d_K_waits_26 : decode b_K_waits 26 = .ok (.ifCond .ne 5, 3) := by decide +kernel
theorem d_K_waits_29 : decode b_K_waits 29 = .ok (.iload_n 3, 1) := by decide +kernel
theorem d_K_waits_30 : decode b_K_waits 30 = .ok (.ireturn, 1) := by decide +kernel
theorem d_K_waits_31 : decode b_K_waits 31 = .ok (.iload_n 2, 1) := by decide +kernel
theorem d_K_waits_32 : decode b_K_waits 32 = .ok (.aload_n 0, 1) := by decide +kernel
theorem d_K_waits_33 : decode b_K_waits 33 = .ok (.iload_n 3, 1) := by decide +kernel
theorem d_K_waits_34 : decode b_K_waits 34 = .ok (.invokevirtual 150, 3) := by decide +kernel
theorem d_K_waits_37 : decode b_K_waits 37 = .ok (.ifCond .eq 7, 3) := by decide +kernel
theorem d_K_waits_40 : decode b_K_waits 40 = .ok (.iconst 1, 1) := by decide +kernel
theorem d_K_waits_41 : decode b_K_waits 41 = .ok (.goto 4, 3) := by decide +kernel
theorem d_K_waits_44 : decode b_K_waits 44 = .ok (.iconst 0, 1) := by decide +kernel
theorem d_K_waits_45 : decode b_K_waits 45 = .ok (.isub, 1) := by decide +kernel
theorem d_K_waits_46 : decode b_K_waits 46 = .ok (.istore_n 2, 1) := by decide +kernel
theorem d_K_waits_47 : decode b_K_waits 47 = .ok (.iinc 3 1, 3) := by decide +kernel
theorem d_K_waits_50 : decode b_K_waits 50 = .ok (.goto (-41), 3) := by decide +kernel
theorem d_K_waits_53 : decode b_K_waits 53 = .ok (.iconst (-1), 1) := by decide +kernel
theorem d_K_waits_54 : decode b_K_waits 54 = .ok (.ireturn, 1) := by decide +kernel
theorem d_K_isLike_0 : decode b_K_isLike 0 = .ok (.iconst 0, 1) := by decide +kernel
theorem d_K_isLike_1 : decode b_K_isLike 1 = .ok (.istore_n 2, 1) := by decide +kernel
theorem d_K_isLike_2 : decode b_K_isLike 2 = .ok (.iconst 0, 1) := by decide +kernel
theorem d_K_isLike_3 : decode b_K_isLike 3 = .ok (.istore_n 3, 1) := by decide +kernel
theorem d_K_isLike_4 : decode b_K_isLike 4 = .ok (.iload_n 0, 1) := by decide +kernel
theorem d_K_isLike_5 : decode b_K_isLike 5 = .ok (.istore 4, 2) := by decide +kernel
theorem d_K_isLike_7 : decode b_K_isLike 7 = .ok (.iload_n 1, 1) := by decide +kernel
theorem d_K_isLike_8 : decode b_K_isLike 8 = .ok (.istore 5, 2) := by decide +kernel
theorem d_K_isLike_10 : decode b_K_isLike 10 = .ok (.iconst 0, 1) := by decide +kernel
theorem d_K_isLike_11 : decode b_K_isLike 11 = .ok (.istore 6, 2) := by decide +kernel
theorem d_K_isLike_13 : decode b_K_isLike 13 = .ok (.iload 6, 2) := by decide +kernel
theorem d_K_isLike_15 : decode b_K_isLike 15 = .ok (.bipush 8, 2) := by decide +kernel
theorem d_K_isLike_17 : decode b_K_isLike 17 = .ok (.if_icmp .ge 99, 3) := by decide +kernel
theorem d_K_isLike_20 : decode b_K_isLike 20 = .ok (.iload_n 2, 1) := by decide +kernel
theorem d_K_isLike_21 : decode b_K_isLike 21 = .ok (.iload 4, 2) := by decide +kernel
theorem d_K_isLike_23 : decode b_K_isLike 23 = .ok (.bipush 10, 2) := by decide +kernel
theorem d_K_isLike_25 : decode b_K_isLike 25 = .ok (.irem, 1) := by decide +kernel
theorem d_K_isLike_26 : decode b_K_isLike 26 = .ok (.iload 5, 2) := by decide +kernel
theorem d_K_isLike_28 : decode b_K_isLike 28 = .ok (.bipush 10, 2) := by decide +kernel
theorem d_K_isLike_30 : decode b_K_isLike 30 = .ok (.irem, 1) := by decide +kernel
theorem d_K_isLike_31 : decode b_K_isLike 31 = .ok (.if_icmp .eq 7, 3) := by decide +kernel
theorem d_K_isLike_34 : decode b_K_isLike 34 = .ok (.iconst 1, 1) := by decide +kernel
theorem d_K_isLike_35 : decode b_K_isLike 35 = .ok (.goto 4, 3) := by decide +kernel
theorem d_K_isLike_38 : decode b_K_isLike 38 = .ok (.iconst 0, 1) := by decide +kernel
theorem d_K_isLike_39 : decode b_K_isLike 39 = .ok (.iadd, 1) := by decide +kernel
theorem d_K_isLike_40 : decode b_K_isLike 40 = .ok (.istore_n 2, 1) := by decide +kernel
theorem d_K_isLike_41 : decode b_K_isLike 41 = .ok (.iload_n 3, 1) := by decide +kernel
theorem d_K_isLike_42 : decode b_K_isLike 42 = .ok (.ifCond .ne 48, 3) := by decide +kernel
theorem d_K_isLike_45 : decode b_K_isLike 45 = .ok (.iload 4, 2) := by decide +kernel
theorem d_K_isLike_47 : decode b_K_isLike 47 = .ok (.bipush 10, 2) := by decide +kernel
theorem d_K_isLike_49 : decode b_K_isLike 49 = .ok (.irem, 1) := by decide +kernel
theorem d_K_isLike_50 : decode b_K_isLike 50 = .ok (.iload 5, 2) := by decide +kernel
theorem d_K_isLike_52 : decode b_K_isLike 52 = .ok (.bipush 10, 2) := by decide +kernel
theorem d_K_isLike_54 : decode b_K_isLike 54 = .ok (.irem, 1) := by decide +kernel
theorem d_K_isLike_55 : decode b_K_isLike 55 = .ok (.if_icmp .eq 39, 3) := by decide +kernel
theorem d_K_isLike_58 : decode b_K_isLike 58 = .ok (.iload 4, 2) := by decide +kernel
theorem d_K_isLike_60 : decode b_K_isLike 60 = .ok (.bipush 10, 2) := by decide +kernel
theorem d_K_isLike_62 : decode b_K_isLike 62 = .ok (.irem, 1) := by decide +kernel
theorem d_K_isLike_63 : decode b_K_isLike 63 = .ok (.iload 5, 2) := by decide +kernel
theorem d_K_isLike_65 : decode b_K_isLike 65 = .ok (.bipush 10, 2) := by decide +kernel
theorem d_K_isLike_67 : decode b_K_isLike 67 = .ok (.idiv, 1) := by decide +kernel
theorem d_K_isLike_68 : decode b_K_isLike 68 = .ok (.bipush 10, 2) := by decide +kernel
theorem d_K_isLike_70 : decode b_K_isLike 70 = .ok (.irem, 1) := by decide +kernel
theorem d_K_isLike_71 : decode b_K_isLike 71 = .ok (.if_icmp .ne 23, 3) := by decide +kernel
theorem d_K_isLike_74 : decode b_K_isLike 74 = .ok (.iload 5, 2) := by decide +kernel
theorem d_K_isLike_76 : decode b_K_isLike 76 = .ok (.bipush 10, 2) := by decide +kernel
theorem d_K_isLike_78 : decode b_K_isLike 78 = .ok (.irem, 1) := by decide +kernel
theorem d_K_isLike_79 : decode b_K_isLike 79 = .ok (.iload 4, 2) := by decide +kernel
theorem d_K_isLike_81 : decode b_K_isLike 81 = .ok (.bipush 10, 2) := by decide +kernel
theorem d_K_isLike_83 : decode b_K_isLike 83 = .ok (.idiv, 1) := by decide +kernel
theorem d_K_isLike_84 : decode b_K_isLike 84 = .ok (.bipush 10, 2) := by decide +kernel
theorem d_K_isLike_86 : decode b_K_isLike 86 = .ok (.irem, 1) := by decide +kernel
theorem d_K_isLike_87 : decode b_K_isLike 87 = .ok (.if_icmp .ne 7, 3) := by decide +kernel
theorem d_K_isLike_90 : decode b_K_isLike 90 = .ok (.iconst 1, 1) := by decide +kernel
theorem d_K_isLike_91 : decode b_K_isLike 91 = .ok (.goto 4, 3) := by decide +kernel
theorem d_K_isLike_94 : decode b_K_isLike 94 = .ok (.iconst 0, 1) := by decide +kernel
theorem d_K_isLike_95 : decode b_K_isLike 95 = .ok (.istore_n 3, 1) := by decide +kernel
theorem d_K_isLike_96 : decode b_K_isLike 96 = .ok (.iload 4, 2) := by decide +kernel
theorem d_K_isLike_98 : decode b_K_isLike 98 = .ok (.bipush 10, 2) := by decide +kernel
theorem d_K_isLike_100 : decode b_K_isLike 100 = .ok (.idiv, 1) := by decide +kernel
theorem d_K_isLike_101 : decode b_K_isLike 101 = .ok (.istore 4, 2) := by decide +kernel
theorem d_K_isLike_103 : decode b_K_isLike 103 = .ok (.iload 5, 2) := by decide +kernel
theorem d_K_isLike_105 : decode b_K_isLike 105 = .ok (.bipush 10, 2) := by decide +kernel
theorem d_K_isLike_107 : decode b_K_isLike 107 = .ok (.idiv, 1) := by decide +kernel
theorem d_K_isLike_108 : decode b_K_isLike 108 = .ok (.istore 5, 2) := by decide +kernel
theorem d_K_isLike_110 : decode b_K_isLike 110 = .ok (.iinc 6 1, 3) := by decide +kernel
theorem d_K_isLike_113 : decode b_K_isLike 113 = .ok (.goto (-100), 3) := by decide +kernel
theorem d_K_isLike_116 : decode b_K_isLike 116 = .ok (.iload_n 2, 1) := by decide +kernel
theorem d_K_isLike_117 : decode b_K_isLike 117 = .ok (.iconst 2, 1) := by decide +kernel
theorem d_K_isLike_118 : decode b_K_isLike 118 = .ok (.if_icmp .lt 12, 3) := by decide +kernel
theorem d_K_isLike_121 : decode b_K_isLike 121 = .ok (.iload_n 2, 1) := by decide +kernel
theorem d_K_isLike_122 : decode b_K_isLike 122 = .ok (.iconst 2, 1) := by decide +kernel
theorem d_K_isLike_123 : decode b_K_isLike 123 = .ok (.if_icmp .ne 11, 3) := by decide +kernel
theorem d_K_isLike_126 : decode b_K_isLike 126 = .ok (.iload_n 3, 1) := by decide +kernel
theorem d_K_isLike_127 : decode b_K_isLike 127 = .ok (.ifCond .eq 7, 3) := by decide +kernel
theorem d_K_isLike_130 : decode b_K_isLike 130 = .ok (.iconst 1, 1) := by decide +kernel
theorem d_K_isLike_131 : decode b_K_isLike 131 = .ok (.goto 4, 3) := by decide +kernel
theorem d_K_isLike_134 : decode b_K_isLike 134 = .ok (.iconst 0, 1) := by decide +kernel
theorem d_K_isLike_135 : decode b_K_isLike 135 = .ok (.ireturn, 1) := by decide +kernel
theorem d_K_like_0 : decode b_K_like 0 = .ok (.aload_n 0, 1) := by decide +kernel
theorem d_K_like_1 : decode b_K_like 1 = .ok (.iload_n 1, 1) := by decide +kernel
theorem d_K_like_2 : decode b_K_like 2 = .ok (.iconst 0, 1) := by decide +kernel
theorem d_K_like_3 : decode b_K_like 3 = .ok (.iconst 3, 1) := by decide +kernel
theorem d_K_like_4 : decode b_K_like 4 = .ok (.invokestatic 83, 3) := by decide +kernel
theorem d_K_like_7 : decode b_K_like 7 = .ok (.ifCond .eq 17, 3) := by decide +kernel
theorem d_K_like_10 : decode b_K_like 10 = .ok (.iload_n 2, 1) := by decide +kernel
theorem d_K_like_11 : decode b_K_like 11 = .ok (.iconst 0, 1) := by decide +kernel
theorem d_K_like_12 : decode b_K_like 12 = .ok (.ldc 87, 2) := by decide +kernel
theorem d_K_like_14 : decode b_K_like 14 = .ok (.invokestatic 83, 3) := by decide +kernel
theorem d_K_like_17 : decode b_K_like 17 = .ok (.ifCond .eq 7, 3) := by decide +kernel
theorem d_K_like_20 : decode b_K_like 20 = .ok (.iconst 0, 1) := by decide +kernel
theorem d_K_like_21 : decode b_K_like 21 = .ok (.goto 4, 3) := by decide +kernel
theorem d_K_like_24 : decode b_K_like 24 = .ok (.iconst 1, 1) := by decide +kernel
theorem d_K_like_25 : decode b_K_like 25 = .ok (.putfield 56, 3) := by decide +kernel
theorem d_K_like_28 : decode b_K_like 28 = .ok (.aload_n 0, 1) := by decide +kernel
theorem d_K_like_29 : decode b_K_like 29 = .ok (.getfield 56, 3) := by decide +kernel
theorem d_K_like_32 : decode b_K_like 32 = .ok (.ifCond .le 5, 3) := by decide +kernel
theorem d_K_like_35 : decode b_K_like 35 = .ok (.iconst 0, 1) := by decide +kernel
theorem d_K_like_36 : decode b_K_like 36 = .ok (.ireturn, 1) := by decide +kernel
theorem d_K_like_37 : decode b_K_like 37 = .ok (.iload_n 3, 1) := by decide +kernel
theorem d_K_like_38 : decode b_K_like 38 = .ok (.istore 4, 2) := by decide +kernel
theorem d_K_like_40 : decode b_K_like 40 = .ok (.iconst 0, 1) := by decide +kernel
theorem d_K_like_41 : decode b_K_like 41 = .ok (.istore 5, 2) := by decide +kernel
theorem d_K_like_43 : decode b_K_like 43 = .ok (.iload 5, 2) := by decide +kernel
theorem d_K_like_45 : decode b_K_like 45 = .ok (.aload_n 0, 1) := by decide +kernel
theorem d_K_like_46 : decode b_K_like 46 = .ok (.getfield 60, 3) := by decide +kernel
theorem d_K_like_49 : decode b_K_like 49 = .ok (.if_icmp .ge 69, 3) := by decide +kernel
theorem d_K_like_52 : decode b_K_like 52 = .ok (.aload_n 0, 1) := by decide +kernel
theorem d_K_like_53 : decode b_K_like 53 = .ok (.getfield 7, 3) := by decide +kernel
theorem d_K_like_56 : decode b_K_like 56 = .ok (.iload 5, 2) := by decide +kernel
theorem d_K_like_58 : decode b_K_like 58 = .ok (.iaload, 1) := by decide +kernel
theorem d_K_like_59 : decode b_K_like 59 = .ok (.iload_n 1, 1) := by decide +kernel
theorem d_K_like_60 : decode b_K_like 60 = .ok (.if_icmp .ne 21, 3) := by decide +kernel
theorem d_K_like_63 : decode b_K_like 63 = .ok (.aload_n 0, 1) := by decide +kernel
theorem d_K_like_64 : decode b_K_like 64 = .ok (.getfield 13, 3) := by decide +kernel
theorem d_K_like_67 : decode b_K_like 67 = .ok (.iload 5, 2) := by decide +kernel
theorem d_K_like_69 : decode b_K_like 69 = .ok (.iaload, 1) := by decide +kernel
theorem d_K_like_70 : decode b_K_like 70 = .ok (.iload_n 2, 1) := by decide +kernel
theorem d_K_like_71 : decode b_K_like 71 = .ok (.invokestatic 153, 3) := by decide +kernel
theorem d_K_like_74 : decode b_K_like 74 = .ok (.ifCond .eq 7, 3) := by decide +kernel
theorem d_K_like_77 : decode b_K_like 77 = .ok (.iconst 1, 1) := by decide +kernel
theorem d_K_like_78 : decode b_K_like 78 = .ok (.goto 4, 3) := by decide +kernel
theorem d_K_like_81 : decode b_K_like 81 = .ok (.iconst 0, 1) := by decide +kernel
theorem d_K_like_82 : decode b_K_like 82 = .ok (.istore 6, 2) := by decide +kernel
theorem d_K_like_84 : decode b_K_like 84 = .ok (.iload 6, 2) := by decide +kernel
theorem d_K_like_86 : decode b_K_like 86 = .ok (.ifCond .eq 11, 3) := by decide +kernel
theorem d_K_like_89 : decode b_K_like 89 = .ok (.iload 4, 2) := by decide +kernel
theorem d_K_like_91 : decode b_K_like 91 = .ok (.ifCond .ne 6, 3) := by decide +kernel
theorem d_K_like_94 : decode b_K_like 94 = .ok (.iload 5, 2) := by decide +kernel
theorem d_K_like_96 : decode b_K_like 96 = .ok (.ireturn, 1) := by decide +kernel
theorem d_K_like_97 : decode b_K_like 97 = .ok (.iload 4, 2) := by decide +kernel
theorem d_K_like_99 : decode b_K_like 99 = .ok (.iload 6, 2) := by decide +kernel
theorem d_K_like_101 : decode b_K_like 101 = .ok (.ifCond .eq 7, 3) := by decide +kernel
theorem d_K_like_104 : decode b_K_like 104 = .ok (.iconst 1, 1) := by decide +kernel
theorem d_K_like_105 : decode b_K_like 105 = .ok (.goto 4, 3) := by decide +kernel
theorem d_K_like_108 : decode b_K_like 108 = .ok (.iconst 0, 1) := by decide +kernel
theorem d_K_like_109 : decode b_K_like 109 = .ok (.isub, 1) := by decide +kernel
theorem d_K_like_110 : decode b_K_like 110 = .ok (.istore 4, 2) := by decide +kernel
theorem d_K_like_112 : decode b_K_like 112 = .ok (.iinc 5 1, 3) := by decide +kernel
theorem d_K_like_115 : decode b_K_like 115 = .ok (.goto (-72), 3) := by decide +kernel
theorem d_K_like_118 : decode b_K_like 118 = .ok (.iconst (-1), 1) := by decide +kernel
theorem d_K_like_119 : decode b_K_like 119 = .ok (.ireturn, 1) := by decide +kernel
theorem d_K_differing_0 : decode b_K_differing 0 = .ok (.iconst 0, 1) := by decide +kernel
theorem d_K_differing_1 : decode b_K_differing 1 = .ok (.istore_n 1, 1) := by decide +kernel
theorem d_K_differing_2 : decode b_K_differing 2 = .ok (.iconst 0, 1) := by decide +kernel
theorem d_K_differing_3 : decode b_K_differing 3 = .ok (.istore_n 2, 1) := by decide +kernel
theorem d_K_differing_4 : decode b_K_differing 4 = .ok (.iload_n 2, 1) := by decide +kernel
theorem d_K_differing_5 : decode b_K_differing 5 = .ok (.aload_n 0, 1) := by decide +kernel
theorem d_K_differing_6 : decode b_K_differing 6 = .ok (.getfield 60, 3) := by decide +kernel
theorem d_K_differing_9 : decode b_K_differing 9 = .ok (.if_icmp .ge 70, 3) := by decide +kernel
theorem d_K_differing_12 : decode b_K_differing 12 = .ok (.iconst 0, 1) := by decide +kernel
theorem d_K_differing_13 : decode b_K_differing 13 = .ok (.istore_n 3, 1) := by decide +kernel
theorem d_K_differing_14 : decode b_K_differing 14 = .ok (.iconst 0, 1) := by decide +kernel
theorem d_K_differing_15 : decode b_K_differing 15 = .ok (.istore 4, 2) := by decide +kernel
theorem d_K_differing_17 : decode b_K_differing 17 = .ok (.iload 4, 2) := by decide +kernel
theorem d_K_differing_19 : decode b_K_differing 19 = .ok (.aload_n 0, 1) := by decide +kernel
theorem d_K_differing_20 : decode b_K_differing 20 = .ok (.getfield 60, 3) := by decide +kernel
theorem d_K_differing_23 : decode b_K_differing 23 = .ok (.if_icmp .ge 38, 3) := by decide +kernel
theorem d_K_differing_26 : decode b_K_differing 26 = .ok (.iload_n 3, 1) := by decide +kernel
theorem d_K_differing_27 : decode b_K_differing 27 = .ok (.ifCond .ne 22, 3) := by decide +kernel
theorem d_K_differing_30 : decode b_K_differing 30 = .ok (.aload_n 0, 1) := by decide +kernel
theorem d_K_differing_31 : decode b_K_differing 31 = .ok (.iload 4, 2) := by decide +kernel
theorem d_K_differing_33 : decode b_K_differing 33 = .ok (.invokevirtual 147, 3) := by decide +kernel
theorem d_K_differing_36 : decode b_K_differing 36 = .ok (.iload_n 2, 1) := by decide +kernel
theorem d_K_differing_37 : decode b_K_differing 37 = .ok (.if_icmp .ne 16, 3) := by decide +kernel
theorem d_K_differing_40 : decode b_K_differing 40 = .ok (.aload_n 0, 1) := by decide +kernel
theorem d_K_differing_41 : decode b_K_differing 41 = .ok (.iload 4, 2) := by decide +kernel
theorem d_K_differing_43 : decode b_K_differing 43 = .ok (.invokevirtual 141, 3) := by decide +kernel
theorem d_K_differing_46 : decode b_K_differing 46 = .ok (.ifCond .eq 7, 3) := by decide +kernel
theorem d_K_differing_49 : decode b_K_differing 49 = .ok (.iconst 1, 1) := by decide +kernel
theorem d_K_differing_50 : decode b_K_differing 50 = .ok (.goto 4, 3) := by decide +kernel
theorem d_K_differing_53 : decode b_K_differing 53 = .ok (.iconst 0, 1) := by decide +kernel
theorem d_K_differing_54 : decode b_K_differing 54 = .ok (.istore_n 3, 1) := by decide +kernel
theorem d_K_differing_55 : decode b_K_differing 55 = .ok (.iinc 4 1, 3) := by decide +kernel
theorem d_K_differing_58 : decode b_K_differing 58 = .ok (.goto (-41), 3) := by decide +kernel
theorem d_K_differing_61 : decode b_K_differing 61 = .ok (.iload_n 1, 1) := by decide +kernel
theorem d_K_differing_62 : decode b_K_differing 62 = .ok (.iload_n 3, 1) := by decide +kernel
theorem d_K_differing_63 : decode b_K_differing 63 = .ok (.ifCond .eq 7, 3) := by decide +kernel
theorem d_K_differing_66 : decode b_K_differing 66 = .ok (.iconst 1, 1) := by decide +kernel
theorem d_K_differing_67 : decode b_K_differing 67 = .ok (.goto 4, 3) := by decide +kernel
theorem d_K_differing_70 : decode b_K_differing 70 = .ok (.iconst 0, 1) := by decide +kernel
theorem d_K_differing_71 : decode b_K_differing 71 = .ok (.iadd, 1) := by decide +kernel
theorem d_K_differing_72 : decode b_K_differing 72 = .ok (.istore_n 1, 1) := by decide +kernel
theorem d_K_differing_73 : decode b_K_differing 73 = .ok (.iinc 2 1, 3) := by decide +kernel
theorem d_K_differing_76 : decode b_K_differing 76 = .ok (.goto (-72), 3) := by decide +kernel
theorem d_K_differing_79 : decode b_K_differing 79 = .ok (.iload_n 1, 1) := by decide +kernel
theorem d_K_differing_80 : decode b_K_differing 80 = .ok (.ireturn, 1) := by decide +kernel
theorem d_K_count_0 : decode b_K_count 0 = .ok (.aload_n 0, 1) := by decide +kernel
theorem d_K_count_1 : decode b_K_count 1 = .ok (.iconst 0, 1) := by decide +kernel
theorem d_K_count_2 : decode b_K_count 2 = .ok (.putfield 56, 3) := by decide +kernel
theorem d_K_count_5 : decode b_K_count 5 = .ok (.iconst 0, 1) := by decide +kernel
theorem d_K_count_6 : decode b_K_count 6 = .ok (.istore_n 2, 1) := by decide +kernel
theorem d_K_count_7 : decode b_K_count 7 = .ok (.iconst 0, 1) := by decide +kernel
theorem d_K_count_8 : decode b_K_count 8 = .ok (.istore_n 3, 1) := by decide +kernel
theorem d_K_count_9 : decode b_K_count 9 = .ok (.iconst 0, 1) := by decide +kernel
theorem d_K_count_10 : decode b_K_count 10 = .ok (.istore 4, 2) := by decide +kernel
theorem d_K_count_12 : decode b_K_count 12 = .ok (.iload 4, 2) := by decide +kernel
theorem d_K_count_14 : decode b_K_count 14 = .ok (.aload_n 0, 1) := by decide +kernel
theorem d_K_count_15 : decode b_K_count 15 = .ok (.getfield 63, 3) := by decide +kernel
theorem d_K_count_18 : decode b_K_count 18 = .ok (.if_icmp .ge 44, 3) := by decide +kernel
theorem d_K_count_21 : decode b_K_count 21 = .ok (.iload_n 2, 1) := by decide +kernel
theorem d_K_count_22 : decode b_K_count 22 = .ok (.aload_n 0, 1) := by decide +kernel
theorem d_K_count_23 : decode b_K_count 23 = .ok (.getfield 43, 3) := by decide +kernel
theorem d_K_count_26 : decode b_K_count 26 = .ok (.iload 4, 2) := by decide +kernel
theorem d_K_count_28 : decode b_K_count 28 = .ok (.iaload, 1) := by decide +kernel
theorem d_K_count_29 : decode b_K_count 29 = .ok (.ifCond .lt 7, 3) := by decide +kernel
theorem d_K_count_32 : decode b_K_count 32 = .ok (.iconst 1, 1) := by decide +kernel
theorem d_K_count_33 : decode b_K_count 33 = .ok (.goto 4, 3) := by decide +kernel
theorem d_K_count_36 : decode b_K_count 36 = .ok (.iconst 0, 1) := by decide +kernel
theorem d_K_count_37 : decode b_K_count 37 = .ok (.iadd, 1) := by decide +kernel
theorem d_K_count_38 : decode b_K_count 38 = .ok (.istore_n 2, 1) := by decide +kernel
theorem d_K_count_39 : decode b_K_count 39 = .ok (.iload_n 3, 1) := by decide +kernel
theorem d_K_count_40 : decode b_K_count 40 = .ok (.aload_n 0, 1) := by decide +kernel
theorem d_K_count_41 : decode b_K_count 41 = .ok (.iload 4, 2) := by decide +kernel
theorem d_K_count_43 : decode b_K_count 43 = .ok (.invokevirtual 150, 3) := by decide +kernel
theorem d_K_count_46 : decode b_K_count 46 = .ok (.ifCond .eq 7, 3) := by decide +kernel
theorem d_K_count_49 : decode b_K_count 49 = .ok (.iconst 1, 1) := by decide +kernel
theorem d_K_count_50 : decode b_K_count 50 = .ok (.goto 4, 3) := by decide +kernel
theorem d_K_count_53 : decode b_K_count 53 = .ok (.iconst 0, 1) := by decide +kernel
theorem d_K_count_54 : decode b_K_count 54 = .ok (.iadd, 1) := by decide +kernel
theorem d_K_count_55 : decode b_K_count 55 = .ok (.istore_n 3, 1) := by decide +kernel
theorem d_K_count_56 : decode b_K_count 56 = .ok (.iinc 4 1, 3) := by decide +kernel
theorem d_K_count_59 : decode b_K_count 59 = .ok (.goto (-47), 3) := by decide +kernel
theorem d_K_count_62 : decode b_K_count 62 = .ok (.iload_n 1, 1) := by decide +kernel
theorem d_K_count_63 : decode b_K_count 63 = .ok (.tableswitch 88 0 8 #[49, 54, 59, 64, 69, 74, 76, 78, 83], 49) := by decide +kernel
theorem d_K_count_112 : decode b_K_count 112 = .ok (.aload_n 0, 1) := by decide +kernel
theorem d_K_count_113 : decode b_K_count 113 = .ok (.getfield 60, 3) := by decide +kernel
theorem d_K_count_116 : decode b_K_count 116 = .ok (.ireturn, 1) := by decide +kernel
theorem d_K_count_117 : decode b_K_count 117 = .ok (.aload_n 0, 1) := by decide +kernel
theorem d_K_count_118 : decode b_K_count 118 = .ok (.getfield 63, 3) := by decide +kernel
theorem d_K_count_121 : decode b_K_count 121 = .ok (.ireturn, 1) := by decide +kernel
theorem d_K_count_122 : decode b_K_count 122 = .ok (.aload_n 0, 1) := by decide +kernel
theorem d_K_count_123 : decode b_K_count 123 = .ok (.getfield 66, 3) := by decide +kernel
theorem d_K_count_126 : decode b_K_count 126 = .ok (.ireturn, 1) := by decide +kernel
theorem d_K_count_127 : decode b_K_count 127 = .ok (.aload_n 0, 1) := by decide +kernel
theorem d_K_count_128 : decode b_K_count 128 = .ok (.getfield 119, 3) := by decide +kernel
theorem d_K_count_131 : decode b_K_count 131 = .ok (.ireturn, 1) := by decide +kernel
theorem d_K_count_132 : decode b_K_count 132 = .ok (.aload_n 0, 1) := by decide +kernel
theorem d_K_count_133 : decode b_K_count 133 = .ok (.getfield 125, 3) := by decide +kernel
theorem d_K_count_136 : decode b_K_count 136 = .ok (.ireturn, 1) := by decide +kernel
theorem d_K_count_137 : decode b_K_count 137 = .ok (.iload_n 2, 1) := by decide +kernel
theorem d_K_count_138 : decode b_K_count 138 = .ok (.ireturn, 1) := by decide +kernel
theorem d_K_count_139 : decode b_K_count 139 = .ok (.iload_n 3, 1) := by decide +kernel
theorem d_K_count_140 : decode b_K_count 140 = .ok (.ireturn, 1) := by decide +kernel
theorem d_K_count_141 : decode b_K_count 141 = .ok (.aload_n 0, 1) := by decide +kernel
theorem d_K_count_142 : decode b_K_count 142 = .ok (.getfield 113, 3) := by decide +kernel
theorem d_K_count_145 : decode b_K_count 145 = .ok (.ireturn, 1) := by decide +kernel
theorem d_K_count_146 : decode b_K_count 146 = .ok (.aload_n 0, 1) := by decide +kernel
theorem d_K_count_147 : decode b_K_count 147 = .ok (.invokevirtual 156, 3) := by decide +kernel
theorem d_K_count_150 : decode b_K_count 150 = .ok (.ireturn, 1) := by decide +kernel
theorem d_K_count_151 : decode b_K_count 151 = .ok (.iconst (-1), 1) := by decide +kernel
theorem d_K_count_152 : decode b_K_count 152 = .ok (.ireturn, 1) := by decide +kernel
