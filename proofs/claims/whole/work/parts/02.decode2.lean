theorem d_M_look_273 : decode b_M_look 273 = .ok (.getfield 209, 3) := by decide +kernel
theorem d_M_look_276 : decode b_M_look 276 = .ok (.iload_n 1, 1) := by decide +kernel
theorem d_M_look_277 : decode b_M_look 277 = .ok (.iaload, 1) := by decide +kernel
theorem d_M_look_278 : decode b_M_look 278 = .ok (.ireturn, 1) := by decide +kernel
theorem d_M_look_279 : decode b_M_look 279 = .ok (.new 180, 3) := by decide +kernel
theorem d_M_look_282 : decode b_M_look 282 = .ok (.dup, 1) := by decide +kernel
theorem d_M_look_283 : decode b_M_look 283 = .ok (.ldc 212, 2) := by decide +kernel
theorem d_M_look_285 : decode b_M_look 285 = .ok (.invokespecial 184, 3) := by decide +kernel
theorem d_M_look_288 : decode b_M_look 288 = .ok (.athrow, 1) := by decide +kernel
theorem d_M_seen_0 : decode b_M_seen 0 = .ok (.aload_n 0, 1) := by decide +kernel
theorem d_M_seen_1 : decode b_M_seen 1 = .ok (.getfield 26, 3) := by decide +kernel
theorem d_M_seen_4 : decode b_M_seen 4 = .ok (.iload_n 1, 1) := by decide +kernel
theorem d_M_seen_5 : decode b_M_seen 5 = .ok (.invokevirtual 92, 3) := by decide +kernel
theorem d_M_seen_8 : decode b_M_seen 8 = .ok (.ifCond .eq 13, 3) := by decide +kernel
theorem d_M_seen_11 : decode b_M_seen 11 = .ok (.iload_n 2, 1) := by decide +kernel
theorem d_M_seen_12 : decode b_M_seen 12 = .ok (.ifCond .lt 9, 3) := by decide +kernel
theorem d_M_seen_15 : decode b_M_seen 15 = .ok (.iload_n 2, 1) := by decide +kernel
theorem d_M_seen_16 : decode b_M_seen 16 = .ok (.bipush 13, 2) := by decide +kernel
theorem d_M_seen_18 : decode b_M_seen 18 = .ok (.if_icmp .le 13, 3) := by decide +kernel
theorem d_M_seen_21 : decode b_M_seen 21 = .ok (.new 180, 3) := by decide +kernel
theorem d_M_seen_24 : decode b_M_seen 24 = .ok (.dup, 1) := by decide +kernel
theorem d_M_seen_25 : decode b_M_seen 25 = .ok (.ldc 214, 2) := by decide +kernel
theorem d_M_seen_27 : decode b_M_seen 27 = .ok (.invokespecial 184, 3) := by decide +kernel
theorem d_M_seen_30 : decode b_M_seen 30 = .ok (.athrow, 1) := by decide +kernel
theorem d_M_seen_31 : decode b_M_seen 31 = .ok (.iload_n 2, 1) := by decide +kernel
theorem d_M_seen_32 : decode b_M_seen 32 = .ok (.tableswitch 160 0 9 #[56, 66, 76, 86, 96, 105, 122, 132, 142, 151], 56) := by decide +kernel
theorem d_M_seen_88 : decode b_M_seen 88 = .ok (.aload_n 0, 1) := by decide +kernel
theorem d_M_seen_89 : decode b_M_seen 89 = .ok (.getfield 26, 3) := by decide +kernel
theorem d_M_seen_92 : decode b_M_seen 92 = .ok (.getfield 93, 3) := by decide +kernel
theorem d_M_seen_95 : decode b_M_seen 95 = .ok (.iload_n 1, 1) := by decide +kernel
theorem d_M_seen_96 : decode b_M_seen 96 = .ok (.iaload, 1) := by decide +kernel
theorem d_M_seen_97 : decode b_M_seen 97 = .ok (.ireturn, 1) := by decide +kernel
theorem d_M_seen_98 : decode b_M_seen 98 = .ok (.aload_n 0, 1) := by decide +kernel
theorem d_M_seen_99 : decode b_M_seen 99 = .ok (.getfield 26, 3) := by decide +kernel
theorem d_M_seen_102 : decode b_M_seen 102 = .ok (.getfield 216, 3) := by decide +kernel
theorem d_M_seen_105 : decode b_M_seen 105 = .ok (.iload_n 1, 1) := by decide +kernel
theorem d_M_seen_106 : decode b_M_seen 106 = .ok (.iaload, 1) := by decide +kernel
theorem d_M_seen_107 : decode b_M_seen 107 = .ok (.ireturn, 1) := by decide +kernel
theorem d_M_seen_108 : decode b_M_seen 108 = .ok (.aload_n 0, 1) := by decide +kernel
theorem d_M_seen_109 : decode b_M_seen 109 = .ok (.getfield 26, 3) := by decide +kernel
theorem d_M_seen_112 : decode b_M_seen 112 = .ok (.getfield 217, 3) := by decide +kernel
theorem d_M_seen_115 : decode b_M_seen 115 = .ok (.iload_n 1, 1) := by decide +kernel
theorem d_M_seen_116 : decode b_M_seen 116 = .ok (.iaload, 1) := by decide +kernel
theorem d_M_seen_117 : decode b_M_seen 117 = .ok (.ireturn, 1) := by decide +kernel
theorem d_M_seen_118 : decode b_M_seen 118 = .ok (.aload_n 0, 1) := by decide +kernel
theorem d_M_seen_119 : decode b_M_seen 119 = .ok (.getfield 26, 3) := by decide +kernel
theorem d_M_seen_122 : decode b_M_seen 122 = .ok (.getfield 115, 3) := by decide +kernel
theorem d_M_seen_125 : decode b_M_seen 125 = .ok (.iload_n 1, 1) := by decide +kernel
theorem d_M_seen_126 : decode b_M_seen 126 = .ok (.iaload, 1) := by decide +kernel
theorem d_M_seen_127 : decode b_M_seen 127 = .ok (.ireturn, 1) := by decide +kernel
theorem d_M_seen_128 : decode b_M_seen 128 = .ok (.aload_n 0, 1) := by decide +kernel
theorem d_M_seen_129 : decode b_M_seen 129 = .ok (.getfield 26, 3) := by decide +kernel
theorem d_M_seen_132 : decode b_M_seen 132 = .ok (.iload_n 1, 1) := by decide +kernel
theorem d_M_seen_133 : decode b_M_seen 133 = .ok (.invokevirtual 101, 3) := by decide +kernel
theorem d_M_seen_136 : decode b_M_seen 136 = .ok (.ireturn, 1) := by decide +kernel
theorem d_M_seen_137 : decode b_M_seen 137 = .ok (.aload_n 0, 1) := by decide +kernel
theorem d_M_seen_138 : decode b_M_seen 138 = .ok (.getfield 26, 3) := by decide +kernel
theorem d_M_seen_141 : decode b_M_seen 141 = .ok (.iload_n 1, 1) := by decide +kernel
theorem d_M_seen_142 : decode b_M_seen 142 = .ok (.invokevirtual 220, 3) := by decide +kernel
theorem d_M_seen_145 : decode b_M_seen 145 = .ok (.ifCond .eq 7, 3) := by decide +kernel
theorem d_M_seen_148 : decode b_M_seen 148 = .ok (.iconst 1, 1) := by decide +kernel
theorem d_M_seen_149 : decode b_M_seen 149 = .ok (.goto 4, 3) := by decide +kernel
theorem d_M_seen_152 : decode b_M_seen 152 = .ok (.iconst 0, 1) := by decide +kernel
theorem d_M_seen_153 : decode b_M_seen 153 = .ok (.ireturn, 1) := by decide +kernel
theorem d_M_seen_154 : decode b_M_seen 154 = .ok (.aload_n 0, 1) := by decide +kernel
theorem d_M_seen_155 : decode b_M_seen 155 = .ok (.getfield 26, 3) := by decide +kernel
theorem d_M_seen_158 : decode b_M_seen 158 = .ok (.getfield 146, 3) := by decide +kernel
theorem d_M_seen_161 : decode b_M_seen 161 = .ok (.iload_n 1, 1) := by decide +kernel
theorem d_M_seen_162 : decode b_M_seen 162 = .ok (.iaload, 1) := by decide +kernel
theorem d_M_seen_163 : decode b_M_seen 163 = .ok (.ireturn, 1) := by decide +kernel
theorem d_M_seen_164 : decode b_M_seen 164 = .ok (.aload_n 0, 1) := by decide +kernel
theorem d_M_seen_165 : decode b_M_seen 165 = .ok (.getfield 26, 3) := by decide +kernel
theorem d_M_seen_168 : decode b_M_seen 168 = .ok (.getfield 171, 3) := by decide +kernel
theorem d_M_seen_171 : decode b_M_seen 171 = .ok (.iload_n 1, 1) := by decide +kernel
theorem d_M_seen_172 : decode b_M_seen 172 = .ok (.iaload, 1) := by decide +kernel
theorem d_M_seen_173 : decode b_M_seen 173 = .ok (.ireturn, 1) := by decide +kernel
theorem d_M_seen_174 : decode b_M_seen 174 = .ok (.aload_n 0, 1) := by decide +kernel
theorem d_M_seen_175 : decode b_M_seen 175 = .ok (.getfield 26, 3) := by decide +kernel
theorem d_M_seen_178 : decode b_M_seen 178 = .ok (.iload_n 1, 1) := by decide +kernel
theorem d_M_seen_179 : decode b_M_seen 179 = .ok (.invokevirtual 177, 3) := by decide +kernel
theorem d_M_seen_182 : decode b_M_seen 182 = .ok (.ireturn, 1) := by decide +kernel
theorem d_M_seen_183 : decode b_M_seen 183 = .ok (.aload_n 0, 1) := by decide +kernel
theorem d_M_seen_184 : decode b_M_seen 184 = .ok (.getfield 26, 3) := by decide +kernel
theorem d_M_seen_187 : decode b_M_seen 187 = .ok (.iload_n 1, 1) := by decide +kernel
theorem d_M_seen_188 : decode b_M_seen 188 = .ok (.invokevirtual 223, 3) := by decide +kernel
theorem d_M_seen_191 : decode b_M_seen 191 = .ok (.ireturn, 1) := by decide +kernel
theorem d_M_seen_192 : decode b_M_seen 192 = .ok (.aload_n 0, 1) := by decide +kernel
theorem d_M_seen_193 : decode b_M_seen 193 = .ok (.getfield 26, 3) := by decide +kernel
theorem d_M_seen_196 : decode b_M_seen 196 = .ok (.iload_n 1, 1) := by decide +kernel
theorem d_M_seen_197 : decode b_M_seen 197 = .ok (.iload_n 2, 1) := by decide +kernel
theorem d_M_seen_198 : decode b_M_seen 198 = .ok (.bipush 10, 2) := by decide +kernel
theorem d_M_seen_200 : decode b_M_seen 200 = .ok (.isub, 1) := by decide +kernel
theorem d_M_seen_201 : decode b_M_seen 201 = .ok (.invokevirtual 226, 3) := by decide +kernel
theorem d_M_seen_204 : decode b_M_seen 204 = .ok (.istore_n 3, 1) := by decide +kernel
theorem d_M_seen_205 : decode b_M_seen 205 = .ok (.iload_n 3, 1) := by decide +kernel
theorem d_M_seen_206 : decode b_M_seen 206 = .ok (.iconst (-1), 1) := by decide +kernel
theorem d_M_seen_207 : decode b_M_seen 207 = .ok (.if_icmp .ne 13, 3) := by decide +kernel
theorem d_M_seen_210 : decode b_M_seen 210 = .ok (.new 229, 3) := by decide +kernel
theorem d_M_seen_213 : decode b_M_seen 213 = .ok (.dup, 1) := by decide +kernel
theorem d_M_seen_214 : decode b_M_seen 214 = .ok (.ldc 231, 2) := by decide +kernel
theorem d_M_seen_216 : decode b_M_seen 216 = .ok (.invokespecial 233, 3) := by decide +kernel
theorem d_M_seen_219 : decode b_M_seen 219 = .ok (.athrow, 1) := by decide +kernel
theorem d_M_seen_220 : decode b_M_seen 220 = .ok (.iload_n 3, 1) := by decide +kernel
theorem d_M_seen_221 : decode b_M_seen 221 = .ok (.ireturn, 1) := by decide +kernel
theorem d_M_waits_0 : decode b_M_waits 0 = .ok (.iconst 0, 1) := by decide +kernel
theorem d_M_waits_1 : decode b_M_waits 1 = .ok (.istore_n 2, 1) := by decide +kernel
theorem d_M_waits_2 : decode b_M_waits 2 = .ok (.iconst 0, 1) := by decide +kernel
theorem d_M_waits_3 : decode b_M_waits 3 = .ok (.istore_n 3, 1) := by decide +kernel
theorem d_M_waits_4 : decode b_M_waits 4 = .ok (.iload_n 3, 1) := by decide +kernel
theorem d_M_waits_5 : decode b_M_waits 5 = .ok (.aload_n 0, 1) := by decide +kernel
theorem d_M_waits_6 : decode b_M_waits 6 = .ok (.getfield 26, 3) := by decide +kernel
theorem d_M_waits_9 : decode b_M_waits 9 = .ok (.getfield 234, 3) := by decide +kernel
theorem d_M_waits_12 : decode b_M_waits 12 = .ok (.if_icmp .ge 30, 3) := by decide +kernel
theorem d_M_waits_15 : decode b_M_waits 15 = .ok (.aload_n 0, 1) := by decide +kernel
theorem d_M_waits_16 : decode b_M_waits 16 = .ok (.getfield 26, 3) := by decide +kernel
theorem d_M_waits_19 : decode b_M_waits 19 = .ok (.iload_n 3, 1) := by decide +kernel
theorem d_M_waits_20 : decode b_M_waits 20 = .ok (.invokevirtual 220, 3) := by decide +kernel
theorem d_M_waits_23 : decode b_M_waits 23 = .ok (.ifCond .eq 13, 3) := by decide +kernel
theorem d_M_waits_26 : decode b_M_waits 26 = .ok (.iload_n 2, 1) := by decide +kernel
theorem d_M_waits_27 : decode b_M_waits 27 = .ok (.iload_n 1, 1) := by decide +kernel
theorem d_M_waits_28 : decode b_M_waits 28 = .ok (.if_icmp .ne 5, 3) := by decide +kernel
theorem d_M_waits_31 : decode b_M_waits 31 = .ok (.iload_n 3, 1) := by decide +kernel
theorem d_M_waits_32 : decode b_M_waits 32 = .ok (.ireturn, 1) := by decide +kernel
theorem d_M_waits_33 : decode b_M_waits 33 = .ok (.iinc 2 1, 3) := by decide +kernel
theorem d_M_waits_36 : decode b_M_waits 36 = .ok (.iinc 3 1, 3) := by decide +kernel
theorem d_M_waits_39 : decode b_M_waits 39 = .ok (.goto (-35), 3) := by decide +kernel
theorem d_M_waits_42 : decode b_M_waits 42 = .ok (.iconst (-1), 1) := by decide +kernel
theorem d_M_waits_43 : decode b_M_waits 43 = .ok (.ireturn, 1) := by decide +kernel
theorem d_M_like_0 : decode b_M_like 0 = .ok (.iload_n 1, 1) := by decide +kernel
theorem d_M_like_1 : decode b_M_like 1 = .ok (.invokestatic 37, 3) := by decide +kernel
theorem d_M_like_4 : decode b_M_like 4 = .ok (.ifCond .eq 10, 3) := by decide +kernel
theorem d_M_like_7 : decode b_M_like 7 = .ok (.iload_n 2, 1) := by decide +kernel
theorem d_M_like_8 : decode b_M_like 8 = .ok (.invokestatic 41, 3) := by decide +kernel
theorem d_M_like_11 : decode b_M_like 11 = .ok (.ifCond .ne 13, 3) := by decide +kernel
theorem d_M_like_14 : decode b_M_like 14 = .ok (.new 44, 3) := by decide +kernel
theorem d_M_like_17 : decode b_M_like 17 = .ok (.dup, 1) := by decide +kernel
theorem d_M_like_18 : decode b_M_like 18 = .ok (.ldc 46, 2) := by decide +kernel
theorem d_M_like_20 : decode b_M_like 20 = .ok (.invokespecial 48, 3) := by decide +kernel
theorem d_M_like_23 : decode b_M_like 23 = .ok (.athrow, 1) := by decide +kernel
theorem d_M_like_24 : decode b_M_like 24 = .ok (.iconst 0, 1) := by decide +kernel
theorem d_M_like_25 : decode b_M_like 25 = .ok (.istore 4, 2) := by decide +kernel
theorem d_M_like_27 : decode b_M_like 27 = .ok (.iconst 0, 1) := by decide +kernel
theorem d_M_like_28 : decode b_M_like 28 = .ok (.istore 5, 2) := by decide +kernel
theorem d_M_like_30 : decode b_M_like 30 = .ok (.iload 5, 2) := by decide +kernel
theorem d_M_like_32 : decode b_M_like 32 = .ok (.aload_n 0, 1) := by decide +kernel
theorem d_M_like_33 : decode b_M_like 33 = .ok (.getfield 12, 3) := by decide +kernel
theorem d_M_like_36 : decode b_M_like 36 = .ok (.getfield 237, 3) := by decide +kernel
theorem d_M_like_39 : decode b_M_like 39 = .ok (.if_icmp .ge 52, 3) := by decide +kernel
theorem d_M_like_42 : decode b_M_like 42 = .ok (.aload_n 0, 1) := by decide +kernel
theorem d_M_like_43 : decode b_M_like 43 = .ok (.getfield 12, 3) := by decide +kernel
theorem d_M_like_46 : decode b_M_like 46 = .ok (.getfield 97, 3) := by decide +kernel
theorem d_M_like_49 : decode b_M_like 49 = .ok (.iload 5, 2) := by decide +kernel
theorem d_M_like_51 : decode b_M_like 51 = .ok (.iaload, 1) := by decide +kernel
theorem d_M_like_52 : decode b_M_like 52 = .ok (.iload_n 1, 1) := by decide +kernel
theorem d_M_like_53 : decode b_M_like 53 = .ok (.if_icmp .ne 32, 3) := by decide +kernel
theorem d_M_like_56 : decode b_M_like 56 = .ok (.aload_n 0, 1) := by decide +kernel
theorem d_M_like_57 : decode b_M_like 57 = .ok (.getfield 12, 3) := by decide +kernel
theorem d_M_like_60 : decode b_M_like 60 = .ok (.getfield 185, 3) := by decide +kernel
theorem d_M_like_63 : decode b_M_like 63 = .ok (.iload 5, 2) := by decide +kernel
theorem d_M_like_65 : decode b_M_like 65 = .ok (.iaload, 1) := by decide +kernel
theorem d_M_like_66 : decode b_M_like 66 = .ok (.iload_n 2, 1) := by decide +kernel
theorem d_M_like_67 : decode b_M_like 67 = .ok (.invokestatic 238, 3) := by decide +kernel
theorem d_M_like_70 : decode b_M_like 70 = .ok (.ifCond .eq 15, 3) := by decide +kernel
theorem d_M_like_73 : decode b_M_like 73 = .ok (.iload 4, 2) := by decide +kernel
theorem d_M_like_75 : decode b_M_like 75 = .ok (.iload_n 3, 1) := by decide +kernel
theorem d_M_like_76 : decode b_M_like 76 = .ok (.if_icmp .ne 6, 3) := by decide +kernel
theorem d_M_like_79 : decode b_M_like 79 = .ok (.iload 5, 2) := by decide +kernel
theorem d_M_like_81 : decode b_M_like 81 = .ok (.ireturn, 1) := by decide +kernel
theorem d_M_like_82 : decode b_M_like 82 = .ok (.iinc 4 1, 3) := by decide +kernel
theorem d_M_like_85 : decode b_M_like 85 = .ok (.iinc 5 1, 3) := by decide +kernel
theorem d_M_like_88 : decode b_M_like 88 = .ok (.goto (-58), 3) := by decide +kernel
theorem d_M_like_91 : decode b_M_like 91 = .ok (.iconst (-1), 1) := by decide +kernel
theorem d_M_like_92 : decode b_M_like 92 = .ok (.ireturn, 1) := by decide +kernel
theorem d_M_count_0 : decode b_M_count 0 = .ok (.iload_n 1, 1) := by decide +kernel
theorem d_M_count_1 : decode b_M_count 1 = .ok (.tableswitch 114 0 8 #[51, 59, 67, 75, 80, 88, 96, 104, 109], 51) := by decide +kernel
theorem d_M_count_52 : decode b_M_count 52 = .ok (.aload_n 0, 1) := by decide +kernel
theorem d_M_count_53 : decode b_M_count 53 = .ok (.getfield 12, 3) := by decide +kernel
theorem d_M_count_56 : decode b_M_count 56 = .ok (.getfield 237, 3) := by decide +kernel
theorem d_M_count_59 : decode b_M_count 59 = .ok (.ireturn, 1) := by decide +kernel
theorem d_M_count_60 : decode b_M_count 60 = .ok (.aload_n 0, 1) := by decide +kernel
theorem d_M_count_61 : decode b_M_count 61 = .ok (.getfield 26, 3) := by decide +kernel
theorem d_M_count_64 : decode b_M_count 64 = .ok (.getfield 234, 3) := by decide +kernel
theorem d_M_count_67 : decode b_M_count 67 = .ok (.ireturn, 1) := by decide +kernel
theorem d_M_count_68 : decode b_M_count 68 = .ok (.aload_n 0, 1) := by decide +kernel
theorem d_M_count_69 : decode b_M_count 69 = .ok (.getfield 19, 3) := by decide +kernel
theorem d_M_count_72 : decode b_M_count 72 = .ok (.getfield 241, 3) := by decide +kernel
theorem d_M_count_75 : decode b_M_count 75 = .ok (.ireturn, 1) := by decide +kernel
theorem d_M_count_76 : decode b_M_count 76 = .ok (.aload_n 0, 1) := by decide +kernel
theorem d_M_count_77 : decode b_M_count 77 = .ok (.getfield 34, 3) := by decide +kernel
theorem d_M_count_80 : decode b_M_count 80 = .ok (.ireturn, 1) := by decide +kernel
theorem d_M_count_81 : decode b_M_count 81 = .ok (.aload_n 0, 1) := by decide +kernel
theorem d_M_count_82 : decode b_M_count 82 = .ok (.getfield 26, 3) := by decide +kernel
theorem d_M_count_85 : decode b_M_count 85 = .ok (.invokevirtual 242, 3) := by decide +kernel
theorem d_M_count_88 : decode b_M_count 88 = .ok (.ireturn, 1) := by decide +kernel
theorem d_M_count_89 : decode b_M_count 89 = .ok (.aload_n 0, 1) := by decide +kernel
theorem d_M_count_90 : decode b_M_count 90 = .ok (.getfield 26, 3) := by decide +kernel
theorem d_M_count_93 : decode b_M_count 93 = .ok (.invokevirtual 246, 3) := by decide +kernel
theorem d_M_count_96 : decode b_M_count 96 = .ok (.ireturn, 1) := by decide +kernel
theorem d_M_count_97 : decode b_M_count 97 = .ok (.aload_n 0, 1) := by decide +kernel
theorem d_M_count_98 : decode b_M_count 98 = .ok (.getfield 26, 3) := by decide +kernel
theorem d_M_count_101 : decode b_M_count 101 = .ok (.invokevirtual 249, 3) := by decide +kernel
theorem d_M_count_104 : decode b_M_count 104 = .ok (.ireturn, 1) := by decide +kernel
theorem d_M_count_105 : decode b_M_count 105 = .ok (.aload_n 0, 1) := by decide +kernel
theorem d_M_count_106 : decode b_M_count 106 = .ok (.getfield 30, 3) := by decide +kernel
theorem d_M_count_109 : decode b_M_count 109 = .ok (.ireturn, 1) := by decide +kernel
theorem d_M_count_110 : decode b_M_count 110 = .ok (.aload_n 0, 1) := by decide +kernel
theorem d_M_count_111 : decode b_M_count 111 = .ok (.invokevirtual 252, 3) := by decide +kernel
theorem d_M_count_114 : decode b_M_count 114 = .ok (.ireturn, 1) := by decide +kernel
theorem d_M_count_115 : decode b_M_count 115 = .ok (.iconst (-1), 1) := by decide +kernel
theorem d_M_count_116 : decode b_M_count 116 = .ok (.ireturn, 1) := by decide +kernel
theorem d_M_hasArrived_0 : decode b_M_hasArrived 0 = .ok (.aload_n 0, 1) := by decide +kernel
theorem d_M_hasArrived_1 : decode b_M_hasArrived 1 = .ok (.getfield 30, 3) := by decide +kernel
theorem d_M_hasArrived_4 : decode b_M_hasArrived 4 = .ok (.iconst 1, 1) := by decide +kernel
theorem d_M_hasArrived_5 : decode b_M_hasArrived 5 = .ok (.iload_n 1, 1) := by decide +kernel
theorem d_M_hasArrived_6 : decode b_M_hasArrived 6 = .ok (.ishl, 1) := by decide +kernel
theorem d_M_hasArrived_7 : decode b_M_hasArrived 7 = .ok (.iand, 1) := by decide +kernel
theorem d_M_hasArrived_8 : decode b_M_hasArrived 8 = .ok (.ifCond .eq 7, 3) := by decide +kernel
theorem d_M_hasArrived_11 : decode b_M_hasArrived 11 = .ok (.iconst 1, 1) := by decide +kernel
theorem d_M_hasArrived_12 : decode b_M_hasArrived 12 = .ok (.goto 4, 3) := by decide +kernel
theorem d_M_hasArrived_15 : decode b_M_hasArrived 15 = .ok (.iconst 0, 1) := by decide +kernel
theorem d_M_hasArrived_16 : decode b_M_hasArrived 16 = .ok (.ireturn, 1) := by decide +kernel
theorem d_M_difference_0 : decode b_M_difference 0 = .ok (.iconst 0, 1) := by decide +kernel
theorem d_M_difference_1 : decode b_M_difference 1 = .ok (.istore_n 2, 1) := by decide +kernel
theorem d_M_difference_2 : decode b_M_difference 2 = .ok (.iconst 0, 1) := by decide +kernel
theorem d_M_difference_3 : decode b_M_difference 3 = .ok (.istore_n 3, 1) := by decide +kernel
theorem d_M_difference_4 : decode b_M_difference 4 = .ok (.iconst 0, 1) := by decide +kernel
theorem d_M_difference_5 : decode b_M_difference 5 = .ok (.istore 4, 2) := by decide +kernel
theorem d_M_difference_7 : decode b_M_difference 7 = .ok (.iload 4, 2) := by decide +kernel
theorem d_M_difference_9 : decode b_M_difference 9 = .ok (.aload_n 0, 1) := by decide +kernel
theorem d_M_difference_10 : decode b_M_difference 10 = .ok (.getfield 12, 3) := by decide +kernel
theorem d_M_difference_13 : decode b_M_difference 13 = .ok (.getfield 237, 3) := by decide +kernel
theorem d_M_difference_16 : decode b_M_difference 16 = .ok (.if_icmp .ge 39, 3) := by decide +kernel
theorem d_M_difference_19 : decode b_M_difference 19 = .ok (.aload_n 0, 1) := by decide +kernel
theorem d_M_difference_20 : decode b_M_difference 20 = .ok (.getfield 12, 3) := by decide +kernel
theorem d_M_difference_23 : decode b_M_difference 23 = .ok (.getfield 168, 3) := by decide +kernel
theorem d_M_difference_26 : decode b_M_difference 26 = .ok (.iload 4, 2) := by decide +kernel
theorem d_M_difference_28 : decode b_M_difference 28 = .ok (.iaload, 1) := by decide +kernel
theorem d_M_difference_29 : decode b_M_difference 29 = .ok (.iload_n 1, 1) := by decide +kernel
theorem d_M_difference_30 : decode b_M_difference 30 = .ok (.if_icmp .ne 19, 3) := by decide +kernel
theorem d_M_difference_33 : decode b_M_difference 33 = .ok (.iinc 2 1, 3) := by decide +kernel
theorem d_M_difference_36 : decode b_M_difference 36 = .ok (.iload_n 3, 1) := by decide +kernel
theorem d_M_difference_37 : decode b_M_difference 37 = .ok (.aload_n 0, 1) := by decide +kernel
theorem d_M_difference_38 : decode b_M_difference 38 = .ok (.getfield 19, 3) := by decide +kernel
theorem d_M_difference_41 : decode b_M_difference 41 = .ok (.getfield 156, 3) := by decide +kernel
theorem d_M_difference_44 : decode b_M_difference 44 = .ok (.iload 4, 2) := by decide +kernel
theorem d_M_difference_46 : decode b_M_difference 46 = .ok (.iaload, 1) := by decide +kernel
theorem d_M_difference_47 : decode b_M_difference 47 = .ok (.iadd, 1) := by decide +kernel
theorem d_M_difference_48 : decode b_M_difference 48 = .ok (.istore_n 3, 1) := by decide +kernel
theorem d_M_difference_49 : decode b_M_difference 49 = .ok (.iinc 4 1, 3) := by decide +kernel
theorem d_M_difference_52 : decode b_M_difference 52 = .ok (.goto (-45), 3) := by decide +kernel
theorem d_M_difference_55 : decode b_M_difference 55 = .ok (.iload_n 2, 1) := by decide +kernel
theorem d_M_difference_56 : decode b_M_difference 56 = .ok (.ifCond .ne 7, 3) := by decide +kernel
theorem d_M_difference_59 : decode b_M_difference 59 = .ok (.iconst 0, 1) := by decide +kernel
theorem d_M_difference_60 : decode b_M_difference 60 = .ok (.goto 14, 3) := by decide +kernel
theorem d_M_difference_63 : decode b_M_difference 63 = .ok (.aload_n 0, 1) := by decide +kernel
theorem d_M_difference_64 : decode b_M_difference 64 = .ok (.getfield 19, 3) := by decide +kernel
theorem d_M_difference_67 : decode b_M_difference 67 = .ok (.getfield 156, 3) := by decide +kernel
theorem d_M_difference_70 : decode b_M_difference 70 = .ok (.iload_n 1, 1) := by decide +kernel
theorem d_M_difference_71 : decode b_M_difference 71 = .ok (.iaload, 1) := by decide +kernel
theorem d_M_difference_72 : decode b_M_difference 72 = .ok (.iload_n 3, 1) := by decide +kernel
theorem d_M_difference_73 : decode b_M_difference 73 = .ok (.isub, 1) := by decide +kernel
theorem d_M_difference_74 : decode b_M_difference 74 = .ok (.ireturn, 1) := by decide +kernel
theorem d_M_mastersThatDiffer_0 : decode b_M_mastersThatDiffer 0 = .ok (.iconst 0, 1) := by decide +kernel
theorem d_M_mastersThatDiffer_1 : decode b_M_mastersThatDiffer 1 = .ok (.istore_n 1, 1) := by decide +kernel
theorem d_M_mastersThatDiffer_2 : decode b_M_mastersThatDiffer 2 = .ok (.iconst 0, 1) := by decide +kernel
theorem d_M_mastersThatDiffer_3 : decode b_M_mastersThatDiffer 3 = .ok (.istore_n 2, 1) := by decide +kernel
theorem d_M_mastersThatDiffer_4 : decode b_M_mastersThatDiffer 4 = .ok (.iload_n 2, 1) := by decide +kernel
theorem d_M_mastersThatDiffer_5 : decode b_M_mastersThatDiffer 5 = .ok (.aload_n 0, 1) := by decide +kernel
theorem d_M_mastersThatDiffer_6 : decode b_M_mastersThatDiffer 6 = .ok (.getfield 12, 3) := by decide +kernel
theorem d_M_mastersThatDiffer_9 : decode b_M_mastersThatDiffer 9 = .ok (.getfield 237, 3) := by decide +kernel
theorem d_M_mastersThatDiffer_12 : decode b_M_mastersThatDiffer 12 = .ok (.if_icmp .ge 33, 3) := by decide +kernel
theorem d_M_mastersThatDiffer_15 : decode b_M_mastersThatDiffer 15 = .ok (.aload_n 0, 1) := by decide +kernel
theorem d_M_mastersThatDiffer_16 : decode b_M_mastersThatDiffer 16 = .ok (.getfield 12, 3) := by decide +kernel
theorem d_M_mastersThatDiffer_19 : decode b_M_mastersThatDiffer 19 = .ok (.getfield 209, 3) := by decide +kernel
theorem d_M_mastersThatDiffer_22 : decode b_M_mastersThatDiffer 22 = .ok (.iload_n 2, 1) := by decide +kernel
theorem d_M_mastersThatDiffer_23 : decode b_M_mastersThatDiffer 23 = .ok (.iaload, 1) := by decide +kernel
theorem d_M_mastersThatDiffer_24 : decode b_M_mastersThatDiffer 24 = .ok (.iload_n 2, 1) := by decide +kernel
theorem d_M_mastersThatDiffer_25 : decode b_M_mastersThatDiffer 25 = .ok (.if_icmp .ne 14, 3) := by decide +kernel
theorem d_M_mastersThatDiffer_28 : decode b_M_mastersThatDiffer 28 = .ok (.aload_n 0, 1) := by decide +kernel
theorem d_M_mastersThatDiffer_29 : decode b_M_mastersThatDiffer 29 = .ok (.iload_n 2, 1) := by decide +kernel
theorem d_M_mastersThatDiffer_30 : decode b_M_mastersThatDiffer 30 = .ok (.invokevirtual 255, 3) := by decide +kernel
theorem d_M_mastersThatDiffer_33 : decode b_M_mastersThatDiffer 33 = .ok (.ifCond .eq 6, 3) := by decide +kernel
theorem d_M_mastersThatDiffer_36 : decode b_M_mastersThatDiffer 36 = .ok (.iinc 1 1, 3) := by decide +kernel
theorem d_M_mastersThatDiffer_39 : decode b_M_mastersThatDiffer 39 = .ok (.iinc 2 1, 3) := by decide +kernel
theorem d_M_mastersThatDiffer_42 : decode b_M_mastersThatDiffer 42 = .ok (.goto (-38), 3) := by decide +kernel
theorem d_M_mastersThatDiffer_45 : decode b_M_mastersThatDiffer 45 = .ok (.iload_n 1, 1) := by decide +kernel
theorem d_M_mastersThatDiffer_46 : decode b_M_mastersThatDiffer 46 = .ok (.ireturn, 1) := by decide +kernel
theorem d_M_someOneDiffers_0 : decode b_M_someOneDiffers 0 = .ok (.iconst 0, 1) := by decide +kernel
theorem d_M_someOneDiffers_1 : decode b_M_someOneDiffers 1 = .ok (.istore_n 2, 1) := by decide +kernel
theorem d_M_someOneDiffers_2 : decode b_M_someOneDiffers 2 = .ok (.iload_n 2, 1) := by decide +kernel
theorem d_M_someOneDiffers_3 : decode b_M_someOneDiffers 3 = .ok (.aload_n 0, 1) := by decide +kernel
theorem d_M_someOneDiffers_4 : decode b_M_someOneDiffers 4 = .ok (.getfield 12, 3) := by decide +kernel
theorem d_M_someOneDiffers_7 : decode b_M_someOneDiffers 7 = .ok (.getfield 237, 3) := by decide +kernel
theorem d_M_someOneDiffers_10 : decode b_M_someOneDiffers 10 = .ok (.if_icmp .ge 32, 3) := by decide +kernel
theorem d_M_someOneDiffers_13 : decode b_M_someOneDiffers 13 = .ok (.aload_n 0, 1) := by decide +kernel
theorem d_M_someOneDiffers_14 : decode b_M_someOneDiffers 14 = .ok (.getfield 12, 3) := by decide +kernel
theorem d_M_someOneDiffers_17 : decode b_M_someOneDiffers 17 = .ok (.getfield 209, 3) := by decide +kernel
theorem d_M_someOneDiffers_20 : decode b_M_someOneDiffers 20 = .ok (.iload_n 2, 1) := by decide +kernel
theorem d_M_someOneDiffers_21 : decode b_M_someOneDiffers 21 = .ok (.iaload, 1) := by decide +kernel
theorem d_M_someOneDiffers_22 : decode b_M_someOneDiffers 22 = .ok (.iload_n 1, 1) := by decide +kernel
theorem d_M_someOneDiffers_23 : decode b_M_someOneDiffers 23 = .ok (.if_icmp .ne 13, 3) := by decide +kernel
theorem d_M_someOneDiffers_26 : decode b_M_someOneDiffers 26 = .ok (.aload_n 0, 1) := by decide +kernel
theorem d_M_someOneDiffers_27 : decode b_M_someOneDiffers 27 = .ok (.iload_n 2, 1) := by decide +kernel
theorem d_M_someOneDiffers_28 : decode b_M_someOneDiffers 28 = .ok (.invokevirtual 197, 3) := by decide +kernel
theorem d_M_someOneDiffers_31 : decode b_M_someOneDiffers 31 = .ok (.ifCond .eq 5, 3) := by decide +kernel
theorem d_M_someOneDiffers_34 : decode b_M_someOneDiffers 34 = .ok (.iconst 1, 1) := by decide +kernel
theorem d_M_someOneDiffers_35 : decode b_M_someOneDiffers 35 = .ok (.ireturn, 1) := by decide +kernel
theorem d_M_someOneDiffers_36 : decode b_M_someOneDiffers 36 = .ok (.iinc 2 1, 3) := by decide +kernel
theorem d_M_someOneDiffers_39 : decode b_M_someOneDiffers 39 = .ok (.goto (-37), 3) := by decide +kernel
theorem d_M_someOneDiffers_42 : decode b_M_someOneDiffers 42 = .ok (.iconst 0, 1) := by decide +kernel
theorem d_M_someOneDiffers_43 : decode b_M_someOneDiffers 43 = .ok (.ireturn, 1) := by decide +kernel
theorem d_M_isCall_0 : decode b_M_isCall 0 = .ok (.iload_n 0, 1) := by decide +kernel
theorem d_M_isCall_1 : decode b_M_isCall 1 = .ok (.ifCond .lt 12, 3) := by decide +kernel
theorem d_M_isCall_4 : decode b_M_isCall 4 = .ok (.iload_n 0, 1) := by decide +kernel
theorem d_M_isCall_5 : decode b_M_isCall 5 = .ok (.iconst 4, 1) := by decide +kernel
theorem d_M_isCall_6 : decode b_M_isCall 6 = .ok (.if_icmp .ge 7, 3) := by decide +kernel
theorem d_M_isCall_9 : decode b_M_isCall 9 = .ok (.iconst 1, 1) := by decide +kernel
theorem d_M_isCall_10 : decode b_M_isCall 10 = .ok (.goto 4, 3) := by decide +kernel
theorem d_M_isCall_13 : decode b_M_isCall 13 = .ok (.iconst 0, 1) := by decide +kernel
theorem d_M_isCall_14 : decode b_M_isCall 14 = .ok (.ireturn, 1) := by decide +kernel
theorem d_M_isNumber_0 : decode b_M_isNumber 0 = .ok (.iload_n 0, 1) := by decide +kernel
theorem d_M_isNumber_1 : decode b_M_isNumber 1 = .ok (.ifCond .lt 14, 3) := by decide +kernel
theorem d_M_isNumber_4 : decode b_M_isNumber 4 = .ok (.iload_n 0, 1) := by decide +kernel
theorem d_M_isNumber_5 : decode b_M_isNumber 5 = .ok (.ldc_w 258, 3) := by decide +kernel
theorem d_M_isNumber_8 : decode b_M_isNumber 8 = .ok (.if_icmp .gt 7, 3) := by decide +kernel
theorem d_M_isNumber_11 : decode b_M_isNumber 11 = .ok (.iconst 1, 1) := by decide +kernel
theorem d_M_isNumber_12 : decode b_M_isNumber 12 = .ok (.goto 4, 3) := by decide +kernel
theorem d_M_isNumber_15 : decode b_M_isNumber 15 = .ok (.iconst 0, 1) := by decide +kernel
theorem d_M_isNumber_16 : decode b_M_isNumber 16 = .ok (.ireturn, 1) := by decide +kernel
theorem d_M_isWeight_0 : decode b_M_isWeight 0 = .ok (.iload_n 0, 1) := by decide +kernel
theorem d_M_isWeight_1 : decode b_M_isWeight 1 = .ok (.ifCond .lt 14, 3) := by decide +kernel
theorem d_M_isWeight_4 : decode b_M_isWeight 4 = .ok (.iload_n 0, 1) := by decide +kernel
theorem d_M_isWeight_5 : decode b_M_isWeight 5 = .ok (.ldc_w 259, 3) := by decide +kernel
theorem d_M_isWeight_8 : decode b_M_isWeight 8 = .ok (.if_icmp .gt 7, 3) := by decide +kernel
theorem d_M_isWeight_11 : decode b_M_isWeight 11 = .ok (.iconst 1, 1) := by decide +kernel
theorem d_M_isWeight_12 : decode b_M_isWeight 12 = .ok (.goto 4, 3) := by decide +kernel
theorem d_M_isWeight_15 : decode b_M_isWeight 15 = .ok (.iconst 0, 1) := by decide +kernel
theorem d_M_isWeight_16 : decode b_M_isWeight 16 = .ok (.ireturn, 1) := by decide +kernel
theorem d_M_isHolder_0 : decode b_M_isHolder 0 = .ok (.iload_n 0, 1) := by decide +kernel
theorem d_M_isHolder_1 : decode b_M_isHolder 1 = .ok (.ifCond .lt 13, 3) := by decide +kernel
theorem d_M_isHolder_4 : decode b_M_isHolder 4 = .ok (.iload_n 0, 1) := by decide +kernel
theorem d_M_isHolder_5 : decode b_M_isHolder 5 = .ok (.bipush 10, 2) := by decide +kernel
theorem d_M_isHolder_7 : decode b_M_isHolder 7 = .ok (.if_icmp .ge 7, 3) := by decide +kernel
theorem d_M_isHolder_10 : decode b_M_isHolder 10 = .ok (.iconst 1, 1) := by decide +kernel
theorem d_M_isHolder_11 : decode b_M_isHolder 11 = .ok (.goto 4, 3) := by decide +kernel
theorem d_M_isHolder_14 : decode b_M_isHolder 14 = .ok (.iconst 0, 1) := by decide +kernel
theorem d_M_isHolder_15 : decode b_M_isHolder 15 = .ok (.ireturn, 1) := by decide +kernel
theorem d_M_areAlike_0 : decode b_M_areAlike 0 = .ok (.iload_n 0, 1) := by decide +kernel
theorem d_M_areAlike_1 : decode b_M_areAlike 1 = .ok (.istore_n 2, 1) := by decide +kernel
theorem d_M_areAlike_2 : decode b_M_areAlike 2 = .ok (.iload_n 1, 1) := by decide +kernel
theorem d_M_areAlike_3 : decode b_M_areAlike 3 = .ok (.istore_n 3, 1) := by decide +kernel
theorem d_M_areAlike_4 : decode b_M_areAlike 4 = .ok (.iconst 0, 1) := by decide +kernel
theorem d_M_areAlike_5 : decode b_M_areAlike 5 = .ok (.istore 4, 2) := by decide +kernel
theorem d_M_areAlike_7 : decode b_M_areAlike 7 = .ok (.iload 4, 2) := by decide +kernel
theorem d_M_areAlike_9 : decode b_M_areAlike 9 = .ok (.bipush 8, 2) := by decide +kernel
theorem d_M_areAlike_11 : decode b_M_areAlike 11 = .ok (.if_icmp .ge 30, 3) := by decide +kernel
theorem d_M_areAlike_14 : decode b_M_areAlike 14 = .ok (.iload_n 2, 1) := by decide +kernel
theorem d_M_areAlike_15 : decode b_M_areAlike 15 = .ok (.bipush 10, 2) := by decide +kernel
theorem d_M_areAlike_17 : decode b_M_areAlike 17 = .ok (.irem, 1) := by decide +kernel
theorem d_M_areAlike_18 : decode b_M_areAlike 18 = .ok (.iload_n 3, 1) := by decide +kernel
theorem d_M_areAlike_19 : decode b_M_areAlike 19 = .ok (.bipush 10, 2) := by decide +kernel
theorem d_M_areAlike_21 : decode b_M_areAlike 21 = .ok (.irem, 1) := by decide +kernel
theorem d_M_areAlike_22 : decode b_M_areAlike 22 = .ok (.if_icmp .ne 19, 3) := by decide +kernel
theorem d_M_areAlike_25 : decode b_M_areAlike 25 = .ok (.iload_n 2, 1) := by decide +kernel
theorem d_M_areAlike_26 : decode b_M_areAlike 26 = .ok (.bipush 10, 2) := by decide +kernel
theorem d_M_areAlike_28 : decode b_M_areAlike 28 = .ok (.idiv, 1) := by decide +kernel
theorem d_M_areAlike_29 : decode b_M_areAlike 29 = .ok (.istore_n 2, 1) := by decide +kernel
theorem d_M_areAlike_30 : decode b_M_areAlike 30 = .ok (.iload_n 3, 1) := by decide +kernel
theorem d_M_areAlike_31 : decode b_M_areAlike 31 = .ok (.bipush 10, 2) := by decide +kernel
theorem d_M_areAlike_33 : decode b_M_areAlike 33 = .ok (.idiv, 1) := by decide +kernel
theorem d_M_areAlike_34 : decode b_M_areAlike 34 = .ok (.istore_n 3, 1) := by decide +kernel
theorem d_M_areAlike_35 : decode b_M_areAlike 35 = .ok (.iinc 4 1, 3) := by decide +kernel
theorem d_M_areAlike_38 : decode b_M_areAlike 38 = .ok (.goto (-31), 3) := by decide +kernel
theorem d_M_areAlike_41 : decode b_M_areAlike 41 = .ok (.iload_n 2, 1) := by decide +kernel
theorem d_M_areAlike_42 : decode b_M_areAlike 42 = .ok (.bipush 10, 2) := by decide +kernel
theorem d_M_areAlike_44 : decode b_M_areAlike 44 = .ok (.idiv, 1) := by decide +kernel
theorem d_M_areAlike_45 : decode b_M_areAlike 45 = .ok (.iload_n 3, 1) := by decide +kernel
theorem d_M_areAlike_46 : decode b_M_areAlike 46 = .ok (.bipush 10, 2) := by decide +kernel
theorem d_M_areAlike_48 : decode b_M_areAlike 48 = .ok (.idiv, 1) := by decide +kernel
theorem d_M_areAlike_49 : decode b_M_areAlike 49 = .ok (.if_icmp .ne 5, 3) := by decide +kernel
theorem d_M_areAlike_52 : decode b_M_areAlike 52 = .ok (.iconst 1, 1) := by decide +kernel
theorem d_M_areAlike_53 : decode b_M_areAlike 53 = .ok (.ireturn, 1) := by decide +kernel
theorem d_M_areAlike_54 : decode b_M_areAlike 54 = .ok (.iload_n 2, 1) := by decide +kernel
theorem d_M_areAlike_55 : decode b_M_areAlike 55 = .ok (.bipush 10, 2) := by decide +kernel
theorem d_M_areAlike_57 : decode b_M_areAlike 57 = .ok (.irem, 1) := by decide +kernel
theorem d_M_areAlike_58 : decode b_M_areAlike 58 = .ok (.iload_n 3, 1) := by decide +kernel
theorem d_M_areAlike_59 : decode b_M_areAlike 59 = .ok (.bipush 10, 2) := by decide +kernel
theorem d_M_areAlike_61 : decode b_M_areAlike 61 = .ok (.idiv, 1) := by decide +kernel
theorem d_M_areAlike_62 : decode b_M_areAlike 62 = .ok (.bipush 10, 2) := by decide +kernel
theorem d_M_areAlike_64 : decode b_M_areAlike 64 = .ok (.irem, 1) := by decide +kernel
theorem d_M_areAlike_65 : decode b_M_areAlike 65 = .ok (.if_icmp .ne 32, 3) := by decide +kernel
theorem d_M_areAlike_68 : decode b_M_areAlike 68 = .ok (.iload_n 2, 1) := by decide +kernel
theorem d_M_areAlike_69 : decode b_M_areAlike 69 = .ok (.bipush 10, 2) := by decide +kernel
theorem d_M_areAlike_71 : decode b_M_areAlike 71 = .ok (.idiv, 1) := by decide +kernel
theorem d_M_areAlike_72 : decode b_M_areAlike 72 = .ok (.bipush 10, 2) := by decide +kernel
theorem d_M_areAlike_74 : decode b_M_areAlike 74 = .ok (.irem, 1) := by decide +kernel
theorem d_M_areAlike_75 : decode b_M_areAlike 75 = .ok (.iload_n 3, 1) := by decide +kernel
theorem d_M_areAlike_76 : decode b_M_areAlike 76 = .ok (.bipush 10, 2) := by decide +kernel
theorem d_M_areAlike_78 : decode b_M_areAlike 78 = .ok (.irem, 1) := by decide +kernel
theorem d_M_areAlike_79 : decode b_M_areAlike 79 = .ok (.if_icmp .ne 18, 3) := by decide +kernel
theorem d_M_areAlike_82 : decode b_M_areAlike 82 = .ok (.iload_n 2, 1) := by decide +kernel
theorem d_M_areAlike_83 : decode b_M_areAlike 83 = .ok (.bipush 100, 2) := by decide +kernel
theorem d_M_areAlike_85 : decode b_M_areAlike 85 = .ok (.idiv, 1) := by decide +kernel
theorem d_M_areAlike_86 : decode b_M_areAlike 86 = .ok (.iload_n 3, 1) := by decide +kernel
theorem d_M_areAlike_87 : decode b_M_areAlike 87 = .ok (.bipush 100, 2) := by decide +kernel
theorem d_M_areAlike_89 : decode b_M_areAlike 89 = .ok (.idiv, 1) := by decide +kernel
theorem d_M_areAlike_90 : decode b_M_areAlike 90 = .ok (.if_icmp .ne 7, 3) := by decide +kernel
theorem d_M_areAlike_93 : decode b_M_areAlike 93 = .ok (.iconst 1, 1) := by decide +kernel
theorem d_M_areAlike_94 : decode b_M_areAlike 94 = .ok (.goto 4, 3) := by decide +kernel
theorem d_M_areAlike_97 : decode b_M_areAlike 97 = .ok (.iconst 0, 1) := by decide +kernel
theorem d_M_areAlike_98 : decode b_M_areAlike 98 = .ok (.ireturn, 1) := by decide +kernel
theorem d_B_init_0 : decode b_B_init 0 = .ok (.aload_n 0, 1) := by decide +kernel
theorem d_B_init_1 : decode b_B_init 1 = .ok (.invokespecial 3, 3) := by decide +kernel
theorem d_B_init_4 : decode b_B_init 4 = .ok (.aload_n 0, 1) := by decide +kernel
theorem d_B_init_5 : decode b_B_init 5 = .ok (.iconst 0, 1) := by decide +kernel
theorem d_B_init_6 : decode b_B_init 6 = .ok (.putfield 9, 3) := by decide +kernel
theorem d_B_init_9 : decode b_B_init 9 = .ok (.aload_n 0, 1) := by decide +kernel
theorem d_B_init_10 : decode b_B_init 10 = .ok (.bipush 60, 2) := by decide +kernel
theorem d_B_init_12 : decode b_B_init 12 = .ok (.newarray .int, 2) := by decide +kernel
theorem d_B_init_14 : decode b_B_init 14 = .ok (.putfield 15, 3) := by decide +kernel
theorem d_B_init_17 : decode b_B_init 17 = .ok (.aload_n 0, 1) := by decide +kernel
theorem d_B_init_18 : decode b_B_init 18 = .ok (.bipush 60, 2) := by decide +kernel
theorem d_B_init_20 : decode b_B_init 20 = .ok (.newarray .int, 2) := by decide +kernel
theorem d_B_init_22 : decode b_B_init 22 = .ok (.putfield 19, 3) := by decide +kernel
theorem d_B_init_25 : decode b_B_init 25 = .ok (.aload_n 0, 1) := by decide +kernel
theorem d_B_init_26 : decode b_B_init 26 = .ok (.bipush 60, 2) := by decide +kernel
theorem d_B_init_28 : decode b_B_init 28 = .ok (.newarray .int, 2) := by decide +kernel
theorem d_B_init_30 : decode b_B_init 30 = .ok (.putfield 22, 3) := by decide +kernel
theorem d_B_init_33 : decode b_B_init 33 = .ok (.aload_n 0, 1) := by decide +kernel
theorem d_B_init_34 : decode b_B_init 34 = .ok (.bipush 60, 2) := by decide +kernel
theorem d_B_init_36 : decode b_B_init 36 = .ok (.newarray .int, 2) := by decide +kernel
theorem d_B_init_38 : decode b_B_init 38 = .ok (.putfield 25, 3) := by decide +kernel
theorem d_B_init_41 : decode b_B_init 41 = .ok (.aload_n 0, 1) := by decide +kernel
theorem d_B_init_42 : decode b_B_init 42 = .ok (.bipush 60, 2) := by decide +kernel
theorem d_B_init_44 : decode b_B_init 44 = .ok (.newarray .int, 2) := by decide +kernel
theorem d_B_init_46 : decode b_B_init 46 = .ok (.putfield 28, 3) := by decide +kernel
theorem d_B_init_49 : decode b_B_init 49 = .ok (.aload_n 0, 1) := by decide +kernel
theorem d_B_init_50 : decode b_B_init 50 = .ok (.bipush 60, 2) := by decide +kernel
theorem d_B_init_52 : decode b_B_init 52 = .ok (.newarray .int, 2) := by decide +kernel
theorem d_B_init_54 : decode b_B_init 54 = .ok (.putfield 31, 3) := by decide +kernel
theorem d_B_init_57 : decode b_B_init 57 = .ok (.aload_n 0, 1) := by decide +kernel
theorem d_B_init_58 : decode b_B_init 58 = .ok (.bipush 60, 2) := by decide +kernel
theorem d_B_init_60 : decode b_B_init 60 = .ok (.newarray .int, 2) := by decide +kernel
theorem d_B_init_62 : decode b_B_init 62 = .ok (.putfield 34, 3) := by decide +kernel
theorem d_B_init_65 : decode b_B_init 65 = .ok (.return_, 1) := by decide +kernel
theorem d_B_has_0 : decode b_B_has 0 = .ok (.iload_n 1, 1) := by decide +kernel
theorem d_B_has_1 : decode b_B_has 1 = .ok (.ifCond .lt 15, 3) := by decide +kernel
theorem d_B_has_4 : decode b_B_has 4 = .ok (.iload_n 1, 1) := by decide +kernel
theorem d_B_has_5 : decode b_B_has 5 = .ok (.aload_n 0, 1) := by decide +kernel
theorem d_B_has_6 : decode b_B_has 6 = .ok (.getfield 9, 3) := by decide +kernel
theorem d_B_has_9 : decode b_B_has 9 = .ok (.if_icmp .ge 7, 3) := by decide +kernel
theorem d_B_has_12 : decode b_B_has 12 = .ok (.iconst 1, 1) := by decide +kernel
theorem d_B_has_13 : decode b_B_has 13 = .ok (.goto 4, 3) := by decide +kernel
theorem d_B_has_16 : decode b_B_has 16 = .ok (.iconst 0, 1) := by decide +kernel
theorem d_B_has_17 : decode b_B_has 17 = .ok (.ireturn, 1) := by decide +kernel
theorem d_B_isFull_0 : decode b_B_isFull 0 = .ok (.aload_n 0, 1) := by decide +kernel
theorem d_B_isFull_1 : decode b_B_isFull 1 = .ok (.getfield 9, 3) := by decide +kernel
theorem d_B_isFull_4 : decode b_B_isFull 4 = .ok (.bipush 60, 2) := by decide +kernel
theorem d_B_isFull_6 : decode b_B_isFull 6 = .ok (.if_icmp .lt 7, 3) := by decide +kernel
theorem d_B_isFull_9 : decode b_B_isFull 9 = .ok (.iconst 1, 1) := by decide +kernel
theorem d_B_isFull_10 : decode b_B_isFull 10 = .ok (.goto 4, 3) := by decide +kernel
theorem d_B_isFull_13 : decode b_B_isFull 13 = .ok (.iconst 0, 1) := by decide +kernel
theorem d_B_isFull_14 : decode b_B_isFull 14 = .ok (.ireturn, 1) := by decide +kernel
theorem d_B_isOrdered_0 : decode b_B_isOrdered 0 = .ok (.aload_n 0, 1) := by decide +kernel
theorem d_B_isOrdered_1 : decode b_B_isOrdered 1 = .ok (.getfield 34, 3) := by decide +kernel
theorem d_B_isOrdered_4 : decode b_B_isOrdered 4 = .ok (.iload_n 1, 1) := by decide +kernel
theorem d_B_isOrdered_5 : decode b_B_isOrdered 5 = .ok (.iaload, 1) := by decide +kernel
theorem d_B_isOrdered_6 : decode b_B_isOrdered 6 = .ok (.ifCond .le 7, 3) := by decide +kernel
theorem d_B_isOrdered_9 : decode b_B_isOrdered 9 = .ok (.iconst 1, 1) := by decide +kernel
theorem d_B_isOrdered_10 : decode b_B_isOrdered 10 = .ok (.goto 4, 3) := by decide +kernel
theorem d_B_isOrdered_13 : decode b_B_isOrdered 13 = .ok (.iconst 0, 1) := by decide +kernel
theorem d_B_isOrdered_14 : decode b_B_isOrdered 14 = .ok (.ireturn, 1) := by decide +kernel
theorem d_B_isTaken_0 : decode b_B_isTaken 0 = .ok (.iconst 0, 1) := by decide +kernel
theorem d_B_isTaken_1 : decode b_B_isTaken 1 = .ok (.istore_n 3, 1) := by decide +kernel
theorem d_B_isTaken_2 : decode b_B_isTaken 2 = .ok (.iload_n 3, 1) := by decide +kernel
theorem d_B_isTaken_3 : decode b_B_isTaken 3 = .ok (.aload_n 0, 1) := by decide +kernel
theorem d_B_isTaken_4 : decode b_B_isTaken 4 = .ok (.getfield 9, 3) := by decide +kernel
theorem d_B_isTaken_7 : decode b_B_isTaken 7 = .ok (.if_icmp .ge 31, 3) := by decide +kernel
theorem d_B_isTaken_10 : decode b_B_isTaken 10 = .ok (.aload_n 0, 1) := by decide +kernel
theorem d_B_isTaken_11 : decode b_B_isTaken 11 = .ok (.getfield 15, 3) := by decide +kernel
theorem d_B_isTaken_14 : decode b_B_isTaken 14 = .ok (.iload_n 3, 1) := by decide +kernel
theorem d_B_isTaken_15 : decode b_B_isTaken 15 = .ok (.iaload, 1) := by decide +kernel
theorem d_B_isTaken_16 : decode b_B_isTaken 16 = .ok (.iload_n 1, 1) := by decide +kernel
theorem d_B_isTaken_17 : decode b_B_isTaken 17 = .ok (.if_icmp .ne 15, 3) := by decide +kernel
theorem d_B_isTaken_20 : decode b_B_isTaken 20 = .ok (.aload_n 0, 1) := by decide +kernel
theorem d_B_isTaken_21 : decode b_B_isTaken 21 = .ok (.getfield 19, 3) := by decide +kernel
theorem d_B_isTaken_24 : decode b_B_isTaken 24 = .ok (.iload_n 3, 1) := by decide +kernel
theorem d_B_isTaken_25 : decode b_B_isTaken 25 = .ok (.iaload, 1) := by decide +kernel
theorem d_B_isTaken_26 : decode b_B_isTaken 26 = .ok (.iload_n 2, 1) := by decide +kernel
theorem d_B_isTaken_27 : decode b_B_isTaken 27 = .ok (.if_icmp .ne 5, 3) := by decide +kernel
theorem d_B_isTaken_30 : decode b_B_isTaken 30 = .ok (.iconst 1, 1) := by decide +kernel
theorem d_B_isTaken_31 : decode b_B_isTaken 31 = .ok (.ireturn, 1) := by decide +kernel
theorem d_B_isTaken_32 : decode b_B_isTaken 32 = .ok (.iinc 3 1, 3) := by decide +kernel
theorem d_B_isTaken_35 : decode b_B_isTaken 35 = .ok (.goto (-33), 3) := by decide +kernel
theorem d_B_isTaken_38 : decode b_B_isTaken 38 = .ok (.iconst 0, 1) := by decide +kernel
theorem d_B_isTaken_39 : decode b_B_isTaken 39 = .ok (.ireturn, 1) := by decide +kernel
theorem d_B_mayStandUnder_0 : decode b_B_mayStandUnder 0 = .ok (.iload_n 2, 1) := by decide +kernel
theorem d_B_mayStandUnder_1 : decode b_B_mayStandUnder 1 = .ok (.iconst (-1), 1) := by decide +kernel
theorem d_B_mayStandUnder_2 : decode b_B_mayStandUnder 2 = .ok (.if_icmp .ne 5, 3) := by decide +kernel
theorem d_B_mayStandUnder_5 : decode b_B_mayStandUnder 5 = .ok (.iconst 1, 1) := by decide +kernel
theorem d_B_mayStandUnder_6 : decode b_B_mayStandUnder 6 = .ok (.ireturn, 1) := by decide +kernel
theorem d_B_mayStandUnder_7 : decode b_B_mayStandUnder 7 = .ok (.aload_n 0, 1) := by decide +kernel
theorem d_B_mayStandUnder_8 : decode b_B_mayStandUnder 8 = .ok (.iload_n 2, 1) := by decide +kernel
theorem d_B_mayStandUnder_9 : decode b_B_mayStandUnder 9 = .ok (.invokevirtual 37, 3) := by decide +kernel
theorem d_B_mayStandUnder_12 : decode b_B_mayStandUnder 12 = .ok (.ifCond .eq 35, 3) := by decide +kernel
theorem d_B_mayStandUnder_15 : decode b_B_mayStandUnder 15 = .ok (.aload_n 0, 1) := by decide +kernel
theorem d_B_mayStandUnder_16 : decode b_B_mayStandUnder 16 = .ok (.getfield 15, 3) := by decide +kernel
theorem d_B_mayStandUnder_19 : decode b_B_mayStandUnder 19 = .ok (.iload_n 2, 1) := by decide +kernel
theorem d_B_mayStandUnder_20 : decode b_B_mayStandUnder 20 = .ok (.iaload, 1) := by decide +kernel
theorem d_B_mayStandUnder_21 : decode b_B_mayStandUnder 21 = .ok (.iload_n 1, 1) := by decide +kernel
theorem d_B_mayStandUnder_22 : decode b_B_mayStandUnder 22 = .ok (.if_icmp .ne 25, 3) := by decide +kernel
theorem d_B_mayStandUnder_25 : decode b_B_mayStandUnder 25 = .ok (.aload_n 0, 1) := by decide +kernel
theorem d_B_mayStandUnder_26 : decode b_B_mayStandUnder 26 = .ok (.getfield 25, 3) := by decide +kernel
theorem d_B_mayStandUnder_29 : decode b_B_mayStandUnder 29 = .ok (.iload_n 2, 1) := by decide +kernel
theorem d_B_mayStandUnder_30 : decode b_B_mayStandUnder 30 = .ok (.iaload, 1) := by decide +kernel
theorem d_B_mayStandUnder_31 : decode b_B_mayStandUnder 31 = .ok (.iconst 4, 1) := by decide +kernel
theorem d_B_mayStandUnder_32 : decode b_B_mayStandUnder 32 = .ok (.if_icmp .ge 15, 3) := by decide +kernel
theorem d_B_mayStandUnder_35 : decode b_B_mayStandUnder 35 = .ok (.aload_n 0, 1) := by decide +kernel
theorem d_B_mayStandUnder_36 : decode b_B_mayStandUnder 36 = .ok (.iload_n 2, 1) := by decide +kernel
theorem d_B_mayStandUnder_37 : decode b_B_mayStandUnder 37 = .ok (.invokevirtual 41, 3) := by decide +kernel
theorem d_B_mayStandUnder_40 : decode b_B_mayStandUnder 40 = .ok (.ifCond .ne 7, 3) := by decide +kernel
theorem d_B_mayStandUnder_43 : decode b_B_mayStandUnder 43 = .ok (.iconst 1, 1) := by decide +kernel
theorem d_B_mayStandUnder_44 : decode b_B_mayStandUnder 44 = .ok (.goto 4, 3) := by decide +kernel
theorem d_B_mayStandUnder_47 : decode b_B_mayStandUnder 47 = .ok (.iconst 0, 1) := by decide +kernel
theorem d_B_mayStandUnder_48 : decode b_B_mayStandUnder 48 = .ok (.ireturn, 1) := by decide +kernel
theorem d_B_add_0 : decode b_B_add 0 = .ok (.aload_n 0, 1) := by decide +kernel
theorem d_B_add_1 : decode b_B_add 1 = .ok (.getfield 9, 3) := by decide +kernel
theorem d_B_add_4 : decode b_B_add 4 = .ok (.istore 5, 2) := by decide +kernel
theorem d_B_add_6 : decode b_B_add 6 = .ok (.aload_n 0, 1) := by decide +kernel
theorem d_B_add_7 : decode b_B_add 7 = .ok (.getfield 15, 3) := by decide +kernel
theorem d_B_add_10 : decode b_B_add 10 = .ok (.iload 5, 2) := by decide +kernel
theorem d_B_add_12 : decode b_B_add 12 = .ok (.iload_n 1, 1) := by decide +kernel
theorem d_B_add_13 : decode b_B_add 13 = .ok (.iastore, 1) := by decide +kernel
theorem d_B_add_14 : decode b_B_add 14 = .ok (.aload_n 0, 1) := by decide +kernel
theorem d_B_add_15 : decode b_B_add 15 = .ok (.getfield 19, 3) := by decide +kernel
theorem d_B_add_18 : decode b_B_add 18 = .ok (.iload 5, 2) := by decide +kernel
theorem d_B_add_20 : decode b_B_add 20 = .ok (.iload_n 2, 1) := by decide +kernel
theorem d_B_add_21 : decode b_B_add 21 = .ok (.iastore, 1) := by decide +kernel
theorem d_B_add_22 : decode b_B_add 22 = .ok (.aload_n 0, 1) := by decide +kernel
theorem d_B_add_23 : decode b_B_add 23 = .ok (.getfield 22, 3) := by decide +kernel
theorem d_B_add_26 : decode b_B_add 26 = .ok (.iload 5, 2) := by decide +kernel
theorem d_B_add_28 : decode b_B_add 28 = .ok (.iload_n 3, 1) := by decide +kernel
theorem d_B_add_29 : decode b_B_add 29 = .ok (.iastore, 1) := by decide +kernel
theorem d_B_add_30 : decode b_B_add 30 = .ok (.aload_n 0, 1) := by decide +kernel
theorem d_B_add_31 : decode b_B_add 31 = .ok (.getfield 25, 3) := by decide +kernel
theorem d_B_add_34 : decode b_B_add 34 = .ok (.iload 5, 2) := by decide +kernel
theorem d_B_add_36 : decode b_B_add 36 = .ok (.aload_n 0, 1) := by decide +kernel
theorem d_B_add_37 : decode b_B_add 37 = .ok (.iload_n 3, 1) := by decide +kernel
theorem d_B_add_38 : decode b_B_add 38 = .ok (.invokevirtual 37, 3) := by decide +kernel
theorem d_B_add_41 : decode b_B_add 41 = .ok (.ifCond .eq 14, 3) := by decide +kernel
theorem d_B_add_44 : decode b_B_add 44 = .ok (.aload_n 0, 1) := by decide +kernel
theorem d_B_add_45 : decode b_B_add 45 = .ok (.getfield 25, 3) := by decide +kernel
theorem d_B_add_48 : decode b_B_add 48 = .ok (.iload_n 3, 1) := by decide +kernel
theorem d_B_add_49 : decode b_B_add 49 = .ok (.iaload, 1) := by decide +kernel
theorem d_B_add_50 : decode b_B_add 50 = .ok (.iconst 1, 1) := by decide +kernel
theorem d_B_add_51 : decode b_B_add 51 = .ok (.iadd, 1) := by decide +kernel
theorem d_B_add_52 : decode b_B_add 52 = .ok (.goto 4, 3) := by decide +kernel
theorem d_B_add_55 : decode b_B_add 55 = .ok (.iconst 1, 1) := by decide +kernel
theorem d_B_add_56 : decode b_B_add 56 = .ok (.iastore, 1) := by decide +kernel
theorem d_B_add_57 : decode b_B_add 57 = .ok (.aload_n 0, 1) := by decide +kernel
theorem d_B_add_58 : decode b_B_add 58 = .ok (.getfield 28, 3) := by decide +kernel
theorem d_B_add_61 : decode b_B_add 61 = .ok (.iload 5, 2) := by decide +kernel
theorem d_B_add_63 : decode b_B_add 63 = .ok (.aload_n 0, 1) := by decide +kernel
theorem d_B_add_64 : decode b_B_add 64 = .ok (.iload_n 3, 1) := by decide +kernel
theorem d_B_add_65 : decode b_B_add 65 = .ok (.invokevirtual 37, 3) := by decide +kernel
theorem d_B_add_68 : decode b_B_add 68 = .ok (.ifCond .eq 12, 3) := by decide +kernel
theorem d_B_add_71 : decode b_B_add 71 = .ok (.aload_n 0, 1) := by decide +kernel
theorem d_B_add_72 : decode b_B_add 72 = .ok (.getfield 28, 3) := by decide +kernel
theorem d_B_add_75 : decode b_B_add 75 = .ok (.iload_n 3, 1) := by decide +kernel
theorem d_B_add_76 : decode b_B_add 76 = .ok (.iaload, 1) := by decide +kernel
theorem d_B_add_77 : decode b_B_add 77 = .ok (.goto 5, 3) := by decide +kernel
theorem d_B_add_80 : decode b_B_add 80 = .ok (.iload 5, 2) := by decide +kernel
theorem d_B_add_82 : decode b_B_add 82 = .ok (.iastore, 1) := by decide +kernel
theorem d_B_add_83 : decode b_B_add 83 = .ok (.aload_n 0, 1) := by decide +kernel
theorem d_B_add_84 : decode b_B_add 84 = .ok (.getfield 31, 3) := by decide +kernel
theorem d_B_add_87 : decode b_B_add 87 = .ok (.iload 5, 2) := by decide +kernel
theorem d_B_add_89 : decode b_B_add 89 = .ok (.iload 4, 2) := by decide +kernel
theorem d_B_add_91 : decode b_B_add 91 = .ok (.iastore, 1) := by decide +kernel
theorem d_B_add_92 : decode b_B_add 92 = .ok (.aload_n 0, 1) := by decide +kernel
theorem d_B_add_93 : decode b_B_add 93 = .ok (.getfield 34, 3) := by decide +kernel
theorem d_B_add_96 : decode b_B_add 96 = .ok (.iload 5, 2) := by decide +kernel
theorem d_B_add_98 : decode b_B_add 98 = .ok (.iconst 0, 1) := by decide +kernel
theorem d_B_add_99 : decode b_B_add 99 = .ok (.iastore, 1) := by decide +kernel
theorem d_B_add_100 : decode b_B_add 100 = .ok (.aload_n 0, 1) := by decide +kernel
theorem d_B_add_101 : decode b_B_add 101 = .ok (.dup, 1) := by decide +kernel
theorem d_B_add_102 : decode b_B_add 102 = .ok (.getfield 9, 3) := by decide +kernel
theorem d_B_add_105 : decode b_B_add 105 = .ok (.iconst 1, 1) := by decide +kernel
theorem d_B_add_106 : decode b_B_add 106 = .ok (.iadd, 1) := by decide +kernel
theorem d_B_add_107 : decode b_B_add 107 = .ok (.putfield 9, 3) := by decide +kernel
theorem d_B_add_110 : decode b_B_add 110 = .ok (.iload 5, 2) := by decide +kernel
theorem d_B_add_112 : decode b_B_add 112 = .ok (.ireturn, 1) := by decide +kernel
theorem d_B_nextFreeNumber_0 : decode b_B_nextFreeNumber 0 = .ok (.iconst 1, 1) := by decide +kernel
theorem d_B_nextFreeNumber_1 : decode b_B_nextFreeNumber 1 = .ok (.istore_n 2, 1) := by decide +kernel
theorem d_B_nextFreeNumber_2 : decode b_B_nextFreeNumber 2 = .ok (.iload_n 2, 1) := by decide +kernel
theorem d_B_nextFreeNumber_3 : decode b_B_nextFreeNumber 3 = .ok (.bipush 60, 2) := by decide +kernel
theorem d_B_nextFreeNumber_5 : decode b_B_nextFreeNumber 5 = .ok (.if_icmp .gt 42, 3) := by decide +kernel
theorem d_B_nextFreeNumber_8 : decode b_B_nextFreeNumber 8 = .ok (.aload_n 0, 1) := by decide +kernel
theorem d_B_nextFreeNumber_9 : decode b_B_nextFreeNumber 9 = .ok (.getfield 19, 3) := by decide +kernel
theorem d_B_nextFreeNumber_12 : decode b_B_nextFreeNumber 12 = .ok (.iload_n 1, 1) := by decide +kernel
theorem d_B_nextFreeNumber_13 : decode b_B_nextFreeNumber 13 = .ok (.iaload, 1) := by decide +kernel
theorem d_B_nextFreeNumber_14 : decode b_B_nextFreeNumber 14 = .ok (.iload_n 2, 1) := by decide +kernel
theorem d_B_nextFreeNumber_15 : decode b_B_nextFreeNumber 15 = .ok (.iadd, 1) := by decide +kernel
theorem d_B_nextFreeNumber_16 : decode b_B_nextFreeNumber 16 = .ok (.istore_n 3, 1) := by decide +kernel
theorem d_B_nextFreeNumber_17 : decode b_B_nextFreeNumber 17 = .ok (.iload_n 3, 1) := by decide +kernel
theorem d_B_nextFreeNumber_18 : decode b_B_nextFreeNumber 18 = .ok (.ldc 44, 2) := by decide +kernel
theorem d_B_nextFreeNumber_20 : decode b_B_nextFreeNumber 20 = .ok (.if_icmp .le 5, 3) := by decide +kernel
theorem d_B_nextFreeNumber_23 : decode b_B_nextFreeNumber 23 = .ok (.iconst (-1), 1) := by decide +kernel
theorem d_B_nextFreeNumber_24 : decode b_B_nextFreeNumber 24 = .ok (.ireturn, 1) := by decide +kernel
theorem d_B_nextFreeNumber_25 : decode b_B_nextFreeNumber 25 = .ok (.aload_n 0, 1) := by decide +kernel
theorem d_B_nextFreeNumber_26 : decode b_B_nextFreeNumber 26 = .ok (.aload_n 0, 1) := by decide +kernel
theorem d_B_nextFreeNumber_27 : decode b_B_nextFreeNumber 27 = .ok (.getfield 15, 3) := by decide +kernel
theorem d_B_nextFreeNumber_30 : decode b_B_nextFreeNumber 30 = .ok (.iload_n 1, 1) := by decide +kernel
theorem d_B_nextFreeNumber_31 : decode b_B_nextFreeNumber 31 = .ok (.iaload, 1) := by decide +kernel
theorem d_B_nextFreeNumber_32 : decode b_B_nextFreeNumber 32 = .ok (.iload_n 3, 1) := by decide +kernel
theorem d_B_nextFreeNumber_33 : decode b_B_nextFreeNumber 33 = .ok (.invokevirtual 45, 3) := by decide +kernel
theorem d_B_nextFreeNumber_36 : decode b_B_nextFreeNumber 36 = .ok (.ifCond .ne 5, 3) := by decide +kernel
theorem d_B_nextFreeNumber_39 : decode b_B_nextFreeNumber 39 = .ok (.iload_n 3, 1) := by decide +kernel
theorem d_B_nextFreeNumber_40 : decode b_B_nextFreeNumber 40 = .ok (.ireturn, 1) := by decide +kernel
theorem d_B_nextFreeNumber_41 : decode b_B_nextFreeNumber 41 = .ok (.iinc 2 1, 3) := by decide +kernel
theorem d_B_nextFreeNumber_44 : decode b_B_nextFreeNumber 44 = .ok (.goto (-42), 3) := by decide +kernel
theorem d_B_nextFreeNumber_47 : decode b_B_nextFreeNumber 47 = .ok (.iconst (-1), 1) := by decide +kernel
theorem d_B_nextFreeNumber_48 : decode b_B_nextFreeNumber 48 = .ok (.ireturn, 1) := by decide +kernel
theorem d_B_under_0 : decode b_B_under 0 = .ok (.iconst 0, 1) := by decide +kernel
theorem d_B_under_1 : decode b_B_under 1 = .ok (.istore_n 2, 1) := by decide +kernel
theorem d_B_under_2 : decode b_B_under 2 = .ok (.iconst 0, 1) := by decide +kernel
theorem d_B_under_3 : decode b_B_under 3 = .ok (.istore_n 3, 1) := by decide +kernel
theorem d_B_under_4 : decode b_B_under 4 = .ok (.iload_n 3, 1) := by decide +kernel
theorem d_B_under_5 : decode b_B_under 5 = .ok (.aload_n 0, 1) := by decide +kernel
theorem d_B_under_6 : decode b_B_under 6 = .ok (.getfield 9, 3) := by decide +kernel
theorem d_B_under_9 : decode b_B_under 9 = .ok (.if_icmp .ge 22, 3) := by decide +kernel
theorem d_B_under_12 : decode b_B_under 12 = .ok (.aload_n 0, 1) := by decide +kernel
theorem d_B_under_13 : decode b_B_under 13 = .ok (.getfield 22, 3) := by decide +kernel
theorem d_B_under_16 : decode b_B_under 16 = .ok (.iload_n 3, 1) := by decide +kernel
theorem d_B_under_17 : decode b_B_under 17 = .ok (.iaload, 1) := by decide +kernel
theorem d_B_under_18 : decode b_B_under 18 = .ok (.iload_n 1, 1) := by decide +kernel
theorem d_B_under_19 : decode b_B_under 19 = .ok (.if_icmp .ne 6, 3) := by decide +kernel
theorem d_B_under_22 : decode b_B_under 22 = .ok (.iinc 2 1, 3) := by decide +kernel
theorem d_B_under_25 : decode b_B_under 25 = .ok (.iinc 3 1, 3) := by decide +kernel
theorem d_B_under_28 : decode b_B_under 28 = .ok (.goto (-24), 3) := by decide +kernel
theorem d_B_under_31 : decode b_B_under 31 = .ok (.iload_n 2, 1) := by decide +kernel
theorem d_B_under_32 : decode b_B_under 32 = .ok (.ireturn, 1) := by decide +kernel
theorem d_N_init_0 : decode b_N_init 0 = .ok (.aload_n 0, 1) := by decide +kernel
theorem d_N_init_1 : decode b_N_init 1 = .ok (.invokespecial 3, 3) := by decide +kernel
theorem d_N_init_4 : decode b_N_init 4 = .ok (.aload_n 0, 1) := by decide +kernel
theorem d_N_init_5 : decode b_N_init 5 = .ok (.iconst 0, 1) := by decide +kernel
theorem d_N_init_6 : decode b_N_init 6 = .ok (.putfield 9, 3) := by decide +kernel
theorem d_N_init_9 : decode b_N_init 9 = .ok (.aload_n 0, 1) := by decide +kernel
theorem d_N_init_10 : decode b_N_init 10 = .ok (.sipush 200, 3) := by decide +kernel
theorem d_N_init_13 : decode b_N_init 13 = .ok (.newarray .int, 2) := by decide +kernel
theorem d_N_init_15 : decode b_N_init 15 = .ok (.putfield 15, 3) := by decide +kernel
