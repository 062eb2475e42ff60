theorem d_L_law_0 : decode b_L_law 0 = .ok (.new 8, 3) := by decide +kernel
theorem d_L_law_3 : decode b_L_law 3 = .ok (.dup, 1) := by decide +kernel
theorem d_L_law_4 : decode b_L_law 4 = .ok (.invokespecial 49, 3) := by decide +kernel
theorem d_L_law_7 : decode b_L_law 7 = .ok (.astore_n 1, 1) := by decide +kernel
theorem d_L_law_8 : decode b_L_law 8 = .ok (.new 50, 3) := by decide +kernel
theorem d_L_law_11 : decode b_L_law 11 = .ok (.dup, 1) := by decide +kernel
theorem d_L_law_12 : decode b_L_law 12 = .ok (.invokespecial 52, 3) := by decide +kernel
theorem d_L_law_15 : decode b_L_law 15 = .ok (.astore_n 2, 1) := by decide +kernel
theorem d_L_law_16 : decode b_L_law 16 = .ok (.iconst 1, 1) := by decide +kernel
theorem d_L_law_17 : decode b_L_law 17 = .ok (.newarray .long, 2) := by decide +kernel
theorem d_L_law_19 : decode b_L_law 19 = .ok (.astore_n 3, 1) := by decide +kernel
theorem d_L_law_20 : decode b_L_law 20 = .ok (.iconst 0, 1) := by decide +kernel
theorem d_L_law_21 : decode b_L_law 21 = .ok (.istore 4, 2) := by decide +kernel
theorem d_L_law_23 : decode b_L_law 23 = .ok (.iload 4, 2) := by decide +kernel
theorem d_L_law_25 : decode b_L_law 25 = .ok (.aload_n 0, 1) := by decide +kernel
theorem d_L_law_26 : decode b_L_law 26 = .ok (.arraylength, 1) := by decide +kernel
theorem d_L_law_27 : decode b_L_law 27 = .ok (.iconst 4, 1) := by decide +kernel
theorem d_L_law_28 : decode b_L_law 28 = .ok (.isub, 1) := by decide +kernel
theorem d_L_law_29 : decode b_L_law 29 = .ok (.if_icmp .gt 1043, 3) := by decide +kernel
theorem d_L_law_32 : decode b_L_law 32 = .ok (.aload_n 0, 1) := by decide +kernel
theorem d_L_law_33 : decode b_L_law 33 = .ok (.iload 4, 2) := by decide +kernel
theorem d_L_law_35 : decode b_L_law 35 = .ok (.iaload, 1) := by decide +kernel
theorem d_L_law_36 : decode b_L_law 36 = .ok (.bipush 15, 2) := by decide +kernel
theorem d_L_law_38 : decode b_L_law 38 = .ok (.iand, 1) := by decide +kernel
theorem d_L_law_39 : decode b_L_law 39 = .ok (.tableswitch 1027 0 15 #[77, 157, 237, 317, 354, 391, 416, 496, 576, 656, 724, 761, 829, 897, 922, 1002], 77) := by decide +kernel
theorem d_L_law_116 : decode b_L_law 116 = .ok (.aload_n 1, 1) := by decide +kernel
theorem d_L_law_117 : decode b_L_law 117 = .ok (.aload_n 0, 1) := by decide +kernel
theorem d_L_law_118 : decode b_L_law 118 = .ok (.iload 4, 2) := by decide +kernel
theorem d_L_law_120 : decode b_L_law 120 = .ok (.iconst 1, 1) := by decide +kernel
theorem d_L_law_121 : decode b_L_law 121 = .ok (.iadd, 1) := by decide +kernel
theorem d_L_law_122 : decode b_L_law 122 = .ok (.iaload, 1) := by decide +kernel
theorem d_L_law_123 : decode b_L_law 123 = .ok (.aload_n 0, 1) := by decide +kernel
theorem d_L_law_124 : decode b_L_law 124 = .ok (.iload 4, 2) := by decide +kernel
theorem d_L_law_126 : decode b_L_law 126 = .ok (.iconst 2, 1) := by decide +kernel
theorem d_L_law_127 : decode b_L_law 127 = .ok (.iadd, 1) := by decide +kernel
theorem d_L_law_128 : decode b_L_law 128 = .ok (.iaload, 1) := by decide +kernel
theorem d_L_law_129 : decode b_L_law 129 = .ok (.aload_n 0, 1) := by decide +kernel
theorem d_L_law_130 : decode b_L_law 130 = .ok (.iload 4, 2) := by decide +kernel
theorem d_L_law_132 : decode b_L_law 132 = .ok (.iconst 3, 1) := by decide +kernel
theorem d_L_law_133 : decode b_L_law 133 = .ok (.iadd, 1) := by decide +kernel
theorem d_L_law_134 : decode b_L_law 134 = .ok (.iaload, 1) := by decide +kernel
theorem d_L_law_135 : decode b_L_law 135 = .ok (.aload_n 3, 1) := by decide +kernel
theorem d_L_law_136 : decode b_L_law 136 = .ok (.invokestatic 53, 3) := by decide +kernel
theorem d_L_law_139 : decode b_L_law 139 = .ok (.istore 5, 2) := by decide +kernel
theorem d_L_law_141 : decode b_L_law 141 = .ok (.aload_n 2, 1) := by decide +kernel
theorem d_L_law_142 : decode b_L_law 142 = .ok (.aload_n 0, 1) := by decide +kernel
theorem d_L_law_143 : decode b_L_law 143 = .ok (.iload 4, 2) := by decide +kernel
theorem d_L_law_145 : decode b_L_law 145 = .ok (.iconst 1, 1) := by decide +kernel
theorem d_L_law_146 : decode b_L_law 146 = .ok (.iadd, 1) := by decide +kernel
theorem d_L_law_147 : decode b_L_law 147 = .ok (.iaload, 1) := by decide +kernel
theorem d_L_law_148 : decode b_L_law 148 = .ok (.aload_n 0, 1) := by decide +kernel
theorem d_L_law_149 : decode b_L_law 149 = .ok (.iload 4, 2) := by decide +kernel
theorem d_L_law_151 : decode b_L_law 151 = .ok (.iconst 2, 1) := by decide +kernel
theorem d_L_law_152 : decode b_L_law 152 = .ok (.iadd, 1) := by decide +kernel
theorem d_L_law_153 : decode b_L_law 153 = .ok (.iaload, 1) := by decide +kernel
theorem d_L_law_154 : decode b_L_law 154 = .ok (.aload_n 0, 1) := by decide +kernel
theorem d_L_law_155 : decode b_L_law 155 = .ok (.iload 4, 2) := by decide +kernel
theorem d_L_law_157 : decode b_L_law 157 = .ok (.iconst 3, 1) := by decide +kernel
theorem d_L_law_158 : decode b_L_law 158 = .ok (.iadd, 1) := by decide +kernel
theorem d_L_law_159 : decode b_L_law 159 = .ok (.iaload, 1) := by decide +kernel
theorem d_L_law_160 : decode b_L_law 160 = .ok (.invokevirtual 58, 3) := by decide +kernel
theorem d_L_law_163 : decode b_L_law 163 = .ok (.istore 6, 2) := by decide +kernel
theorem d_L_law_165 : decode b_L_law 165 = .ok (.aload_n 2, 1) := by decide +kernel
theorem d_L_law_166 : decode b_L_law 166 = .ok (.invokevirtual 59, 3) := by decide +kernel
theorem d_L_law_169 : decode b_L_law 169 = .ok (.iload 5, 2) := by decide +kernel
theorem d_L_law_171 : decode b_L_law 171 = .ok (.if_icmp .eq 5, 3) := by decide +kernel
theorem d_L_law_174 : decode b_L_law 174 = .ok (.iconst 0, 1) := by decide +kernel
theorem d_L_law_175 : decode b_L_law 175 = .ok (.ireturn, 1) := by decide +kernel
theorem d_L_law_176 : decode b_L_law 176 = .ok (.iload 5, 2) := by decide +kernel
theorem d_L_law_178 : decode b_L_law 178 = .ok (.ifCond .ne 15, 3) := by decide +kernel
theorem d_L_law_181 : decode b_L_law 181 = .ok (.aload_n 3, 1) := by decide +kernel
theorem d_L_law_182 : decode b_L_law 182 = .ok (.iconst 0, 1) := by decide +kernel
theorem d_L_law_183 : decode b_L_law 183 = .ok (.laload, 1) := by decide +kernel
theorem d_L_law_184 : decode b_L_law 184 = .ok (.iload 6, 2) := by decide +kernel
theorem d_L_law_186 : decode b_L_law 186 = .ok (.i2l, 1) := by decide +kernel
theorem d_L_law_187 : decode b_L_law 187 = .ok (.lcmp, 1) := by decide +kernel
theorem d_L_law_188 : decode b_L_law 188 = .ok (.ifCond .eq 5, 3) := by decide +kernel
theorem d_L_law_191 : decode b_L_law 191 = .ok (.iconst 0, 1) := by decide +kernel
theorem d_L_law_192 : decode b_L_law 192 = .ok (.ireturn, 1) := by decide +kernel
theorem d_L_law_193 : decode b_L_law 193 = .ok (.goto 873, 3) := by decide +kernel
theorem d_L_law_196 : decode b_L_law 196 = .ok (.aload_n 1, 1) := by decide +kernel
theorem d_L_law_197 : decode b_L_law 197 = .ok (.aload_n 0, 1) := by decide +kernel
theorem d_L_law_198 : decode b_L_law 198 = .ok (.iload 4, 2) := by decide +kernel
theorem d_L_law_200 : decode b_L_law 200 = .ok (.iconst 1, 1) := by decide +kernel
theorem d_L_law_201 : decode b_L_law 201 = .ok (.iadd, 1) := by decide +kernel
theorem d_L_law_202 : decode b_L_law 202 = .ok (.iaload, 1) := by decide +kernel
theorem d_L_law_203 : decode b_L_law 203 = .ok (.aload_n 0, 1) := by decide +kernel
theorem d_L_law_204 : decode b_L_law 204 = .ok (.iload 4, 2) := by decide +kernel
theorem d_L_law_206 : decode b_L_law 206 = .ok (.iconst 2, 1) := by decide +kernel
theorem d_L_law_207 : decode b_L_law 207 = .ok (.iadd, 1) := by decide +kernel
theorem d_L_law_208 : decode b_L_law 208 = .ok (.iaload, 1) := by decide +kernel
theorem d_L_law_209 : decode b_L_law 209 = .ok (.aload_n 0, 1) := by decide +kernel
theorem d_L_law_210 : decode b_L_law 210 = .ok (.iload 4, 2) := by decide +kernel
theorem d_L_law_212 : decode b_L_law 212 = .ok (.iconst 3, 1) := by decide +kernel
theorem d_L_law_213 : decode b_L_law 213 = .ok (.iadd, 1) := by decide +kernel
theorem d_L_law_214 : decode b_L_law 214 = .ok (.iaload, 1) := by decide +kernel
theorem d_L_law_215 : decode b_L_law 215 = .ok (.aload_n 3, 1) := by decide +kernel
theorem d_L_law_216 : decode b_L_law 216 = .ok (.invokestatic 63, 3) := by decide +kernel
theorem d_L_law_219 : decode b_L_law 219 = .ok (.istore 5, 2) := by decide +kernel
theorem d_L_law_221 : decode b_L_law 221 = .ok (.aload_n 2, 1) := by decide +kernel
theorem d_L_law_222 : decode b_L_law 222 = .ok (.aload_n 0, 1) := by decide +kernel
theorem d_L_law_223 : decode b_L_law 223 = .ok (.iload 4, 2) := by decide +kernel
theorem d_L_law_225 : decode b_L_law 225 = .ok (.iconst 1, 1) := by decide +kernel
theorem d_L_law_226 : decode b_L_law 226 = .ok (.iadd, 1) := by decide +kernel
theorem d_L_law_227 : decode b_L_law 227 = .ok (.iaload, 1) := by decide +kernel
theorem d_L_law_228 : decode b_L_law 228 = .ok (.aload_n 0, 1) := by decide +kernel
theorem d_L_law_229 : decode b_L_law 229 = .ok (.iload 4, 2) := by decide +kernel
theorem d_L_law_231 : decode b_L_law 231 = .ok (.iconst 2, 1) := by decide +kernel
theorem d_L_law_232 : decode b_L_law 232 = .ok (.iadd, 1) := by decide +kernel
theorem d_L_law_233 : decode b_L_law 233 = .ok (.iaload, 1) := by decide +kernel
theorem d_L_law_234 : decode b_L_law 234 = .ok (.aload_n 0, 1) := by decide +kernel
theorem d_L_law_235 : decode b_L_law 235 = .ok (.iload 4, 2) := by decide +kernel
theorem d_L_law_237 : decode b_L_law 237 = .ok (.iconst 3, 1) := by decide +kernel
theorem d_L_law_238 : decode b_L_law 238 = .ok (.iadd, 1) := by decide +kernel
theorem d_L_law_239 : decode b_L_law 239 = .ok (.iaload, 1) := by decide +kernel
theorem d_L_law_240 : decode b_L_law 240 = .ok (.invokevirtual 65, 3) := by decide +kernel
theorem d_L_law_243 : decode b_L_law 243 = .ok (.istore 6, 2) := by decide +kernel
theorem d_L_law_245 : decode b_L_law 245 = .ok (.aload_n 2, 1) := by decide +kernel
theorem d_L_law_246 : decode b_L_law 246 = .ok (.invokevirtual 59, 3) := by decide +kernel
theorem d_L_law_249 : decode b_L_law 249 = .ok (.iload 5, 2) := by decide +kernel
theorem d_L_law_251 : decode b_L_law 251 = .ok (.if_icmp .eq 5, 3) := by decide +kernel
theorem d_L_law_254 : decode b_L_law 254 = .ok (.iconst 0, 1) := by decide +kernel
theorem d_L_law_255 : decode b_L_law 255 = .ok (.ireturn, 1) := by decide +kernel
theorem d_L_law_256 : decode b_L_law 256 = .ok (.iload 5, 2) := by decide +kernel
theorem d_L_law_258 : decode b_L_law 258 = .ok (.ifCond .ne 15, 3) := by decide +kernel
theorem d_L_law_261 : decode b_L_law 261 = .ok (.aload_n 3, 1) := by decide +kernel
theorem d_L_law_262 : decode b_L_law 262 = .ok (.iconst 0, 1) := by decide +kernel
theorem d_L_law_263 : decode b_L_law 263 = .ok (.laload, 1) := by decide +kernel
theorem d_L_law_264 : decode b_L_law 264 = .ok (.iload 6, 2) := by decide +kernel
theorem d_L_law_266 : decode b_L_law 266 = .ok (.i2l, 1) := by decide +kernel
theorem d_L_law_267 : decode b_L_law 267 = .ok (.lcmp, 1) := by decide +kernel
theorem d_L_law_268 : decode b_L_law 268 = .ok (.ifCond .eq 5, 3) := by decide +kernel
theorem d_L_law_271 : decode b_L_law 271 = .ok (.iconst 0, 1) := by decide +kernel
theorem d_L_law_272 : decode b_L_law 272 = .ok (.ireturn, 1) := by decide +kernel
theorem d_L_law_273 : decode b_L_law 273 = .ok (.goto 793, 3) := by decide +kernel
theorem d_L_law_276 : decode b_L_law 276 = .ok (.aload_n 1, 1) := by decide +kernel
theorem d_L_law_277 : decode b_L_law 277 = .ok (.aload_n 0, 1) := by decide +kernel
theorem d_L_law_278 : decode b_L_law 278 = .ok (.iload 4, 2) := by decide +kernel
theorem d_L_law_280 : decode b_L_law 280 = .ok (.iconst 1, 1) := by decide +kernel
theorem d_L_law_281 : decode b_L_law 281 = .ok (.iadd, 1) := by decide +kernel
theorem d_L_law_282 : decode b_L_law 282 = .ok (.iaload, 1) := by decide +kernel
theorem d_L_law_283 : decode b_L_law 283 = .ok (.aload_n 0, 1) := by decide +kernel
theorem d_L_law_284 : decode b_L_law 284 = .ok (.iload 4, 2) := by decide +kernel
theorem d_L_law_286 : decode b_L_law 286 = .ok (.iconst 2, 1) := by decide +kernel
theorem d_L_law_287 : decode b_L_law 287 = .ok (.iadd, 1) := by decide +kernel
theorem d_L_law_288 : decode b_L_law 288 = .ok (.iaload, 1) := by decide +kernel
theorem d_L_law_289 : decode b_L_law 289 = .ok (.aload_n 0, 1) := by decide +kernel
theorem d_L_law_290 : decode b_L_law 290 = .ok (.iload 4, 2) := by decide +kernel
theorem d_L_law_292 : decode b_L_law 292 = .ok (.iconst 3, 1) := by decide +kernel
theorem d_L_law_293 : decode b_L_law 293 = .ok (.iadd, 1) := by decide +kernel
theorem d_L_law_294 : decode b_L_law 294 = .ok (.iaload, 1) := by decide +kernel
theorem d_L_law_295 : decode b_L_law 295 = .ok (.aload_n 3, 1) := by decide +kernel
theorem d_L_law_296 : decode b_L_law 296 = .ok (.invokestatic 66, 3) := by decide +kernel
theorem d_L_law_299 : decode b_L_law 299 = .ok (.istore 5, 2) := by decide +kernel
theorem d_L_law_301 : decode b_L_law 301 = .ok (.aload_n 2, 1) := by decide +kernel
theorem d_L_law_302 : decode b_L_law 302 = .ok (.aload_n 0, 1) := by decide +kernel
theorem d_L_law_303 : decode b_L_law 303 = .ok (.iload 4, 2) := by decide +kernel
theorem d_L_law_305 : decode b_L_law 305 = .ok (.iconst 1, 1) := by decide +kernel
theorem d_L_law_306 : decode b_L_law 306 = .ok (.iadd, 1) := by decide +kernel
theorem d_L_law_307 : decode b_L_law 307 = .ok (.iaload, 1) := by decide +kernel
theorem d_L_law_308 : decode b_L_law 308 = .ok (.aload_n 0, 1) := by decide +kernel
theorem d_L_law_309 : decode b_L_law 309 = .ok (.iload 4, 2) := by decide +kernel
theorem d_L_law_311 : decode b_L_law 311 = .ok (.iconst 2, 1) := by decide +kernel
theorem d_L_law_312 : decode b_L_law 312 = .ok (.iadd, 1) := by decide +kernel
theorem d_L_law_313 : decode b_L_law 313 = .ok (.iaload, 1) := by decide +kernel
theorem d_L_law_314 : decode b_L_law 314 = .ok (.aload_n 0, 1) := by decide +kernel
theorem d_L_law_315 : decode b_L_law 315 = .ok (.iload 4, 2) := by decide +kernel
theorem d_L_law_317 : decode b_L_law 317 = .ok (.iconst 3, 1) := by decide +kernel
theorem d_L_law_318 : decode b_L_law 318 = .ok (.iadd, 1) := by decide +kernel
theorem d_L_law_319 : decode b_L_law 319 = .ok (.iaload, 1) := by decide +kernel
theorem d_L_law_320 : decode b_L_law 320 = .ok (.invokevirtual 68, 3) := by decide +kernel
theorem d_L_law_323 : decode b_L_law 323 = .ok (.istore 6, 2) := by decide +kernel
theorem d_L_law_325 : decode b_L_law 325 = .ok (.aload_n 2, 1) := by decide +kernel
theorem d_L_law_326 : decode b_L_law 326 = .ok (.invokevirtual 59, 3) := by decide +kernel
theorem d_L_law_329 : decode b_L_law 329 = .ok (.iload 5, 2) := by decide +kernel
theorem d_L_law_331 : decode b_L_law 331 = .ok (.if_icmp .eq 5, 3) := by decide +kernel
theorem d_L_law_334 : decode b_L_law 334 = .ok (.iconst 0, 1) := by decide +kernel
theorem d_L_law_335 : decode b_L_law 335 = .ok (.ireturn, 1) := by decide +kernel
theorem d_L_law_336 : decode b_L_law 336 = .ok (.iload 5, 2) := by decide +kernel
theorem d_L_law_338 : decode b_L_law 338 = .ok (.ifCond .ne 15, 3) := by decide +kernel
theorem d_L_law_341 : decode b_L_law 341 = .ok (.aload_n 3, 1) := by decide +kernel
theorem d_L_law_342 : decode b_L_law 342 = .ok (.iconst 0, 1) := by decide +kernel
theorem d_L_law_343 : decode b_L_law 343 = .ok (.laload, 1) := by decide +kernel
theorem d_L_law_344 : decode b_L_law 344 = .ok (.iload 6, 2) := by decide +kernel
theorem d_L_law_346 : decode b_L_law 346 = .ok (.i2l, 1) := by decide +kernel
theorem d_L_law_347 : decode b_L_law 347 = .ok (.lcmp, 1) := by decide +kernel
theorem d_L_law_348 : decode b_L_law 348 = .ok (.ifCond .eq 5, 3) := by decide +kernel
theorem d_L_law_351 : decode b_L_law 351 = .ok (.iconst 0, 1) := by decide +kernel
theorem d_L_law_352 : decode b_L_law 352 = .ok (.ireturn, 1) := by decide +kernel
theorem d_L_law_353 : decode b_L_law 353 = .ok (.goto 713, 3) := by decide +kernel
theorem d_L_law_356 : decode b_L_law 356 = .ok (.aload_n 1, 1) := by decide +kernel
theorem d_L_law_357 : decode b_L_law 357 = .ok (.aload_n 0, 1) := by decide +kernel
theorem d_L_law_358 : decode b_L_law 358 = .ok (.iload 4, 2) := by decide +kernel
theorem d_L_law_360 : decode b_L_law 360 = .ok (.iconst 1, 1) := by decide +kernel
theorem d_L_law_361 : decode b_L_law 361 = .ok (.iadd, 1) := by decide +kernel
theorem d_L_law_362 : decode b_L_law 362 = .ok (.iaload, 1) := by decide +kernel
theorem d_L_law_363 : decode b_L_law 363 = .ok (.aload_n 0, 1) := by decide +kernel
theorem d_L_law_364 : decode b_L_law 364 = .ok (.iload 4, 2) := by decide +kernel
theorem d_L_law_366 : decode b_L_law 366 = .ok (.iconst 2, 1) := by decide +kernel
theorem d_L_law_367 : decode b_L_law 367 = .ok (.iadd, 1) := by decide +kernel
theorem d_L_law_368 : decode b_L_law 368 = .ok (.iaload, 1) := by decide +kernel
theorem d_L_law_369 : decode b_L_law 369 = .ok (.invokevirtual 69, 3) := by decide +kernel
theorem d_L_law_372 : decode b_L_law 372 = .ok (.aload_n 2, 1) := by decide +kernel
theorem d_L_law_373 : decode b_L_law 373 = .ok (.aload_n 0, 1) := by decide +kernel
theorem d_L_law_374 : decode b_L_law 374 = .ok (.iload 4, 2) := by decide +kernel
theorem d_L_law_376 : decode b_L_law 376 = .ok (.iconst 1, 1) := by decide +kernel
theorem d_L_law_377 : decode b_L_law 377 = .ok (.iadd, 1) := by decide +kernel
theorem d_L_law_378 : decode b_L_law 378 = .ok (.iaload, 1) := by decide +kernel
theorem d_L_law_379 : decode b_L_law 379 = .ok (.aload_n 0, 1) := by decide +kernel
theorem d_L_law_380 : decode b_L_law 380 = .ok (.iload 4, 2) := by decide +kernel
theorem d_L_law_382 : decode b_L_law 382 = .ok (.iconst 2, 1) := by decide +kernel
theorem d_L_law_383 : decode b_L_law 383 = .ok (.iadd, 1) := by decide +kernel
theorem d_L_law_384 : decode b_L_law 384 = .ok (.iaload, 1) := by decide +kernel
theorem d_L_law_385 : decode b_L_law 385 = .ok (.invokevirtual 73, 3) := by decide +kernel
theorem d_L_law_388 : decode b_L_law 388 = .ok (.if_icmp .eq 678, 3) := by decide +kernel
theorem d_L_law_391 : decode b_L_law 391 = .ok (.iconst 0, 1) := by decide +kernel
theorem d_L_law_392 : decode b_L_law 392 = .ok (.ireturn, 1) := by decide +kernel
theorem d_L_law_393 : decode b_L_law 393 = .ok (.aload_n 1, 1) := by decide +kernel
theorem d_L_law_394 : decode b_L_law 394 = .ok (.aload_n 0, 1) := by decide +kernel
theorem d_L_law_395 : decode b_L_law 395 = .ok (.iload 4, 2) := by decide +kernel
theorem d_L_law_397 : decode b_L_law 397 = .ok (.iconst 1, 1) := by decide +kernel
theorem d_L_law_398 : decode b_L_law 398 = .ok (.iadd, 1) := by decide +kernel
theorem d_L_law_399 : decode b_L_law 399 = .ok (.iaload, 1) := by decide +kernel
theorem d_L_law_400 : decode b_L_law 400 = .ok (.aload_n 0, 1) := by decide +kernel
theorem d_L_law_401 : decode b_L_law 401 = .ok (.iload 4, 2) := by decide +kernel
theorem d_L_law_403 : decode b_L_law 403 = .ok (.iconst 2, 1) := by decide +kernel
theorem d_L_law_404 : decode b_L_law 404 = .ok (.iadd, 1) := by decide +kernel
theorem d_L_law_405 : decode b_L_law 405 = .ok (.iaload, 1) := by decide +kernel
theorem d_L_law_406 : decode b_L_law 406 = .ok (.invokevirtual 74, 3) := by decide +kernel
theorem d_L_law_409 : decode b_L_law 409 = .ok (.aload_n 2, 1) := by decide +kernel
theorem d_L_law_410 : decode b_L_law 410 = .ok (.aload_n 0, 1) := by decide +kernel
theorem d_L_law_411 : decode b_L_law 411 = .ok (.iload 4, 2) := by decide +kernel
theorem d_L_law_413 : decode b_L_law 413 = .ok (.iconst 1, 1) := by decide +kernel
theorem d_L_law_414 : decode b_L_law 414 = .ok (.iadd, 1) := by decide +kernel
theorem d_L_law_415 : decode b_L_law 415 = .ok (.iaload, 1) := by decide +kernel
theorem d_L_law_416 : decode b_L_law 416 = .ok (.aload_n 0, 1) := by decide +kernel
theorem d_L_law_417 : decode b_L_law 417 = .ok (.iload 4, 2) := by decide +kernel
theorem d_L_law_419 : decode b_L_law 419 = .ok (.iconst 2, 1) := by decide +kernel
theorem d_L_law_420 : decode b_L_law 420 = .ok (.iadd, 1) := by decide +kernel
theorem d_L_law_421 : decode b_L_law 421 = .ok (.iaload, 1) := by decide +kernel
theorem d_L_law_422 : decode b_L_law 422 = .ok (.invokevirtual 77, 3) := by decide +kernel
theorem d_L_law_425 : decode b_L_law 425 = .ok (.if_icmp .eq 641, 3) := by decide +kernel
theorem d_L_law_428 : decode b_L_law 428 = .ok (.iconst 0, 1) := by decide +kernel
theorem d_L_law_429 : decode b_L_law 429 = .ok (.ireturn, 1) := by decide +kernel
theorem d_L_law_430 : decode b_L_law 430 = .ok (.aload_n 1, 1) := by decide +kernel
theorem d_L_law_431 : decode b_L_law 431 = .ok (.aload_n 0, 1) := by decide +kernel
theorem d_L_law_432 : decode b_L_law 432 = .ok (.iload 4, 2) := by decide +kernel
theorem d_L_law_434 : decode b_L_law 434 = .ok (.iconst 1, 1) := by decide +kernel
theorem d_L_law_435 : decode b_L_law 435 = .ok (.iadd, 1) := by decide +kernel
theorem d_L_law_436 : decode b_L_law 436 = .ok (.iaload, 1) := by decide +kernel
theorem d_L_law_437 : decode b_L_law 437 = .ok (.invokevirtual 78, 3) := by decide +kernel
theorem d_L_law_440 : decode b_L_law 440 = .ok (.aload_n 2, 1) := by decide +kernel
theorem d_L_law_441 : decode b_L_law 441 = .ok (.aload_n 0, 1) := by decide +kernel
theorem d_L_law_442 : decode b_L_law 442 = .ok (.iload 4, 2) := by decide +kernel
theorem d_L_law_444 : decode b_L_law 444 = .ok (.iconst 1, 1) := by decide +kernel
theorem d_L_law_445 : decode b_L_law 445 = .ok (.iadd, 1) := by decide +kernel
theorem d_L_law_446 : decode b_L_law 446 = .ok (.iaload, 1) := by decide +kernel
theorem d_L_law_447 : decode b_L_law 447 = .ok (.invokevirtual 82, 3) := by decide +kernel
theorem d_L_law_450 : decode b_L_law 450 = .ok (.if_icmp .eq 616, 3) := by decide +kernel
theorem d_L_law_453 : decode b_L_law 453 = .ok (.iconst 0, 1) := by decide +kernel
theorem d_L_law_454 : decode b_L_law 454 = .ok (.ireturn, 1) := by decide +kernel
theorem d_L_law_455 : decode b_L_law 455 = .ok (.aload_n 1, 1) := by decide +kernel
theorem d_L_law_456 : decode b_L_law 456 = .ok (.aload_n 0, 1) := by decide +kernel
theorem d_L_law_457 : decode b_L_law 457 = .ok (.iload 4, 2) := by decide +kernel
theorem d_L_law_459 : decode b_L_law 459 = .ok (.iconst 1, 1) := by decide +kernel
theorem d_L_law_460 : decode b_L_law 460 = .ok (.iadd, 1) := by decide +kernel
theorem d_L_law_461 : decode b_L_law 461 = .ok (.iaload, 1) := by decide +kernel
theorem d_L_law_462 : decode b_L_law 462 = .ok (.aload_n 0, 1) := by decide +kernel
theorem d_L_law_463 : decode b_L_law 463 = .ok (.iload 4, 2) := by decide +kernel
theorem d_L_law_465 : decode b_L_law 465 = .ok (.iconst 2, 1) := by decide +kernel
theorem d_L_law_466 : decode b_L_law 466 = .ok (.iadd, 1) := by decide +kernel
theorem d_L_law_467 : decode b_L_law 467 = .ok (.iaload, 1) := by decide +kernel
theorem d_L_law_468 : decode b_L_law 468 = .ok (.aload_n 0, 1) := by decide +kernel
theorem d_L_law_469 : decode b_L_law 469 = .ok (.iload 4, 2) := by decide +kernel
theorem d_L_law_471 : decode b_L_law 471 = .ok (.iconst 3, 1) := by decide +kernel
theorem d_L_law_472 : decode b_L_law 472 = .ok (.iadd, 1) := by decide +kernel
theorem d_L_law_473 : decode b_L_law 473 = .ok (.iaload, 1) := by decide +kernel
theorem d_L_law_474 : decode b_L_law 474 = .ok (.aload_n 3, 1) := by decide +kernel
theorem d_L_law_475 : decode b_L_law 475 = .ok (.invokestatic 83, 3) := by decide +kernel
theorem d_L_law_478 : decode b_L_law 478 = .ok (.istore 5, 2) := by decide +kernel
theorem d_L_law_480 : decode b_L_law 480 = .ok (.aload_n 2, 1) := by decide +kernel
theorem d_L_law_481 : decode b_L_law 481 = .ok (.aload_n 0, 1) := by decide +kernel
theorem d_L_law_482 : decode b_L_law 482 = .ok (.iload 4, 2) := by decide +kernel
theorem d_L_law_484 : decode b_L_law 484 = .ok (.iconst 1, 1) := by decide +kernel
theorem d_L_law_485 : decode b_L_law 485 = .ok (.iadd, 1) := by decide +kernel
theorem d_L_law_486 : decode b_L_law 486 = .ok (.iaload, 1) := by decide +kernel
theorem d_L_law_487 : decode b_L_law 487 = .ok (.aload_n 0, 1) := by decide +kernel
theorem d_L_law_488 : decode b_L_law 488 = .ok (.iload 4, 2) := by decide +kernel
theorem d_L_law_490 : decode b_L_law 490 = .ok (.iconst 2, 1) := by decide +kernel
theorem d_L_law_491 : decode b_L_law 491 = .ok (.iadd, 1) := by decide +kernel
theorem d_L_law_492 : decode b_L_law 492 = .ok (.iaload, 1) := by decide +kernel
theorem d_L_law_493 : decode b_L_law 493 = .ok (.aload_n 0, 1) := by decide +kernel
theorem d_L_law_494 : decode b_L_law 494 = .ok (.iload 4, 2) := by decide +kernel
theorem d_L_law_496 : decode b_L_law 496 = .ok (.iconst 3, 1) := by decide +kernel
theorem d_L_law_497 : decode b_L_law 497 = .ok (.iadd, 1) := by decide +kernel
theorem d_L_law_498 : decode b_L_law 498 = .ok (.iaload, 1) := by decide +kernel
theorem d_L_law_499 : decode b_L_law 499 = .ok (.invokevirtual 85, 3) := by decide +kernel
theorem d_L_law_502 : decode b_L_law 502 = .ok (.istore 6, 2) := by decide +kernel
theorem d_L_law_504 : decode b_L_law 504 = .ok (.aload_n 2, 1) := by decide +kernel
theorem d_L_law_505 : decode b_L_law 505 = .ok (.invokevirtual 59, 3) := by decide +kernel
theorem d_L_law_508 : decode b_L_law 508 = .ok (.iload 5, 2) := by decide +kernel
theorem d_L_law_510 : decode b_L_law 510 = .ok (.if_icmp .eq 5, 3) := by decide +kernel
theorem d_L_law_513 : decode b_L_law 513 = .ok (.iconst 0, 1) := by decide +kernel
theorem d_L_law_514 : decode b_L_law 514 = .ok (.ireturn, 1) := by decide +kernel
theorem d_L_law_515 : decode b_L_law 515 = .ok (.iload 5, 2) := by decide +kernel
theorem d_L_law_517 : decode b_L_law 517 = .ok (.ifCond .ne 15, 3) := by decide +kernel
theorem d_L_law_520 : decode b_L_law 520 = .ok (.aload_n 3, 1) := by decide +kernel
theorem d_L_law_521 : decode b_L_law 521 = .ok (.iconst 0, 1) := by decide +kernel
theorem d_L_law_522 : decode b_L_law 522 = .ok (.laload, 1) := by decide +kernel
theorem d_L_law_523 : decode b_L_law 523 = .ok (.iload 6, 2) := by decide +kernel
theorem d_L_law_525 : decode b_L_law 525 = .ok (.i2l, 1) := by decide +kernel
theorem d_L_law_526 : decode b_L_law 526 = .ok (.lcmp, 1) := by decide +kernel
theorem d_L_law_527 : decode b_L_law 527 = .ok (.ifCond .eq 5, 3) := by decide +kernel
theorem d_L_law_530 : decode b_L_law 530 = .ok (.iconst 0, 1) := by decide +kernel
theorem d_L_law_531 : decode b_L_law 531 = .ok (.ireturn, 1) := by decide +kernel
theorem d_L_law_532 : decode b_L_law 532 = .ok (.goto 534, 3) := by decide +kernel
theorem d_L_law_535 : decode b_L_law 535 = .ok (.aload_n 1, 1) := by decide +kernel
theorem d_L_law_536 : decode b_L_law 536 = .ok (.aload_n 0, 1) := by decide +kernel
theorem d_L_law_537 : decode b_L_law 537 = .ok (.iload 4, 2) := by decide +kernel
theorem d_L_law_539 : decode b_L_law 539 = .ok (.iconst 1, 1) := by decide +kernel
theorem d_L_law_540 : decode b_L_law 540 = .ok (.iadd, 1) := by decide +kernel
theorem d_L_law_541 : decode b_L_law 541 = .ok (.iaload, 1) := by decide +kernel
theorem d_L_law_542 : decode b_L_law 542 = .ok (.aload_n 0, 1) := by decide +kernel
theorem d_L_law_543 : decode b_L_law 543 = .ok (.iload 4, 2) := by decide +kernel
theorem d_L_law_545 : decode b_L_law 545 = .ok (.iconst 2, 1) := by decide +kernel
theorem d_L_law_546 : decode b_L_law 546 = .ok (.iadd, 1) := by decide +kernel
theorem d_L_law_547 : decode b_L_law 547 = .ok (.iaload, 1) := by decide +kernel
theorem d_L_law_548 : decode b_L_law 548 = .ok (.aload_n 0, 1) := by decide +kernel
theorem d_L_law_549 : decode b_L_law 549 = .ok (.iload 4, 2) := by decide +kernel
theorem d_L_law_551 : decode b_L_law 551 = .ok (.iconst 3, 1) := by decide +kernel
theorem d_L_law_552 : decode b_L_law 552 = .ok (.iadd, 1) := by decide +kernel
theorem d_L_law_553 : decode b_L_law 553 = .ok (.iaload, 1) := by decide +kernel
theorem d_L_law_554 : decode b_L_law 554 = .ok (.aload_n 3, 1) := by decide +kernel
theorem d_L_law_555 : decode b_L_law 555 = .ok (.invokestatic 86, 3) := by decide +kernel
theorem d_L_law_558 : decode b_L_law 558 = .ok (.istore 5, 2) := by decide +kernel
theorem d_L_law_560 : decode b_L_law 560 = .ok (.aload_n 2, 1) := by decide +kernel
theorem d_L_law_561 : decode b_L_law 561 = .ok (.aload_n 0, 1) := by decide +kernel
theorem d_L_law_562 : decode b_L_law 562 = .ok (.iload 4, 2) := by decide +kernel
theorem d_L_law_564 : decode b_L_law 564 = .ok (.iconst 1, 1) := by decide +kernel
theorem d_L_law_565 : decode b_L_law 565 = .ok (.iadd, 1) := by decide +kernel
theorem d_L_law_566 : decode b_L_law 566 = .ok (.iaload, 1) := by decide +kernel
theorem d_L_law_567 : decode b_L_law 567 = .ok (.aload_n 0, 1) := by decide +kernel
theorem d_L_law_568 : decode b_L_law 568 = .ok (.iload 4, 2) := by decide +kernel
theorem d_L_law_570 : decode b_L_law 570 = .ok (.iconst 2, 1) := by decide +kernel
theorem d_L_law_571 : decode b_L_law 571 = .ok (.iadd, 1) := by decide +kernel
theorem d_L_law_572 : decode b_L_law 572 = .ok (.iaload, 1) := by decide +kernel
theorem d_L_law_573 : decode b_L_law 573 = .ok (.aload_n 0, 1) := by decide +kernel
theorem d_L_law_574 : decode b_L_law 574 = .ok (.iload 4, 2) := by decide +kernel
theorem d_L_law_576 : decode b_L_law 576 = .ok (.iconst 3, 1) := by decide +kernel
theorem d_L_law_577 : decode b_L_law 577 = .ok (.iadd, 1) := by decide +kernel
theorem d_L_law_578 : decode b_L_law 578 = .ok (.iaload, 1) := by decide +kernel
theorem d_L_law_579 : decode b_L_law 579 = .ok (.invokevirtual 88, 3) := by decide +kernel
theorem d_L_law_582 : decode b_L_law 582 = .ok (.istore 6, 2) := by decide +kernel
theorem d_L_law_584 : decode b_L_law 584 = .ok (.aload_n 2, 1) := by decide +kernel
theorem d_L_law_585 : decode b_L_law 585 = .ok (.invokevirtual 59, 3) := by decide +kernel
theorem d_L_law_588 : decode b_L_law 588 = .ok (.iload 5, 2) := by decide +kernel
theorem d_L_law_590 : decode b_L_law 590 = .ok (.if_icmp .eq 5, 3) := by decide +kernel
theorem d_L_law_593 : decode b_L_law 593 = .ok (.iconst 0, 1) := by decide +kernel
theorem d_L_law_594 : decode b_L_law 594 = .ok (.ireturn, 1) := by decide +kernel
theorem d_L_law_595 : decode b_L_law 595 = .ok (.iload 5, 2) := by decide +kernel
theorem d_L_law_597 : decode b_L_law 597 = .ok (.ifCond .ne 15, 3) := by decide +kernel
theorem d_L_law_600 : decode b_L_law 600 = .ok (.aload_n 3, 1) := by decide +kernel
theorem d_L_law_601 : decode b_L_law 601 = .ok (.iconst 0, 1) := by decide +kernel
theorem d_L_law_602 : decode b_L_law 602 = .ok (.laload, 1) := by decide +kernel
theorem d_L_law_603 : decode b_L_law 603 = .ok (.iload 6, 2) := by decide +kernel
theorem d_L_law_605 : decode b_L_law 605 = .ok (.i2l, 1) := by decide +kernel
theorem d_L_law_606 : decode b_L_law 606 = .ok (.lcmp, 1) := by decide +kernel
theorem d_L_law_607 : decode b_L_law 607 = .ok (.ifCond .eq 5, 3) := by decide +kernel
theorem d_L_law_610 : decode b_L_law 610 = .ok (.iconst 0, 1) := by decide +kernel
theorem d_L_law_611 : decode b_L_law 611 = .ok (.ireturn, 1) := by decide +kernel
theorem d_L_law_612 : decode b_L_law 612 = .ok (.goto 454, 3) := by decide +kernel
theorem d_L_law_615 : decode b_L_law 615 = .ok (.aload_n 1, 1) := by decide +kernel
theorem d_L_law_616 : decode b_L_law 616 = .ok (.aload_n 0, 1) := by decide +kernel
theorem d_L_law_617 : decode b_L_law 617 = .ok (.iload 4, 2) := by decide +kernel
theorem d_L_law_619 : decode b_L_law 619 = .ok (.iconst 1, 1) := by decide +kernel
theorem d_L_law_620 : decode b_L_law 620 = .ok (.iadd, 1) := by decide +kernel
theorem d_L_law_621 : decode b_L_law 621 = .ok (.iaload, 1) := by decide +kernel
theorem d_L_law_622 : decode b_L_law 622 = .ok (.aload_n 0, 1) := by decide +kernel
theorem d_L_law_623 : decode b_L_law 623 = .ok (.iload 4, 2) := by decide +kernel
theorem d_L_law_625 : decode b_L_law 625 = .ok (.iconst 2, 1) := by decide +kernel
theorem d_L_law_626 : decode b_L_law 626 = .ok (.iadd, 1) := by decide +kernel
theorem d_L_law_627 : decode b_L_law 627 = .ok (.iaload, 1) := by decide +kernel
theorem d_L_law_628 : decode b_L_law 628 = .ok (.aload_n 0, 1) := by decide +kernel
theorem d_L_law_629 : decode b_L_law 629 = .ok (.iload 4, 2) := by decide +kernel
theorem d_L_law_631 : decode b_L_law 631 = .ok (.iconst 3, 1) := by decide +kernel
theorem d_L_law_632 : decode b_L_law 632 = .ok (.iadd, 1) := by decide +kernel
theorem d_L_law_633 : decode b_L_law 633 = .ok (.iaload, 1) := by decide +kernel
theorem d_L_law_634 : decode b_L_law 634 = .ok (.aload_n 3, 1) := by decide +kernel
theorem d_L_law_635 : decode b_L_law 635 = .ok (.invokestatic 89, 3) := by decide +kernel
theorem d_L_law_638 : decode b_L_law 638 = .ok (.istore 5, 2) := by decide +kernel
theorem d_L_law_640 : decode b_L_law 640 = .ok (.aload_n 2, 1) := by decide +kernel
theorem d_L_law_641 : decode b_L_law 641 = .ok (.aload_n 0, 1) := by decide +kernel
theorem d_L_law_642 : decode b_L_law 642 = .ok (.iload 4, 2) := by decide +kernel
theorem d_L_law_644 : decode b_L_law 644 = .ok (.iconst 1, 1) := by decide +kernel
theorem d_L_law_645 : decode b_L_law 645 = .ok (.iadd, 1) := by decide +kernel
theorem d_L_law_646 : decode b_L_law 646 = .ok (.iaload, 1) := by decide +kernel
theorem d_L_law_647 : decode b_L_law 647 = .ok (.aload_n 0, 1) := by decide +kernel
theorem d_L_law_648 : decode b_L_law 648 = .ok (.iload 4, 2) := by decide +kernel
theorem d_L_law_650 : decode b_L_law 650 = .ok (.iconst 2, 1) := by decide +kernel
theorem d_L_law_651 : decode b_L_law 651 = .ok (.iadd, 1) := by decide +kernel
theorem d_L_law_652 : decode b_L_law 652 = .ok (.iaload, 1) := by decide +kernel
theorem d_L_law_653 : decode b_L_law 653 = .ok (.aload_n 0, 1) := by decide +kernel
theorem d_L_law_654 : decode b_L_law 654 = .ok (.iload 4, 2) := by decide +kernel
theorem d_L_law_656 : decode b_L_law 656 = .ok (.iconst 3, 1) := by decide +kernel
theorem d_L_law_657 : decode b_L_law 657 = .ok (.iadd, 1) := by decide +kernel
theorem d_L_law_658 : decode b_L_law 658 = .ok (.iaload, 1) := by decide +kernel
theorem d_L_law_659 : decode b_L_law 659 = .ok (.invokevirtual 91, 3) := by decide +kernel
theorem d_L_law_662 : decode b_L_law 662 = .ok (.istore 6, 2) := by decide +kernel
theorem d_L_law_664 : decode b_L_law 664 = .ok (.aload_n 2, 1) := by decide +kernel
theorem d_L_law_665 : decode b_L_law 665 = .ok (.invokevirtual 59, 3) := by decide +kernel
theorem d_L_law_668 : decode b_L_law 668 = .ok (.iload 5, 2) := by decide +kernel
theorem d_L_law_670 : decode b_L_law 670 = .ok (.if_icmp .eq 5, 3) := by decide +kernel
theorem d_L_law_673 : decode b_L_law 673 = .ok (.iconst 0, 1) := by decide +kernel
theorem d_L_law_674 : decode b_L_law 674 = .ok (.ireturn, 1) := by decide +kernel
theorem d_L_law_675 : decode b_L_law 675 = .ok (.iload 5, 2) := by decide +kernel
theorem d_L_law_677 : decode b_L_law 677 = .ok (.ifCond .ne 15, 3) := by decide +kernel
theorem d_L_law_680 : decode b_L_law 680 = .ok (.aload_n 3, 1) := by decide +kernel
theorem d_L_law_681 : decode b_L_law 681 = .ok (.iconst 0, 1) := by decide +kernel
theorem d_L_law_682 : decode b_L_law 682 = .ok (.laload, 1) := by decide +kernel
theorem d_L_law_683 : decode b_L_law 683 = .ok (.iload 6, 2) := by decide +kernel
theorem d_L_law_685 : decode b_L_law 685 = .ok (.i2l, 1) := by decide +kernel
theorem d_L_law_686 : decode b_L_law 686 = .ok (.lcmp, 1) := by decide +kernel
theorem d_L_law_687 : decode b_L_law 687 = .ok (.ifCond .eq 5, 3) := by decide +kernel
theorem d_L_law_690 : decode b_L_law 690 = .ok (.iconst 0, 1) := by decide +kernel
theorem d_L_law_691 : decode b_L_law 691 = .ok (.ireturn, 1) := by decide +kernel
theorem d_L_law_692 : decode b_L_law 692 = .ok (.goto 374, 3) := by decide +kernel
theorem d_L_law_695 : decode b_L_law 695 = .ok (.aload_n 1, 1) := by decide +kernel
theorem d_L_law_696 : decode b_L_law 696 = .ok (.aload_n 0, 1) := by decide +kernel
theorem d_L_law_697 : decode b_L_law 697 = .ok (.iload 4, 2) := by decide +kernel
theorem d_L_law_699 : decode b_L_law 699 = .ok (.iconst 1, 1) := by decide +kernel
theorem d_L_law_700 : decode b_L_law 700 = .ok (.iadd, 1) := by decide +kernel
theorem d_L_law_701 : decode b_L_law 701 = .ok (.iaload, 1) := by decide +kernel
theorem d_L_law_702 : decode b_L_law 702 = .ok (.aload_n 0, 1) := by decide +kernel
theorem d_L_law_703 : decode b_L_law 703 = .ok (.iload 4, 2) := by decide +kernel
theorem d_L_law_705 : decode b_L_law 705 = .ok (.iconst 2, 1) := by decide +kernel
theorem d_L_law_706 : decode b_L_law 706 = .ok (.iadd, 1) := by decide +kernel
theorem d_L_law_707 : decode b_L_law 707 = .ok (.iaload, 1) := by decide +kernel
theorem d_L_law_708 : decode b_L_law 708 = .ok (.aload_n 3, 1) := by decide +kernel
theorem d_L_law_709 : decode b_L_law 709 = .ok (.invokestatic 92, 3) := by decide +kernel
theorem d_L_law_712 : decode b_L_law 712 = .ok (.istore 5, 2) := by decide +kernel
theorem d_L_law_714 : decode b_L_law 714 = .ok (.aload_n 2, 1) := by decide +kernel
theorem d_L_law_715 : decode b_L_law 715 = .ok (.aload_n 0, 1) := by decide +kernel
theorem d_L_law_716 : decode b_L_law 716 = .ok (.iload 4, 2) := by decide +kernel
theorem d_L_law_718 : decode b_L_law 718 = .ok (.iconst 1, 1) := by decide +kernel
theorem d_L_law_719 : decode b_L_law 719 = .ok (.iadd, 1) := by decide +kernel
theorem d_L_law_720 : decode b_L_law 720 = .ok (.iaload, 1) := by decide +kernel
theorem d_L_law_721 : decode b_L_law 721 = .ok (.aload_n 0, 1) := by decide +kernel
theorem d_L_law_722 : decode b_L_law 722 = .ok (.iload 4, 2) := by decide +kernel
theorem d_L_law_724 : decode b_L_law 724 = .ok (.iconst 2, 1) := by decide +kernel
theorem d_L_law_725 : decode b_L_law 725 = .ok (.iadd, 1) := by decide +kernel
theorem d_L_law_726 : decode b_L_law 726 = .ok (.iaload, 1) := by decide +kernel
theorem d_L_law_727 : decode b_L_law 727 = .ok (.invokevirtual 95, 3) := by decide +kernel
theorem d_L_law_730 : decode b_L_law 730 = .ok (.istore 6, 2) := by decide +kernel
theorem d_L_law_732 : decode b_L_law 732 = .ok (.aload_n 2, 1) := by decide +kernel
theorem d_L_law_733 : decode b_L_law 733 = .ok (.invokevirtual 59, 3) := by decide +kernel
theorem d_L_law_736 : decode b_L_law 736 = .ok (.iload 5, 2) := by decide +kernel
theorem d_L_law_738 : decode b_L_law 738 = .ok (.if_icmp .eq 5, 3) := by decide +kernel
theorem d_L_law_741 : decode b_L_law 741 = .ok (.iconst 0, 1) := by decide +kernel
theorem d_L_law_742 : decode b_L_law 742 = .ok (.ireturn, 1) := by decide +kernel
theorem d_L_law_743 : decode b_L_law 743 = .ok (.iload 5, 2) := by decide +kernel
theorem d_L_law_745 : decode b_L_law 745 = .ok (.ifCond .ne 15, 3) := by decide +kernel
theorem d_L_law_748 : decode b_L_law 748 = .ok (.aload_n 3, 1) := by decide +kernel
theorem d_L_law_749 : decode b_L_law 749 = .ok (.iconst 0, 1) := by decide +kernel
theorem d_L_law_750 : decode b_L_law 750 = .ok (.laload, 1) := by decide +kernel
theorem d_L_law_751 : decode b_L_law 751 = .ok (.iload 6, 2) := by decide +kernel
theorem d_L_law_753 : decode b_L_law 753 = .ok (.i2l, 1) := by decide +kernel
theorem d_L_law_754 : decode b_L_law 754 = .ok (.lcmp, 1) := by decide +kernel
theorem d_L_law_755 : decode b_L_law 755 = .ok (.ifCond .eq 5, 3) := by decide +kernel
theorem d_L_law_758 : decode b_L_law 758 = .ok (.iconst 0, 1) := by decide +kernel
theorem d_L_law_759 : decode b_L_law 759 = .ok (.ireturn, 1) := by decide +kernel
theorem d_L_law_760 : decode b_L_law 760 = .ok (.goto 306, 3) := by decide +kernel
theorem d_L_law_763 : decode b_L_law 763 = .ok (.aload_n 1, 1) := by decide +kernel
theorem d_L_law_764 : decode b_L_law 764 = .ok (.aload_n 0, 1) := by decide +kernel
theorem d_L_law_765 : decode b_L_law 765 = .ok (.iload 4, 2) := by decide +kernel
theorem d_L_law_767 : decode b_L_law 767 = .ok (.iconst 1, 1) := by decide +kernel
theorem d_L_law_768 : decode b_L_law 768 = .ok (.iadd, 1) := by decide +kernel
theorem d_L_law_769 : decode b_L_law 769 = .ok (.iaload, 1) := by decide +kernel
theorem d_L_law_770 : decode b_L_law 770 = .ok (.aload_n 0, 1) := by decide +kernel
theorem d_L_law_771 : decode b_L_law 771 = .ok (.iload 4, 2) := by decide +kernel
theorem d_L_law_773 : decode b_L_law 773 = .ok (.iconst 2, 1) := by decide +kernel
theorem d_L_law_774 : decode b_L_law 774 = .ok (.iadd, 1) := by decide +kernel
theorem d_L_law_775 : decode b_L_law 775 = .ok (.iaload, 1) := by decide +kernel
theorem d_L_law_776 : decode b_L_law 776 = .ok (.invokevirtual 96, 3) := by decide +kernel
theorem d_L_law_779 : decode b_L_law 779 = .ok (.aload_n 2, 1) := by decide +kernel
theorem d_L_law_780 : decode b_L_law 780 = .ok (.aload_n 0, 1) := by decide +kernel
theorem d_L_law_781 : decode b_L_law 781 = .ok (.iload 4, 2) := by decide +kernel
theorem d_L_law_783 : decode b_L_law 783 = .ok (.iconst 1, 1) := by decide +kernel
theorem d_L_law_784 : decode b_L_law 784 = .ok (.iadd, 1) := by decide +kernel
theorem d_L_law_785 : decode b_L_law 785 = .ok (.iaload, 1) := by decide +kernel
theorem d_L_law_786 : decode b_L_law 786 = .ok (.aload_n 0, 1) := by decide +kernel
theorem d_L_law_787 : decode b_L_law 787 = .ok (.iload 4, 2) := by decide +kernel
theorem d_L_law_789 : decode b_L_law 789 = .ok (.iconst 2, 1) := by decide +kernel
theorem d_L_law_790 : decode b_L_law 790 = .ok (.iadd, 1) := by decide +kernel
theorem d_L_law_791 : decode b_L_law 791 = .ok (.iaload, 1) := by decide +kernel
theorem d_L_law_792 : decode b_L_law 792 = .ok (.invokevirtual 99, 3) := by decide +kernel
theorem d_L_law_795 : decode b_L_law 795 = .ok (.if_icmp .eq 271, 3) := by decide +kernel
theorem d_L_law_798 : decode b_L_law 798 = .ok (.iconst 0, 1) := by decide +kernel
theorem d_L_law_799 : decode b_L_law 799 = .ok (.ireturn, 1) := by decide +kernel
theorem d_L_law_800 : decode b_L_law 800 = .ok (.aload_n 1, 1) := by decide +kernel
theorem d_L_law_801 : decode b_L_law 801 = .ok (.aload_n 0, 1) := by decide +kernel
theorem d_L_law_802 : decode b_L_law 802 = .ok (.iload 4, 2) := by decide +kernel
theorem d_L_law_804 : decode b_L_law 804 = .ok (.iconst 1, 1) := by decide +kernel
theorem d_L_law_805 : decode b_L_law 805 = .ok (.iadd, 1) := by decide +kernel
theorem d_L_law_806 : decode b_L_law 806 = .ok (.iaload, 1) := by decide +kernel
theorem d_L_law_807 : decode b_L_law 807 = .ok (.aload_n 0, 1) := by decide +kernel
theorem d_L_law_808 : decode b_L_law 808 = .ok (.iload 4, 2) := by decide +kernel
theorem d_L_law_810 : decode b_L_law 810 = .ok (.iconst 2, 1) := by decide +kernel
theorem d_L_law_811 : decode b_L_law 811 = .ok (.iadd, 1) := by decide +kernel
theorem d_L_law_812 : decode b_L_law 812 = .ok (.iaload, 1) := by decide +kernel
theorem d_L_law_813 : decode b_L_law 813 = .ok (.aload_n 3, 1) := by decide +kernel
theorem d_L_law_814 : decode b_L_law 814 = .ok (.invokestatic 100, 3) := by decide +kernel
theorem d_L_law_817 : decode b_L_law 817 = .ok (.istore 5, 2) := by decide +kernel
theorem d_L_law_819 : decode b_L_law 819 = .ok (.aload_n 2, 1) := by decide +kernel
theorem d_L_law_820 : decode b_L_law 820 = .ok (.aload_n 0, 1) := by decide +kernel
theorem d_L_law_821 : decode b_L_law 821 = .ok (.iload 4, 2) := by decide +kernel
theorem d_L_law_823 : decode b_L_law 823 = .ok (.iconst 1, 1) := by decide +kernel
theorem d_L_law_824 : decode b_L_law 824 = .ok (.iadd, 1) := by decide +kernel
theorem d_L_law_825 : decode b_L_law 825 = .ok (.iaload, 1) := by decide +kernel
theorem d_L_law_826 : decode b_L_law 826 = .ok (.aload_n 0, 1) := by decide +kernel
theorem d_L_law_827 : decode b_L_law 827 = .ok (.iload 4, 2) := by decide +kernel
theorem d_L_law_829 : decode b_L_law 829 = .ok (.iconst 2, 1) := by decide +kernel
theorem d_L_law_830 : decode b_L_law 830 = .ok (.iadd, 1) := by decide +kernel
theorem d_L_law_831 : decode b_L_law 831 = .ok (.iaload, 1) := by decide +kernel
theorem d_L_law_832 : decode b_L_law 832 = .ok (.invokevirtual 102, 3) := by decide +kernel
theorem d_L_law_835 : decode b_L_law 835 = .ok (.istore 6, 2) := by decide +kernel
theorem d_L_law_837 : decode b_L_law 837 = .ok (.aload_n 2, 1) := by decide +kernel
theorem d_L_law_838 : decode b_L_law 838 = .ok (.invokevirtual 59, 3) := by decide +kernel
theorem d_L_law_841 : decode b_L_law 841 = .ok (.iload 5, 2) := by decide +kernel
theorem d_L_law_843 : decode b_L_law 843 = .ok (.if_icmp .eq 5, 3) := by decide +kernel
theorem d_L_law_846 : decode b_L_law 846 = .ok (.iconst 0, 1) := by decide +kernel
theorem d_L_law_847 : decode b_L_law 847 = .ok (.ireturn, 1) := by decide +kernel
theorem d_L_law_848 : decode b_L_law 848 = .ok (.iload 5, 2) := by decide +kernel
theorem d_L_law_850 : decode b_L_law 850 = .ok (.ifCond .ne 15, 3) := by decide +kernel
theorem d_L_law_853 : decode b_L_law 853 = .ok (.aload_n 3, 1) := by decide +kernel
theorem d_L_law_854 : decode b_L_law 854 = .ok (.iconst 0, 1) := by decide +kernel
theorem d_L_law_855 : decode b_L_law 855 = .ok (.laload, 1) := by decide +kernel
theorem d_L_law_856 : decode b_L_law 856 = .ok (.iload 6, 2) := by decide +kernel
theorem d_L_law_858 : decode b_L_law 858 = .ok (.i2l, 1) := by decide +kernel
theorem d_L_law_859 : decode b_L_law 859 = .ok (.lcmp, 1) := by decide +kernel
theorem d_L_law_860 : decode b_L_law 860 = .ok (.ifCond .eq 5, 3) := by decide +kernel
theorem d_L_law_863 : decode b_L_law 863 = .ok (.iconst 0, 1) := by decide +kernel
theorem d_L_law_864 : decode b_L_law 864 = .ok (.ireturn, 1) := by decide +kernel
theorem d_L_law_865 : decode b_L_law 865 = .ok (.goto 201, 3) := by decide +kernel
theorem d_L_law_868 : decode b_L_law 868 = .ok (.aload_n 1, 1) := by decide +kernel
theorem d_L_law_869 : decode b_L_law 869 = .ok (.aload_n 0, 1) := by decide +kernel
theorem d_L_law_870 : decode b_L_law 870 = .ok (.iload 4, 2) := by decide +kernel
theorem d_L_law_872 : decode b_L_law 872 = .ok (.iconst 1, 1) := by decide +kernel
theorem d_L_law_873 : decode b_L_law 873 = .ok (.iadd, 1) := by decide +kernel
theorem d_L_law_874 : decode b_L_law 874 = .ok (.iaload, 1) := by decide +kernel
theorem d_L_law_875 : decode b_L_law 875 = .ok (.aload_n 0, 1) := by decide +kernel
theorem d_L_law_876 : decode b_L_law 876 = .ok (.iload 4, 2) := by decide +kernel
theorem d_L_law_878 : decode b_L_law 878 = .ok (.iconst 2, 1) := by decide +kernel
theorem d_L_law_879 : decode b_L_law 879 = .ok (.iadd, 1) := by decide +kernel
theorem d_L_law_880 : decode b_L_law 880 = .ok (.iaload, 1) := by decide +kernel
theorem d_L_law_881 : decode b_L_law 881 = .ok (.aload_n 3, 1) := by decide +kernel
theorem d_L_law_882 : decode b_L_law 882 = .ok (.invokestatic 103, 3) := by decide +kernel
theorem d_L_law_885 : decode b_L_law 885 = .ok (.istore 5, 2) := by decide +kernel
theorem d_L_law_887 : decode b_L_law 887 = .ok (.aload_n 2, 1) := by decide +kernel
theorem d_L_law_888 : decode b_L_law 888 = .ok (.aload_n 0, 1) := by decide +kernel
theorem d_L_law_889 : decode b_L_law 889 = .ok (.iload 4, 2) := by decide +kernel
theorem d_L_law_891 : decode b_L_law 891 = .ok (.iconst 1, 1) := by decide +kernel
theorem d_L_law_892 : decode b_L_law 892 = .ok (.iadd, 1) := by decide +kernel
theorem d_L_law_893 : decode b_L_law 893 = .ok (.iaload, 1) := by decide +kernel
theorem d_L_law_894 : decode b_L_law 894 = .ok (.aload_n 0, 1) := by decide +kernel
theorem d_L_law_895 : decode b_L_law 895 = .ok (.iload 4, 2) := by decide +kernel
theorem d_L_law_897 : decode b_L_law 897 = .ok (.iconst 2, 1) := by decide +kernel
theorem d_L_law_898 : decode b_L_law 898 = .ok (.iadd, 1) := by decide +kernel
theorem d_L_law_899 : decode b_L_law 899 = .ok (.iaload, 1) := by decide +kernel
theorem d_L_law_900 : decode b_L_law 900 = .ok (.invokevirtual 105, 3) := by decide +kernel
theorem d_L_law_903 : decode b_L_law 903 = .ok (.istore 6, 2) := by decide +kernel
theorem d_L_law_905 : decode b_L_law 905 = .ok (.aload_n 2, 1) := by decide +kernel
theorem d_L_law_906 : decode b_L_law 906 = .ok (.invokevirtual 59, 3) := by decide +kernel
theorem d_L_law_909 : decode b_L_law 909 = .ok (.iload 5, 2) := by decide +kernel
theorem d_L_law_911 : decode b_L_law 911 = .ok (.if_icmp .eq 5, 3) := by decide +kernel
theorem d_L_law_914 : decode b_L_law 914 = .ok (.iconst 0, 1) := by decide +kernel
theorem d_L_law_915 : decode b_L_law 915 = .ok (.ireturn, 1) := by decide +kernel
theorem d_L_law_916 : decode b_L_law 916 = .ok (.iload 5, 2) := by decide +kernel
theorem d_L_law_918 : decode b_L_law 918 = .ok (.ifCond .ne 15, 3) := by decide +kernel
theorem d_L_law_921 : decode b_L_law 921 = .ok (.aload_n 3, 1) := by decide +kernel
theorem d_L_law_922 : decode b_L_law 922 = .ok (.iconst 0, 1) := by decide +kernel
theorem d_L_law_923 : decode b_L_law 923 = .ok (.laload, 1) := by decide +kernel
theorem d_L_law_924 : decode b_L_law 924 = .ok (.iload 6, 2) := by decide +kernel
theorem d_L_law_926 : decode b_L_law 926 = .ok (.i2l, 1) := by decide +kernel
theorem d_L_law_927 : decode b_L_law 927 = .ok (.lcmp, 1) := by decide +kernel
theorem d_L_law_928 : decode b_L_law 928 = .ok (.ifCond .eq 5, 3) := by decide +kernel
theorem d_L_law_931 : decode b_L_law 931 = .ok (.iconst 0, 1) := by decide +kernel
theorem d_L_law_932 : decode b_L_law 932 = .ok (.ireturn, 1) := by decide +kernel
theorem d_L_law_933 : decode b_L_law 933 = .ok (.goto 133, 3) := by decide +kernel
theorem d_L_law_936 : decode b_L_law 936 = .ok (.aload_n 1, 1) := by decide +kernel
theorem d_L_law_937 : decode b_L_law 937 = .ok (.aload_n 0, 1) := by decide +kernel
theorem d_L_law_938 : decode b_L_law 938 = .ok (.iload 4, 2) := by decide +kernel
theorem d_L_law_940 : decode b_L_law 940 = .ok (.iconst 1, 1) := by decide +kernel
theorem d_L_law_941 : decode b_L_law 941 = .ok (.iadd, 1) := by decide +kernel
theorem d_L_law_942 : decode b_L_law 942 = .ok (.iaload, 1) := by decide +kernel
theorem d_L_law_943 : decode b_L_law 943 = .ok (.invokevirtual 106, 3) := by decide +kernel
theorem d_L_law_946 : decode b_L_law 946 = .ok (.aload_n 2, 1) := by decide +kernel
theorem d_L_law_947 : decode b_L_law 947 = .ok (.aload_n 0, 1) := by decide +kernel
theorem d_L_law_948 : decode b_L_law 948 = .ok (.iload 4, 2) := by decide +kernel
theorem d_L_law_950 : decode b_L_law 950 = .ok (.iconst 1, 1) := by decide +kernel
theorem d_L_law_951 : decode b_L_law 951 = .ok (.iadd, 1) := by decide +kernel
theorem d_L_law_952 : decode b_L_law 952 = .ok (.iaload, 1) := by decide +kernel
theorem d_L_law_953 : decode b_L_law 953 = .ok (.invokevirtual 110, 3) := by decide +kernel
theorem d_L_law_956 : decode b_L_law 956 = .ok (.if_icmp .eq 110, 3) := by decide +kernel
theorem d_L_law_959 : decode b_L_law 959 = .ok (.iconst 0, 1) := by decide +kernel
theorem d_L_law_960 : decode b_L_law 960 = .ok (.ireturn, 1) := by decide +kernel
theorem d_L_law_961 : decode b_L_law 961 = .ok (.aload_n 1, 1) := by decide +kernel
theorem d_L_law_962 : decode b_L_law 962 = .ok (.aload_n 0, 1) := by decide +kernel
theorem d_L_law_963 : decode b_L_law 963 = .ok (.iload 4, 2) := by decide +kernel
theorem d_L_law_965 : decode b_L_law 965 = .ok (.iconst 1, 1) := by decide +kernel
theorem d_L_law_966 : decode b_L_law 966 = .ok (.iadd, 1) := by decide +kernel
theorem d_L_law_967 : decode b_L_law 967 = .ok (.iaload, 1) := by decide +kernel
theorem d_L_law_968 : decode b_L_law 968 = .ok (.aload_n 0, 1) := by decide +kernel
theorem d_L_law_969 : decode b_L_law 969 = .ok (.iload 4, 2) := by decide +kernel
theorem d_L_law_971 : decode b_L_law 971 = .ok (.iconst 2, 1) := by decide +kernel
theorem d_L_law_972 : decode b_L_law 972 = .ok (.iadd, 1) := by decide +kernel
theorem d_L_law_973 : decode b_L_law 973 = .ok (.iaload, 1) := by decide +kernel
theorem d_L_law_974 : decode b_L_law 974 = .ok (.aload_n 0, 1) := by decide +kernel
theorem d_L_law_975 : decode b_L_law 975 = .ok (.iload 4, 2) := by decide +kernel
theorem d_L_law_977 : decode b_L_law 977 = .ok (.iconst 3, 1) := by decide +kernel
theorem d_L_law_978 : decode b_L_law 978 = .ok (.iadd, 1) := by decide +kernel
theorem d_L_law_979 : decode b_L_law 979 = .ok (.iaload, 1) := by decide +kernel
theorem d_L_law_980 : decode b_L_law 980 = .ok (.aload_n 3, 1) := by decide +kernel
theorem d_L_law_981 : decode b_L_law 981 = .ok (.invokestatic 111, 3) := by decide +kernel
theorem d_L_law_984 : decode b_L_law 984 = .ok (.istore 5, 2) := by decide +kernel
theorem d_L_law_986 : decode b_L_law 986 = .ok (.aload_n 2, 1) := by decide +kernel
theorem d_L_law_987 : decode b_L_law 987 = .ok (.aload_n 0, 1) := by decide +kernel
theorem d_L_law_988 : decode b_L_law 988 = .ok (.iload 4, 2) := by decide +kernel
theorem d_L_law_990 : decode b_L_law 990 = .ok (.iconst 1, 1) := by decide +kernel
theorem d_L_law_991 : decode b_L_law 991 = .ok (.iadd, 1) := by decide +kernel
theorem d_L_law_992 : decode b_L_law 992 = .ok (.iaload, 1) := by decide +kernel
theorem d_L_law_993 : decode b_L_law 993 = .ok (.aload_n 0, 1) := by decide +kernel
theorem d_L_law_994 : decode b_L_law 994 = .ok (.iload 4, 2) := by decide +kernel
theorem d_L_law_996 : decode b_L_law 996 = .ok (.iconst 2, 1) := by decide +kernel
theorem d_L_law_997 : decode b_L_law 997 = .ok (.iadd, 1) := by decide +kernel
theorem d_L_law_998 : decode b_L_law 998 = .ok (.iaload, 1) := by decide +kernel
theorem d_L_law_999 : decode b_L_law 999 = .ok (.aload_n 0, 1) := by decide +kernel
theorem d_L_law_1000 : decode b_L_law 1000 = .ok (.iload 4, 2) := by decide +kernel
theorem d_L_law_1002 : decode b_L_law 1002 = .ok (.iconst 3, 1) := by decide +kernel
theorem d_L_law_1003 : decode b_L_law 1003 = .ok (.iadd, 1) := by decide +kernel
theorem d_L_law_1004 : decode b_L_law 1004 = .ok (.iaload, 1) := by decide +kernel
theorem d_L_law_1005 : decode b_L_law 1005 = .ok (.invokevirtual 113, 3) := by decide +kernel
theorem d_L_law_1008 : decode b_L_law 1008 = .ok (.istore 6, 2) := by decide +kernel
theorem d_L_law_1010 : decode b_L_law 1010 = .ok (.aload_n 2, 1) := by decide +kernel
theorem d_L_law_1011 : decode b_L_law 1011 = .ok (.invokevirtual 59, 3) := by decide +kernel
theorem d_L_law_1014 : decode b_L_law 1014 = .ok (.iload 5, 2) := by decide +kernel
theorem d_L_law_1016 : decode b_L_law 1016 = .ok (.if_icmp .eq 5, 3) := by decide +kernel
theorem d_L_law_1019 : decode b_L_law 1019 = .ok (.iconst 0, 1) := by decide +kernel
theorem d_L_law_1020 : decode b_L_law 1020 = .ok (.ireturn, 1) := by decide +kernel
theorem d_L_law_1021 : decode b_L_law 1021 = .ok (.iload 5, 2) := by decide +kernel
theorem d_L_law_1023 : decode b_L_law 1023 = .ok (.ifCond .ne 15, 3) := by decide +kernel
theorem d_L_law_1026 : decode b_L_law 1026 = .ok (.aload_n 3, 1) := by decide +kernel
theorem d_L_law_1027 : decode b_L_law 1027 = .ok (.iconst 0, 1) := by decide +kernel
theorem d_L_law_1028 : decode b_L_law 1028 = .ok (.laload, 1) := by decide +kernel
theorem d_L_law_1029 : decode b_L_law 1029 = .ok (.iload 6, 2) := by decide +kernel
theorem d_L_law_1031 : decode b_L_law 1031 = .ok (.i2l, 1) := by decide +kernel
theorem d_L_law_1032 : decode b_L_law 1032 = .ok (.lcmp, 1) := by decide +kernel
theorem d_L_law_1033 : decode b_L_law 1033 = .ok (.ifCond .eq 5, 3) := by decide +kernel
theorem d_L_law_1036 : decode b_L_law 1036 = .ok (.iconst 0, 1) := by decide +kernel
theorem d_L_law_1037 : decode b_L_law 1037 = .ok (.ireturn, 1) := by decide +kernel
theorem d_L_law_1038 : decode b_L_law 1038 = .ok (.goto 28, 3) := by decide +kernel
theorem d_L_law_1041 : decode b_L_law 1041 = .ok (.aload_n 1, 1) := by decide +kernel
theorem d_L_law_1042 : decode b_L_law 1042 = .ok (.aload_n 0, 1) := by decide +kernel
theorem d_L_law_1043 : decode b_L_law 1043 = .ok (.iload 4, 2) := by decide +kernel
theorem d_L_law_1045 : decode b_L_law 1045 = .ok (.iconst 1, 1) := by decide +kernel
theorem d_L_law_1046 : decode b_L_law 1046 = .ok (.iadd, 1) := by decide +kernel
theorem d_L_law_1047 : decode b_L_law 1047 = .ok (.iaload, 1) := by decide +kernel
theorem d_L_law_1048 : decode b_L_law 1048 = .ok (.invokevirtual 114, 3) := by decide +kernel
theorem d_L_law_1051 : decode b_L_law 1051 = .ok (.aload_n 2, 1) := by decide +kernel
theorem d_L_law_1052 : decode b_L_law 1052 = .ok (.aload_n 0, 1) := by decide +kernel
theorem d_L_law_1053 : decode b_L_law 1053 = .ok (.iload 4, 2) := by decide +kernel
theorem d_L_law_1055 : decode b_L_law 1055 = .ok (.iconst 1, 1) := by decide +kernel
theorem d_L_law_1056 : decode b_L_law 1056 = .ok (.iadd, 1) := by decide +kernel
theorem d_L_law_1057 : decode b_L_law 1057 = .ok (.iaload, 1) := by decide +kernel
theorem d_L_law_1058 : decode b_L_law 1058 = .ok (.invokevirtual 117, 3) := by decide +kernel
theorem d_L_law_1061 : decode b_L_law 1061 = .ok (.if_icmp .eq 5, 3) := by decide +kernel
theorem d_L_law_1064 : decode b_L_law 1064 = .ok (.iconst 0, 1) := by decide +kernel
theorem d_L_law_1065 : decode b_L_law 1065 = .ok (.ireturn, 1) := by decide +kernel
theorem d_L_law_1066 : decode b_L_law 1066 = .ok (.iinc 4 4, 3) := by decide +kernel
theorem d_L_law_1069 : decode b_L_law 1069 = .ok (.goto (-1046), 3) := by decide +kernel
theorem d_L_law_1072 : decode b_L_law 1072 = .ok (.iconst 1, 1) := by decide +kernel
theorem d_L_law_1073 : decode b_L_law 1073 = .ok (.ireturn, 1) := by decide +kernel
