theorem d_L_law_0 : decode b_L_law 0 = .ok (.new 8, 3) := by decide +kernel
theorem d_L_law_3 : decode b_L_law 3 = .ok (.dup, 1) := by decide +kernel
theorem d_L_law_4 : decode b_L_law 4 = .ok (.invokespecial 67, 3) := by decide +kernel
theorem d_L_law_7 : decode b_L_law 7 = .ok (.astore_n 1, 1) := by decide +kernel
theorem d_L_law_8 : decode b_L_law 8 = .ok (.new 68, 3) := by decide +kernel
theorem d_L_law_11 : decode b_L_law 11 = .ok (.dup, 1) := by decide +kernel
theorem d_L_law_12 : decode b_L_law 12 = .ok (.invokespecial 70, 3) := by decide +kernel
theorem d_L_law_15 : decode b_L_law 15 = .ok (.astore_n 2, 1) := by decide +kernel
theorem d_L_law_16 : decode b_L_law 16 = .ok (.iconst 1, 1) := by decide +kernel
theorem d_L_law_17 : decode b_L_law 17 = .ok (.newarray .long, 2) := by decide +kernel
theorem d_L_law_19 : decode b_L_law 19 = .ok (.astore_n 3, 1) := by decide +kernel
theorem d_L_law_20 : decode b_L_law 20 = .ok (.iconst 1, 1) := by decide +kernel
theorem d_L_law_21 : decode b_L_law 21 = .ok (.newarray .double, 2) := by decide +kernel
theorem d_L_law_23 : decode b_L_law 23 = .ok (.astore 4, 2) := by decide +kernel
theorem d_L_law_25 : decode b_L_law 25 = .ok (.iconst 0, 1) := by decide +kernel
theorem d_L_law_26 : decode b_L_law 26 = .ok (.istore 5, 2) := by decide +kernel
theorem d_L_law_28 : decode b_L_law 28 = .ok (.iload 5, 2) := by decide +kernel
theorem d_L_law_30 : decode b_L_law 30 = .ok (.aload_n 0, 1) := by decide +kernel
theorem d_L_law_31 : decode b_L_law 31 = .ok (.arraylength, 1) := by decide +kernel
theorem d_L_law_32 : decode b_L_law 32 = .ok (.bipush 6, 2) := by decide +kernel
theorem d_L_law_34 : decode b_L_law 34 = .ok (.isub, 1) := by decide +kernel
theorem d_L_law_35 : decode b_L_law 35 = .ok (.if_icmp .gt 1068, 3) := by decide +kernel
theorem d_L_law_38 : decode b_L_law 38 = .ok (.aload_n 0, 1) := by decide +kernel
theorem d_L_law_39 : decode b_L_law 39 = .ok (.iload 5, 2) := by decide +kernel
theorem d_L_law_41 : decode b_L_law 41 = .ok (.iaload, 1) := by decide +kernel
theorem d_L_law_42 : decode b_L_law 42 = .ok (.bipush 15, 2) := by decide +kernel
theorem d_L_law_44 : decode b_L_law 44 = .ok (.iand, 1) := by decide +kernel
theorem d_L_law_45 : decode b_L_law 45 = .ok (.tableswitch 1052 0 13 #[71, 175, 188, 232, 300, 368, 436, 516, 615, 687, 786, 863, 940, 996], 71) := by decide +kernel
theorem d_L_law_116 : decode b_L_law 116 = .ok (.aload_n 1, 1) := by decide +kernel
theorem d_L_law_117 : decode b_L_law 117 = .ok (.aload_n 0, 1) := by decide +kernel
theorem d_L_law_118 : decode b_L_law 118 = .ok (.iload 5, 2) := by decide +kernel
theorem d_L_law_120 : decode b_L_law 120 = .ok (.iconst 1, 1) := by decide +kernel
theorem d_L_law_121 : decode b_L_law 121 = .ok (.iadd, 1) := by decide +kernel
theorem d_L_law_122 : decode b_L_law 122 = .ok (.iaload, 1) := by decide +kernel
theorem d_L_law_123 : decode b_L_law 123 = .ok (.aload_n 0, 1) := by decide +kernel
theorem d_L_law_124 : decode b_L_law 124 = .ok (.iload 5, 2) := by decide +kernel
theorem d_L_law_126 : decode b_L_law 126 = .ok (.iconst 2, 1) := by decide +kernel
theorem d_L_law_127 : decode b_L_law 127 = .ok (.iadd, 1) := by decide +kernel
theorem d_L_law_128 : decode b_L_law 128 = .ok (.iaload, 1) := by decide +kernel
theorem d_L_law_129 : decode b_L_law 129 = .ok (.aload_n 0, 1) := by decide +kernel
theorem d_L_law_130 : decode b_L_law 130 = .ok (.iload 5, 2) := by decide +kernel
theorem d_L_law_132 : decode b_L_law 132 = .ok (.iconst 3, 1) := by decide +kernel
theorem d_L_law_133 : decode b_L_law 133 = .ok (.iadd, 1) := by decide +kernel
theorem d_L_law_134 : decode b_L_law 134 = .ok (.iaload, 1) := by decide +kernel
theorem d_L_law_135 : decode b_L_law 135 = .ok (.aload_n 0, 1) := by decide +kernel
theorem d_L_law_136 : decode b_L_law 136 = .ok (.iload 5, 2) := by decide +kernel
theorem d_L_law_138 : decode b_L_law 138 = .ok (.iconst 4, 1) := by decide +kernel
theorem d_L_law_139 : decode b_L_law 139 = .ok (.iadd, 1) := by decide +kernel
theorem d_L_law_140 : decode b_L_law 140 = .ok (.iaload, 1) := by decide +kernel
theorem d_L_law_141 : decode b_L_law 141 = .ok (.aload_n 0, 1) := by decide +kernel
theorem d_L_law_142 : decode b_L_law 142 = .ok (.iload 5, 2) := by decide +kernel
theorem d_L_law_144 : decode b_L_law 144 = .ok (.iconst 5, 1) := by decide +kernel
theorem d_L_law_145 : decode b_L_law 145 = .ok (.iadd, 1) := by decide +kernel
theorem d_L_law_146 : decode b_L_law 146 = .ok (.iaload, 1) := by decide +kernel
theorem d_L_law_147 : decode b_L_law 147 = .ok (.aload_n 3, 1) := by decide +kernel
theorem d_L_law_148 : decode b_L_law 148 = .ok (.invokestatic 71, 3) := by decide +kernel
theorem d_L_law_151 : decode b_L_law 151 = .ok (.istore 6, 2) := by decide +kernel
theorem d_L_law_153 : decode b_L_law 153 = .ok (.aload_n 2, 1) := by decide +kernel
theorem d_L_law_154 : decode b_L_law 154 = .ok (.aload_n 0, 1) := by decide +kernel
theorem d_L_law_155 : decode b_L_law 155 = .ok (.iload 5, 2) := by decide +kernel
theorem d_L_law_157 : decode b_L_law 157 = .ok (.iconst 1, 1) := by decide +kernel
theorem d_L_law_158 : decode b_L_law 158 = .ok (.iadd, 1) := by decide +kernel
theorem d_L_law_159 : decode b_L_law 159 = .ok (.iaload, 1) := by decide +kernel
theorem d_L_law_160 : decode b_L_law 160 = .ok (.aload_n 0, 1) := by decide +kernel
theorem d_L_law_161 : decode b_L_law 161 = .ok (.iload 5, 2) := by decide +kernel
theorem d_L_law_163 : decode b_L_law 163 = .ok (.iconst 2, 1) := by decide +kernel
theorem d_L_law_164 : decode b_L_law 164 = .ok (.iadd, 1) := by decide +kernel
theorem d_L_law_165 : decode b_L_law 165 = .ok (.iaload, 1) := by decide +kernel
theorem d_L_law_166 : decode b_L_law 166 = .ok (.aload_n 0, 1) := by decide +kernel
theorem d_L_law_167 : decode b_L_law 167 = .ok (.iload 5, 2) := by decide +kernel
theorem d_L_law_169 : decode b_L_law 169 = .ok (.iconst 3, 1) := by decide +kernel
theorem d_L_law_170 : decode b_L_law 170 = .ok (.iadd, 1) := by decide +kernel
theorem d_L_law_171 : decode b_L_law 171 = .ok (.iaload, 1) := by decide +kernel
theorem d_L_law_172 : decode b_L_law 172 = .ok (.aload_n 0, 1) := by decide +kernel
theorem d_L_law_173 : decode b_L_law 173 = .ok (.iload 5, 2) := by decide +kernel
theorem d_L_law_175 : decode b_L_law 175 = .ok (.iconst 4, 1) := by decide +kernel
theorem d_L_law_176 : decode b_L_law 176 = .ok (.iadd, 1) := by decide +kernel
theorem d_L_law_177 : decode b_L_law 177 = .ok (.iaload, 1) := by decide +kernel
theorem d_L_law_178 : decode b_L_law 178 = .ok (.aload_n 0, 1) := by decide +kernel
theorem d_L_law_179 : decode b_L_law 179 = .ok (.iload 5, 2) := by decide +kernel
theorem d_L_law_181 : decode b_L_law 181 = .ok (.iconst 5, 1) := by decide +kernel
theorem d_L_law_182 : decode b_L_law 182 = .ok (.iadd, 1) := by decide +kernel
theorem d_L_law_183 : decode b_L_law 183 = .ok (.iaload, 1) := by decide +kernel
theorem d_L_law_184 : decode b_L_law 184 = .ok (.invokevirtual 76, 3) := by decide +kernel
theorem d_L_law_187 : decode b_L_law 187 = .ok (.istore 7, 2) := by decide +kernel
theorem d_L_law_189 : decode b_L_law 189 = .ok (.aload_n 2, 1) := by decide +kernel
theorem d_L_law_190 : decode b_L_law 190 = .ok (.invokevirtual 77, 3) := by decide +kernel
theorem d_L_law_193 : decode b_L_law 193 = .ok (.iload 6, 2) := by decide +kernel
theorem d_L_law_195 : decode b_L_law 195 = .ok (.if_icmp .eq 5, 3) := by decide +kernel
theorem d_L_law_198 : decode b_L_law 198 = .ok (.iconst 0, 1) := by decide +kernel
theorem d_L_law_199 : decode b_L_law 199 = .ok (.ireturn, 1) := by decide +kernel
theorem d_L_law_200 : decode b_L_law 200 = .ok (.iload 6, 2) := by decide +kernel
theorem d_L_law_202 : decode b_L_law 202 = .ok (.ifCond .ne 15, 3) := by decide +kernel
theorem d_L_law_205 : decode b_L_law 205 = .ok (.aload_n 3, 1) := by decide +kernel
theorem d_L_law_206 : decode b_L_law 206 = .ok (.iconst 0, 1) := by decide +kernel
theorem d_L_law_207 : decode b_L_law 207 = .ok (.laload, 1) := by decide +kernel
theorem d_L_law_208 : decode b_L_law 208 = .ok (.iload 7, 2) := by decide +kernel
theorem d_L_law_210 : decode b_L_law 210 = .ok (.i2l, 1) := by decide +kernel
theorem d_L_law_211 : decode b_L_law 211 = .ok (.lcmp, 1) := by decide +kernel
theorem d_L_law_212 : decode b_L_law 212 = .ok (.ifCond .eq 5, 3) := by decide +kernel
theorem d_L_law_215 : decode b_L_law 215 = .ok (.iconst 0, 1) := by decide +kernel
theorem d_L_law_216 : decode b_L_law 216 = .ok (.ireturn, 1) := by decide +kernel
theorem d_L_law_217 : decode b_L_law 217 = .ok (.goto 880, 3) := by decide +kernel
theorem d_L_law_220 : decode b_L_law 220 = .ok (.aload_n 1, 1) := by decide +kernel
theorem d_L_law_221 : decode b_L_law 221 = .ok (.invokevirtual 80, 3) := by decide +kernel
theorem d_L_law_224 : decode b_L_law 224 = .ok (.aload_n 2, 1) := by decide +kernel
theorem d_L_law_225 : decode b_L_law 225 = .ok (.invokevirtual 83, 3) := by decide +kernel
theorem d_L_law_228 : decode b_L_law 228 = .ok (.if_icmp .eq 869, 3) := by decide +kernel
theorem d_L_law_231 : decode b_L_law 231 = .ok (.iconst 0, 1) := by decide +kernel
theorem d_L_law_232 : decode b_L_law 232 = .ok (.ireturn, 1) := by decide +kernel
theorem d_L_law_233 : decode b_L_law 233 = .ok (.aload_n 1, 1) := by decide +kernel
theorem d_L_law_234 : decode b_L_law 234 = .ok (.aload_n 3, 1) := by decide +kernel
theorem d_L_law_235 : decode b_L_law 235 = .ok (.invokestatic 84, 3) := by decide +kernel
theorem d_L_law_238 : decode b_L_law 238 = .ok (.istore 6, 2) := by decide +kernel
theorem d_L_law_240 : decode b_L_law 240 = .ok (.aload_n 2, 1) := by decide +kernel
theorem d_L_law_241 : decode b_L_law 241 = .ok (.invokevirtual 87, 3) := by decide +kernel
theorem d_L_law_244 : decode b_L_law 244 = .ok (.istore 7, 2) := by decide +kernel
theorem d_L_law_246 : decode b_L_law 246 = .ok (.aload_n 2, 1) := by decide +kernel
theorem d_L_law_247 : decode b_L_law 247 = .ok (.invokevirtual 77, 3) := by decide +kernel
theorem d_L_law_250 : decode b_L_law 250 = .ok (.iload 6, 2) := by decide +kernel
theorem d_L_law_252 : decode b_L_law 252 = .ok (.if_icmp .eq 5, 3) := by decide +kernel
theorem d_L_law_255 : decode b_L_law 255 = .ok (.iconst 0, 1) := by decide +kernel
theorem d_L_law_256 : decode b_L_law 256 = .ok (.ireturn, 1) := by decide +kernel
theorem d_L_law_257 : decode b_L_law 257 = .ok (.iload 6, 2) := by decide +kernel
theorem d_L_law_259 : decode b_L_law 259 = .ok (.ifCond .ne 15, 3) := by decide +kernel
theorem d_L_law_262 : decode b_L_law 262 = .ok (.aload_n 3, 1) := by decide +kernel
theorem d_L_law_263 : decode b_L_law 263 = .ok (.iconst 0, 1) := by decide +kernel
theorem d_L_law_264 : decode b_L_law 264 = .ok (.laload, 1) := by decide +kernel
theorem d_L_law_265 : decode b_L_law 265 = .ok (.iload 7, 2) := by decide +kernel
theorem d_L_law_267 : decode b_L_law 267 = .ok (.i2l, 1) := by decide +kernel
theorem d_L_law_268 : decode b_L_law 268 = .ok (.lcmp, 1) := by decide +kernel
theorem d_L_law_269 : decode b_L_law 269 = .ok (.ifCond .eq 5, 3) := by decide +kernel
theorem d_L_law_272 : decode b_L_law 272 = .ok (.iconst 0, 1) := by decide +kernel
theorem d_L_law_273 : decode b_L_law 273 = .ok (.ireturn, 1) := by decide +kernel
theorem d_L_law_274 : decode b_L_law 274 = .ok (.goto 823, 3) := by decide +kernel
theorem d_L_law_277 : decode b_L_law 277 = .ok (.aload_n 1, 1) := by decide +kernel
theorem d_L_law_278 : decode b_L_law 278 = .ok (.aload_n 0, 1) := by decide +kernel
theorem d_L_law_279 : decode b_L_law 279 = .ok (.iload 5, 2) := by decide +kernel
theorem d_L_law_281 : decode b_L_law 281 = .ok (.iconst 1, 1) := by decide +kernel
theorem d_L_law_282 : decode b_L_law 282 = .ok (.iadd, 1) := by decide +kernel
theorem d_L_law_283 : decode b_L_law 283 = .ok (.iaload, 1) := by decide +kernel
theorem d_L_law_284 : decode b_L_law 284 = .ok (.aload_n 0, 1) := by decide +kernel
theorem d_L_law_285 : decode b_L_law 285 = .ok (.iload 5, 2) := by decide +kernel
theorem d_L_law_287 : decode b_L_law 287 = .ok (.iconst 2, 1) := by decide +kernel
theorem d_L_law_288 : decode b_L_law 288 = .ok (.iadd, 1) := by decide +kernel
theorem d_L_law_289 : decode b_L_law 289 = .ok (.iaload, 1) := by decide +kernel
theorem d_L_law_290 : decode b_L_law 290 = .ok (.aload_n 3, 1) := by decide +kernel
theorem d_L_law_291 : decode b_L_law 291 = .ok (.invokestatic 88, 3) := by decide +kernel
theorem d_L_law_294 : decode b_L_law 294 = .ok (.istore 6, 2) := by decide +kernel
theorem d_L_law_296 : decode b_L_law 296 = .ok (.aload_n 2, 1) := by decide +kernel
theorem d_L_law_297 : decode b_L_law 297 = .ok (.aload_n 0, 1) := by decide +kernel
theorem d_L_law_298 : decode b_L_law 298 = .ok (.iload 5, 2) := by decide +kernel
theorem d_L_law_300 : decode b_L_law 300 = .ok (.iconst 1, 1) := by decide +kernel
theorem d_L_law_301 : decode b_L_law 301 = .ok (.iadd, 1) := by decide +kernel
theorem d_L_law_302 : decode b_L_law 302 = .ok (.iaload, 1) := by decide +kernel
theorem d_L_law_303 : decode b_L_law 303 = .ok (.aload_n 0, 1) := by decide +kernel
theorem d_L_law_304 : decode b_L_law 304 = .ok (.iload 5, 2) := by decide +kernel
theorem d_L_law_306 : decode b_L_law 306 = .ok (.iconst 2, 1) := by decide +kernel
theorem d_L_law_307 : decode b_L_law 307 = .ok (.iadd, 1) := by decide +kernel
theorem d_L_law_308 : decode b_L_law 308 = .ok (.iaload, 1) := by decide +kernel
theorem d_L_law_309 : decode b_L_law 309 = .ok (.invokevirtual 91, 3) := by decide +kernel
theorem d_L_law_312 : decode b_L_law 312 = .ok (.istore 7, 2) := by decide +kernel
theorem d_L_law_314 : decode b_L_law 314 = .ok (.aload_n 2, 1) := by decide +kernel
theorem d_L_law_315 : decode b_L_law 315 = .ok (.invokevirtual 77, 3) := by decide +kernel
theorem d_L_law_318 : decode b_L_law 318 = .ok (.iload 6, 2) := by decide +kernel
theorem d_L_law_320 : decode b_L_law 320 = .ok (.if_icmp .eq 5, 3) := by decide +kernel
theorem d_L_law_323 : decode b_L_law 323 = .ok (.iconst 0, 1) := by decide +kernel
theorem d_L_law_324 : decode b_L_law 324 = .ok (.ireturn, 1) := by decide +kernel
theorem d_L_law_325 : decode b_L_law 325 = .ok (.iload 6, 2) := by decide +kernel
theorem d_L_law_327 : decode b_L_law 327 = .ok (.ifCond .ne 15, 3) := by decide +kernel
theorem d_L_law_330 : decode b_L_law 330 = .ok (.aload_n 3, 1) := by decide +kernel
theorem d_L_law_331 : decode b_L_law 331 = .ok (.iconst 0, 1) := by decide +kernel
theorem d_L_law_332 : decode b_L_law 332 = .ok (.laload, 1) := by decide +kernel
theorem d_L_law_333 : decode b_L_law 333 = .ok (.iload 7, 2) := by decide +kernel
theorem d_L_law_335 : decode b_L_law 335 = .ok (.i2l, 1) := by decide +kernel
theorem d_L_law_336 : decode b_L_law 336 = .ok (.lcmp, 1) := by decide +kernel
theorem d_L_law_337 : decode b_L_law 337 = .ok (.ifCond .eq 5, 3) := by decide +kernel
theorem d_L_law_340 : decode b_L_law 340 = .ok (.iconst 0, 1) := by decide +kernel
theorem d_L_law_341 : decode b_L_law 341 = .ok (.ireturn, 1) := by decide +kernel
theorem d_L_law_342 : decode b_L_law 342 = .ok (.goto 755, 3) := by decide +kernel
theorem d_L_law_345 : decode b_L_law 345 = .ok (.aload_n 1, 1) := by decide +kernel
theorem d_L_law_346 : decode b_L_law 346 = .ok (.aload_n 0, 1) := by decide +kernel
theorem d_L_law_347 : decode b_L_law 347 = .ok (.iload 5, 2) := by decide +kernel
theorem d_L_law_349 : decode b_L_law 349 = .ok (.iconst 1, 1) := by decide +kernel
theorem d_L_law_350 : decode b_L_law 350 = .ok (.iadd, 1) := by decide +kernel
theorem d_L_law_351 : decode b_L_law 351 = .ok (.iaload, 1) := by decide +kernel
theorem d_L_law_352 : decode b_L_law 352 = .ok (.aload_n 0, 1) := by decide +kernel
theorem d_L_law_353 : decode b_L_law 353 = .ok (.iload 5, 2) := by decide +kernel
theorem d_L_law_355 : decode b_L_law 355 = .ok (.iconst 2, 1) := by decide +kernel
theorem d_L_law_356 : decode b_L_law 356 = .ok (.iadd, 1) := by decide +kernel
theorem d_L_law_357 : decode b_L_law 357 = .ok (.iaload, 1) := by decide +kernel
theorem d_L_law_358 : decode b_L_law 358 = .ok (.aload_n 3, 1) := by decide +kernel
theorem d_L_law_359 : decode b_L_law 359 = .ok (.invokestatic 92, 3) := by decide +kernel
theorem d_L_law_362 : decode b_L_law 362 = .ok (.istore 6, 2) := by decide +kernel
theorem d_L_law_364 : decode b_L_law 364 = .ok (.aload_n 2, 1) := by decide +kernel
theorem d_L_law_365 : decode b_L_law 365 = .ok (.aload_n 0, 1) := by decide +kernel
theorem d_L_law_366 : decode b_L_law 366 = .ok (.iload 5, 2) := by decide +kernel
theorem d_L_law_368 : decode b_L_law 368 = .ok (.iconst 1, 1) := by decide +kernel
theorem d_L_law_369 : decode b_L_law 369 = .ok (.iadd, 1) := by decide +kernel
theorem d_L_law_370 : decode b_L_law 370 = .ok (.iaload, 1) := by decide +kernel
theorem d_L_law_371 : decode b_L_law 371 = .ok (.aload_n 0, 1) := by decide +kernel
theorem d_L_law_372 : decode b_L_law 372 = .ok (.iload 5, 2) := by decide +kernel
theorem d_L_law_374 : decode b_L_law 374 = .ok (.iconst 2, 1) := by decide +kernel
theorem d_L_law_375 : decode b_L_law 375 = .ok (.iadd, 1) := by decide +kernel
theorem d_L_law_376 : decode b_L_law 376 = .ok (.iaload, 1) := by decide +kernel
theorem d_L_law_377 : decode b_L_law 377 = .ok (.invokevirtual 94, 3) := by decide +kernel
theorem d_L_law_380 : decode b_L_law 380 = .ok (.istore 7, 2) := by decide +kernel
theorem d_L_law_382 : decode b_L_law 382 = .ok (.aload_n 2, 1) := by decide +kernel
theorem d_L_law_383 : decode b_L_law 383 = .ok (.invokevirtual 77, 3) := by decide +kernel
theorem d_L_law_386 : decode b_L_law 386 = .ok (.iload 6, 2) := by decide +kernel
theorem d_L_law_388 : decode b_L_law 388 = .ok (.if_icmp .eq 5, 3) := by decide +kernel
theorem d_L_law_391 : decode b_L_law 391 = .ok (.iconst 0, 1) := by decide +kernel
theorem d_L_law_392 : decode b_L_law 392 = .ok (.ireturn, 1) := by decide +kernel
theorem d_L_law_393 : decode b_L_law 393 = .ok (.iload 6, 2) := by decide +kernel
theorem d_L_law_395 : decode b_L_law 395 = .ok (.ifCond .ne 15, 3) := by decide +kernel
theorem d_L_law_398 : decode b_L_law 398 = .ok (.aload_n 3, 1) := by decide +kernel
theorem d_L_law_399 : decode b_L_law 399 = .ok (.iconst 0, 1) := by decide +kernel
theorem d_L_law_400 : decode b_L_law 400 = .ok (.laload, 1) := by decide +kernel
theorem d_L_law_401 : decode b_L_law 401 = .ok (.iload 7, 2) := by decide +kernel
theorem d_L_law_403 : decode b_L_law 403 = .ok (.i2l, 1) := by decide +kernel
theorem d_L_law_404 : decode b_L_law 404 = .ok (.lcmp, 1) := by decide +kernel
theorem d_L_law_405 : decode b_L_law 405 = .ok (.ifCond .eq 5, 3) := by decide +kernel
theorem d_L_law_408 : decode b_L_law 408 = .ok (.iconst 0, 1) := by decide +kernel
theorem d_L_law_409 : decode b_L_law 409 = .ok (.ireturn, 1) := by decide +kernel
theorem d_L_law_410 : decode b_L_law 410 = .ok (.goto 687, 3) := by decide +kernel
theorem d_L_law_413 : decode b_L_law 413 = .ok (.aload_n 1, 1) := by decide +kernel
theorem d_L_law_414 : decode b_L_law 414 = .ok (.aload_n 0, 1) := by decide +kernel
theorem d_L_law_415 : decode b_L_law 415 = .ok (.iload 5, 2) := by decide +kernel
theorem d_L_law_417 : decode b_L_law 417 = .ok (.iconst 1, 1) := by decide +kernel
theorem d_L_law_418 : decode b_L_law 418 = .ok (.iadd, 1) := by decide +kernel
