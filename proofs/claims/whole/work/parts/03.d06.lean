theorem dX7_goes_2 : decode cX7_goes 2 = .ok (.irem, 1) := by decide +kernel
theorem dX7_goes_3 : decode cX7_goes 3 = .ok (.istore 4, 2) := by decide +kernel
theorem dX7_goes_5 : decode cX7_goes 5 = .ok (.iload_n 2, 1) := by decide +kernel
theorem dX7_goes_6 : decode cX7_goes 6 = .ok (.iconst 5, 1) := by decide +kernel
theorem dX7_goes_7 : decode cX7_goes 7 = .ok (.idiv, 1) := by decide +kernel
theorem dX7_goes_8 : decode cX7_goes 8 = .ok (.iconst 4, 1) := by decide +kernel
theorem dX7_goes_9 : decode cX7_goes 9 = .ok (.irem, 1) := by decide +kernel
theorem dX7_goes_10 : decode cX7_goes 10 = .ok (.istore 5, 2) := by decide +kernel
theorem dX7_goes_12 : decode cX7_goes 12 = .ok (.iload_n 2, 1) := by decide +kernel
theorem dX7_goes_13 : decode cX7_goes 13 = .ok (.bipush 20, 2) := by decide +kernel
theorem dX7_goes_15 : decode cX7_goes 15 = .ok (.idiv, 1) := by decide +kernel
theorem dX7_goes_16 : decode cX7_goes 16 = .ok (.bipush 7, 2) := by decide +kernel
theorem dX7_goes_18 : decode cX7_goes 18 = .ok (.irem, 1) := by decide +kernel
theorem dX7_goes_19 : decode cX7_goes 19 = .ok (.istore 6, 2) := by decide +kernel
theorem dX7_goes_21 : decode cX7_goes 21 = .ok (.iload_n 2, 1) := by decide +kernel
theorem dX7_goes_22 : decode cX7_goes 22 = .ok (.sipush 140, 3) := by decide +kernel
theorem dX7_goes_25 : decode cX7_goes 25 = .ok (.idiv, 1) := by decide +kernel
theorem dX7_goes_26 : decode cX7_goes 26 = .ok (.istore 7, 2) := by decide +kernel
theorem dX7_goes_28 : decode cX7_goes 28 = .ok (.iload_n 3, 1) := by decide +kernel
theorem dX7_goes_29 : decode cX7_goes 29 = .ok (.iconst (-1), 1) := by decide +kernel
theorem dX7_goes_30 : decode cX7_goes 30 = .ok (.if_icmp .ne 7, 3) := by decide +kernel
theorem dX7_goes_33 : decode cX7_goes 33 = .ok (.iconst 1, 1) := by decide +kernel
theorem dX7_goes_34 : decode cX7_goes 34 = .ok (.goto 4, 3) := by decide +kernel
theorem dX7_goes_37 : decode cX7_goes 37 = .ok (.iconst 0, 1) := by decide +kernel
theorem dX7_goes_38 : decode cX7_goes 38 = .ok (.istore 8, 2) := by decide +kernel
theorem dX7_goes_40 : decode cX7_goes 40 = .ok (.iload 8, 2) := by decide +kernel
theorem dX7_goes_42 : decode cX7_goes 42 = .ok (.ifCond .ne 43, 3) := by decide +kernel
theorem dX7_goes_45 : decode cX7_goes 45 = .ok (.aload_n 0, 1) := by decide +kernel
theorem dX7_goes_46 : decode cX7_goes 46 = .ok (.iload_n 3, 1) := by decide +kernel
theorem dX7_goes_47 : decode cX7_goes 47 = .ok (.iconst 0, 1) := by decide +kernel
theorem dX7_goes_48 : decode cX7_goes 48 = .ok (.invokevirtual 276, 3) := by decide +kernel
theorem dX7_goes_51 : decode cX7_goes 51 = .ok (.iload 7, 2) := by decide +kernel
theorem dX7_goes_53 : decode cX7_goes 53 = .ok (.if_icmp .ne 30, 3) := by decide +kernel
theorem dX7_goes_56 : decode cX7_goes 56 = .ok (.aload_n 0, 1) := by decide +kernel
theorem dX7_goes_57 : decode cX7_goes 57 = .ok (.iload_n 3, 1) := by decide +kernel
theorem dX7_goes_58 : decode cX7_goes 58 = .ok (.iconst 2, 1) := by decide +kernel
theorem dX7_goes_59 : decode cX7_goes 59 = .ok (.invokevirtual 276, 3) := by decide +kernel
theorem dX7_goes_62 : decode cX7_goes 62 = .ok (.aload_n 0, 1) := by decide +kernel
theorem dX7_goes_63 : decode cX7_goes 63 = .ok (.iload_n 3, 1) := by decide +kernel
theorem dX7_goes_64 : decode cX7_goes 64 = .ok (.iconst 5, 1) := by decide +kernel
theorem dX7_goes_65 : decode cX7_goes 65 = .ok (.invokevirtual 276, 3) := by decide +kernel
theorem dX7_goes_68 : decode cX7_goes 68 = .ok (.iconst 1, 1) := by decide +kernel
theorem dX7_goes_69 : decode cX7_goes 69 = .ok (.if_icmp .ne 10, 3) := by decide +kernel
theorem dX7_goes_72 : decode cX7_goes 72 = .ok (.iload_n 1, 1) := by decide +kernel
theorem dX7_goes_73 : decode cX7_goes 73 = .ok (.bipush 24, 2) := by decide +kernel
theorem dX7_goes_75 : decode cX7_goes 75 = .ok (.irem, 1) := by decide +kernel
theorem dX7_goes_76 : decode cX7_goes 76 = .ok (.goto 4, 3) := by decide +kernel
theorem dX7_goes_79 : decode cX7_goes 79 = .ok (.iload_n 1, 1) := by decide +kernel
theorem dX7_goes_80 : decode cX7_goes 80 = .ok (.if_icmp .eq 5, 3) := by decide +kernel
theorem dX7_goes_83 : decode cX7_goes 83 = .ok (.iconst (-1), 1) := by decide +kernel
theorem dX7_goes_84 : decode cX7_goes 84 = .ok (.ireturn, 1) := by decide +kernel
theorem dX7_goes_85 : decode cX7_goes 85 = .ok (.aload_n 0, 1) := by decide +kernel
theorem dX7_goes_86 : decode cX7_goes 86 = .ok (.iload 8, 2) := by decide +kernel
theorem dX7_goes_88 : decode cX7_goes 88 = .ok (.ifCond .eq 9, 3) := by decide +kernel
theorem dX7_goes_91 : decode cX7_goes 91 = .ok (.iload_n 1, 1) := by decide +kernel
theorem dX7_goes_92 : decode cX7_goes 92 = .ok (.iconst 1, 1) := by decide +kernel
theorem dX7_goes_93 : decode cX7_goes 93 = .ok (.iadd, 1) := by decide +kernel
theorem dX7_goes_94 : decode cX7_goes 94 = .ok (.goto 11, 3) := by decide +kernel
theorem dX7_goes_97 : decode cX7_goes 97 = .ok (.iload_n 1, 1) := by decide +kernel
theorem dX7_goes_98 : decode cX7_goes 98 = .ok (.aload_n 0, 1) := by decide +kernel
theorem dX7_goes_99 : decode cX7_goes 99 = .ok (.iload_n 3, 1) := by decide +kernel
theorem dX7_goes_100 : decode cX7_goes 100 = .ok (.iconst 3, 1) := by decide +kernel
theorem dX7_goes_101 : decode cX7_goes 101 = .ok (.invokevirtual 276, 3) := by decide +kernel
theorem dX7_goes_104 : decode cX7_goes 104 = .ok (.iadd, 1) := by decide +kernel
theorem dX7_goes_105 : decode cX7_goes 105 = .ok (.putfield 297, 3) := by decide +kernel
theorem dX7_goes_108 : decode cX7_goes 108 = .ok (.aload_n 0, 1) := by decide +kernel
theorem dX7_goes_109 : decode cX7_goes 109 = .ok (.getfield 297, 3) := by decide +kernel
theorem dX7_goes_112 : decode cX7_goes 112 = .ok (.aload_n 0, 1) := by decide +kernel
theorem dX7_goes_113 : decode cX7_goes 113 = .ok (.getfield 51, 3) := by decide +kernel
theorem dX7_goes_116 : decode cX7_goes 116 = .ok (.aload_n 0, 1) := by decide +kernel
theorem dX7_goes_117 : decode cX7_goes 117 = .ok (.getfield 279, 3) := by decide +kernel
theorem dX7_goes_120 : decode cX7_goes 120 = .ok (.iaload, 1) := by decide +kernel
theorem dX7_goes_121 : decode cX7_goes 121 = .ok (.if_icmp .le 5, 3) := by decide +kernel
theorem dX7_goes_124 : decode cX7_goes 124 = .ok (.iconst (-1), 1) := by decide +kernel
theorem dX7_goes_125 : decode cX7_goes 125 = .ok (.ireturn, 1) := by decide +kernel
theorem dX7_goes_126 : decode cX7_goes 126 = .ok (.iload 8, 2) := by decide +kernel
theorem dX7_goes_128 : decode cX7_goes 128 = .ok (.ifCond .eq 8, 3) := by decide +kernel
theorem dX7_goes_131 : decode cX7_goes 131 = .ok (.iload 7, 2) := by decide +kernel
theorem dX7_goes_133 : decode cX7_goes 133 = .ok (.goto 9, 3) := by decide +kernel
theorem dX7_goes_136 : decode cX7_goes 136 = .ok (.aload_n 0, 1) := by decide +kernel
theorem dX7_goes_137 : decode cX7_goes 137 = .ok (.iload_n 3, 1) := by decide +kernel
theorem dX7_goes_138 : decode cX7_goes 138 = .ok (.iconst 1, 1) := by decide +kernel
theorem dX7_goes_139 : decode cX7_goes 139 = .ok (.invokevirtual 276, 3) := by decide +kernel
theorem dX7_goes_142 : decode cX7_goes 142 = .ok (.istore 9, 2) := by decide +kernel
theorem dX7_goes_144 : decode cX7_goes 144 = .ok (.iload_n 1, 1) := by decide +kernel
theorem dX7_goes_145 : decode cX7_goes 145 = .ok (.iconst 1, 1) := by decide +kernel
theorem dX7_goes_146 : decode cX7_goes 146 = .ok (.iadd, 1) := by decide +kernel
theorem dX7_goes_147 : decode cX7_goes 147 = .ok (.istore 10, 2) := by decide +kernel
theorem dX7_goes_149 : decode cX7_goes 149 = .ok (.iload 10, 2) := by decide +kernel
theorem dX7_goes_151 : decode cX7_goes 151 = .ok (.aload_n 0, 1) := by decide +kernel
theorem dX7_goes_152 : decode cX7_goes 152 = .ok (.getfield 297, 3) := by decide +kernel
theorem dX7_goes_155 : decode cX7_goes 155 = .ok (.if_icmp .ge 22, 3) := by decide +kernel
theorem dX7_goes_158 : decode cX7_goes 158 = .ok (.aload_n 0, 1) := by decide +kernel
theorem dX7_goes_159 : decode cX7_goes 159 = .ok (.getfield 85, 3) := by decide +kernel
theorem dX7_goes_162 : decode cX7_goes 162 = .ok (.iload 10, 2) := by decide +kernel
theorem dX7_goes_164 : decode cX7_goes 164 = .ok (.iaload, 1) := by decide +kernel
theorem dX7_goes_165 : decode cX7_goes 165 = .ok (.iconst (-1), 1) := by decide +kernel
theorem dX7_goes_166 : decode cX7_goes 166 = .ok (.if_icmp .eq 5, 3) := by decide +kernel
theorem dX7_goes_169 : decode cX7_goes 169 = .ok (.iconst (-1), 1) := by decide +kernel
theorem dX7_goes_170 : decode cX7_goes 170 = .ok (.ireturn, 1) := by decide +kernel
theorem dX7_goes_171 : decode cX7_goes 171 = .ok (.iinc 10 1, 3) := by decide +kernel
theorem dX7_goes_174 : decode cX7_goes 174 = .ok (.goto (-25), 3) := by decide +kernel
theorem dX7_goes_177 : decode cX7_goes 177 = .ok (.iload 8, 2) := by decide +kernel
theorem dX7_goes_179 : decode cX7_goes 179 = .ok (.ifCond .eq 21, 3) := by decide +kernel
theorem dX7_goes_182 : decode cX7_goes 182 = .ok (.iload_n 1, 1) := by decide +kernel
theorem dX7_goes_183 : decode cX7_goes 183 = .ok (.bipush 24, 2) := by decide +kernel
theorem dX7_goes_185 : decode cX7_goes 185 = .ok (.irem, 1) := by decide +kernel
theorem dX7_goes_186 : decode cX7_goes 186 = .ok (.bipush 8, 2) := by decide +kernel
theorem dX7_goes_188 : decode cX7_goes 188 = .ok (.if_icmp .ge 12, 3) := by decide +kernel
theorem dX7_goes_191 : decode cX7_goes 191 = .ok (.iload 4, 2) := by decide +kernel
theorem dX7_goes_193 : decode cX7_goes 193 = .ok (.iconst 4, 1) := by decide +kernel
theorem dX7_goes_194 : decode cX7_goes 194 = .ok (.if_icmp .ge 6, 3) := by decide +kernel
theorem dX7_goes_197 : decode cX7_goes 197 = .ok (.iinc 4 1, 3) := by decide +kernel
theorem dX7_goes_200 : decode cX7_goes 200 = .ok (.iload_n 1, 1) := by decide +kernel
theorem dX7_goes_201 : decode cX7_goes 201 = .ok (.bipush 24, 2) := by decide +kernel
theorem dX7_goes_203 : decode cX7_goes 203 = .ok (.idiv, 1) := by decide +kernel
theorem dX7_goes_204 : decode cX7_goes 204 = .ok (.istore 10, 2) := by decide +kernel
theorem dX7_goes_206 : decode cX7_goes 206 = .ok (.bipush 24, 2) := by decide +kernel
theorem dX7_goes_208 : decode cX7_goes 208 = .ok (.iload 10, 2) := by decide +kernel
theorem dX7_goes_210 : decode cX7_goes 210 = .ok (.imul, 1) := by decide +kernel
theorem dX7_goes_211 : decode cX7_goes 211 = .ok (.bipush 8, 2) := by decide +kernel
theorem dX7_goes_213 : decode cX7_goes 213 = .ok (.iadd, 1) := by decide +kernel
theorem dX7_goes_214 : decode cX7_goes 214 = .ok (.aload_n 0, 1) := by decide +kernel
theorem dX7_goes_215 : decode cX7_goes 215 = .ok (.getfield 297, 3) := by decide +kernel
theorem dX7_goes_218 : decode cX7_goes 218 = .ok (.if_icmp .gt 53, 3) := by decide +kernel
theorem dX7_goes_221 : decode cX7_goes 221 = .ok (.bipush 24, 2) := by decide +kernel
theorem dX7_goes_223 : decode cX7_goes 223 = .ok (.iload 10, 2) := by decide +kernel
theorem dX7_goes_225 : decode cX7_goes 225 = .ok (.imul, 1) := by decide +kernel
theorem dX7_goes_226 : decode cX7_goes 226 = .ok (.bipush 8, 2) := by decide +kernel
theorem dX7_goes_228 : decode cX7_goes 228 = .ok (.iadd, 1) := by decide +kernel
theorem dX7_goes_229 : decode cX7_goes 229 = .ok (.iload_n 1, 1) := by decide +kernel
theorem dX7_goes_230 : decode cX7_goes 230 = .ok (.if_icmp .gt 6, 3) := by decide +kernel
theorem dX7_goes_233 : decode cX7_goes 233 = .ok (.goto 32, 3) := by decide +kernel
theorem dX7_goes_236 : decode cX7_goes 236 = .ok (.iload 10, 2) := by decide +kernel
theorem dX7_goes_238 : decode cX7_goes 238 = .ok (.iload_n 1, 1) := by decide +kernel
theorem dX7_goes_239 : decode cX7_goes 239 = .ok (.bipush 24, 2) := by decide +kernel
theorem dX7_goes_241 : decode cX7_goes 241 = .ok (.idiv, 1) := by decide +kernel
theorem dX7_goes_242 : decode cX7_goes 242 = .ok (.if_icmp .ne 8, 3) := by decide +kernel
theorem dX7_goes_245 : decode cX7_goes 245 = .ok (.iload 4, 2) := by decide +kernel
theorem dX7_goes_247 : decode cX7_goes 247 = .ok (.goto 4, 3) := by decide +kernel
theorem dX7_goes_250 : decode cX7_goes 250 = .ok (.iconst 0, 1) := by decide +kernel
theorem dX7_goes_251 : decode cX7_goes 251 = .ok (.aload_n 0, 1) := by decide +kernel
theorem dX7_goes_252 : decode cX7_goes 252 = .ok (.getfield 48, 3) := by decide +kernel
theorem dX7_goes_255 : decode cX7_goes 255 = .ok (.aload_n 0, 1) := by decide +kernel
theorem dX7_goes_256 : decode cX7_goes 256 = .ok (.getfield 279, 3) := by decide +kernel
theorem dX7_goes_259 : decode cX7_goes 259 = .ok (.iaload, 1) := by decide +kernel
theorem dX7_goes_260 : decode cX7_goes 260 = .ok (.if_icmp .ge 5, 3) := by decide +kernel
theorem dX7_goes_263 : decode cX7_goes 263 = .ok (.iconst (-1), 1) := by decide +kernel
theorem dX7_goes_264 : decode cX7_goes 264 = .ok (.ireturn, 1) := by decide +kernel
theorem dX7_goes_265 : decode cX7_goes 265 = .ok (.iinc 10 1, 3) := by decide +kernel
theorem dX7_goes_268 : decode cX7_goes 268 = .ok (.goto (-62), 3) := by decide +kernel
theorem dX7_goes_271 : decode cX7_goes 271 = .ok (.aload_n 0, 1) := by decide +kernel
theorem dX7_goes_272 : decode cX7_goes 272 = .ok (.getfield 297, 3) := by decide +kernel
theorem dX7_goes_275 : decode cX7_goes 275 = .ok (.bipush 24, 2) := by decide +kernel
theorem dX7_goes_277 : decode cX7_goes 277 = .ok (.idiv, 1) := by decide +kernel
theorem dX7_goes_278 : decode cX7_goes 278 = .ok (.iload_n 1, 1) := by decide +kernel
theorem dX7_goes_279 : decode cX7_goes 279 = .ok (.bipush 24, 2) := by decide +kernel
theorem dX7_goes_281 : decode cX7_goes 281 = .ok (.idiv, 1) := by decide +kernel
theorem dX7_goes_282 : decode cX7_goes 282 = .ok (.if_icmp .ne 19, 3) := by decide +kernel
theorem dX7_goes_285 : decode cX7_goes 285 = .ok (.aload_n 0, 1) := by decide +kernel
theorem dX7_goes_286 : decode cX7_goes 286 = .ok (.getfield 297, 3) := by decide +kernel
theorem dX7_goes_289 : decode cX7_goes 289 = .ok (.bipush 24, 2) := by decide +kernel
theorem dX7_goes_291 : decode cX7_goes 291 = .ok (.irem, 1) := by decide +kernel
theorem dX7_goes_292 : decode cX7_goes 292 = .ok (.bipush 8, 2) := by decide +kernel
theorem dX7_goes_294 : decode cX7_goes 294 = .ok (.if_icmp .ge 7, 3) := by decide +kernel
theorem dX7_goes_297 : decode cX7_goes 297 = .ok (.iconst 1, 1) := by decide +kernel
theorem dX7_goes_298 : decode cX7_goes 298 = .ok (.goto 4, 3) := by decide +kernel
theorem dX7_goes_301 : decode cX7_goes 301 = .ok (.iconst 0, 1) := by decide +kernel
theorem dX7_goes_302 : decode cX7_goes 302 = .ok (.istore 10, 2) := by decide +kernel
theorem dX7_goes_304 : decode cX7_goes 304 = .ok (.aload_n 0, 1) := by decide +kernel
theorem dX7_goes_305 : decode cX7_goes 305 = .ok (.getfield 36, 3) := by decide +kernel
theorem dX7_goes_308 : decode cX7_goes 308 = .ok (.iload 9, 2) := by decide +kernel
theorem dX7_goes_310 : decode cX7_goes 310 = .ok (.iaload, 1) := by decide +kernel
theorem dX7_goes_311 : decode cX7_goes 311 = .ok (.aload_n 0, 1) := by decide +kernel
theorem dX7_goes_312 : decode cX7_goes 312 = .ok (.getfield 36, 3) := by decide +kernel
theorem dX7_goes_315 : decode cX7_goes 315 = .ok (.iload 7, 2) := by decide +kernel
theorem dX7_goes_317 : decode cX7_goes 317 = .ok (.iaload, 1) := by decide +kernel
theorem dX7_goes_318 : decode cX7_goes 318 = .ok (.if_icmp .eq 58, 3) := by decide +kernel
theorem dX7_goes_321 : decode cX7_goes 321 = .ok (.aload_n 0, 1) := by decide +kernel
theorem dX7_goes_322 : decode cX7_goes 322 = .ok (.iload 6, 2) := by decide +kernel
theorem dX7_goes_324 : decode cX7_goes 324 = .ok (.aload_n 0, 1) := by decide +kernel
theorem dX7_goes_325 : decode cX7_goes 325 = .ok (.getfield 36, 3) := by decide +kernel
theorem dX7_goes_328 : decode cX7_goes 328 = .ok (.iload 7, 2) := by decide +kernel
theorem dX7_goes_330 : decode cX7_goes 330 = .ok (.iaload, 1) := by decide +kernel
theorem dX7_goes_331 : decode cX7_goes 331 = .ok (.iconst 1, 1) := by decide +kernel
theorem dX7_goes_332 : decode cX7_goes 332 = .ok (.iload_n 1, 1) := by decide +kernel
theorem dX7_goes_333 : decode cX7_goes 333 = .ok (.iload 7, 2) := by decide +kernel
theorem dX7_goes_335 : decode cX7_goes 335 = .ok (.invokevirtual 300, 3) := by decide +kernel
theorem dX7_goes_338 : decode cX7_goes 338 = .ok (.istore 6, 2) := by decide +kernel
theorem dX7_goes_340 : decode cX7_goes 340 = .ok (.iload 6, 2) := by decide +kernel
theorem dX7_goes_342 : decode cX7_goes 342 = .ok (.iconst (-1), 1) := by decide +kernel
theorem dX7_goes_343 : decode cX7_goes 343 = .ok (.if_icmp .eq 25, 3) := by decide +kernel
theorem dX7_goes_346 : decode cX7_goes 346 = .ok (.aload_n 0, 1) := by decide +kernel
theorem dX7_goes_347 : decode cX7_goes 347 = .ok (.iload 6, 2) := by decide +kernel
theorem dX7_goes_349 : decode cX7_goes 349 = .ok (.aload_n 0, 1) := by decide +kernel
theorem dX7_goes_350 : decode cX7_goes 350 = .ok (.getfield 36, 3) := by decide +kernel
theorem dX7_goes_353 : decode cX7_goes 353 = .ok (.iload 9, 2) := by decide +kernel
theorem dX7_goes_355 : decode cX7_goes 355 = .ok (.iaload, 1) := by decide +kernel
theorem dX7_goes_356 : decode cX7_goes 356 = .ok (.iconst 0, 1) := by decide +kernel
theorem dX7_goes_357 : decode cX7_goes 357 = .ok (.aload_n 0, 1) := by decide +kernel
theorem dX7_goes_358 : decode cX7_goes 358 = .ok (.getfield 297, 3) := by decide +kernel
theorem dX7_goes_361 : decode cX7_goes 361 = .ok (.iload 9, 2) := by decide +kernel
theorem dX7_goes_363 : decode cX7_goes 363 = .ok (.invokevirtual 300, 3) := by decide +kernel
theorem dX7_goes_366 : decode cX7_goes 366 = .ok (.istore 6, 2) := by decide +kernel
theorem dX7_goes_368 : decode cX7_goes 368 = .ok (.iload 6, 2) := by decide +kernel
theorem dX7_goes_370 : decode cX7_goes 370 = .ok (.iconst (-1), 1) := by decide +kernel
theorem dX7_goes_371 : decode cX7_goes 371 = .ok (.if_icmp .ne 5, 3) := by decide +kernel
theorem dX7_goes_374 : decode cX7_goes 374 = .ok (.iconst (-1), 1) := by decide +kernel
theorem dX7_goes_375 : decode cX7_goes 375 = .ok (.ireturn, 1) := by decide +kernel
theorem dX7_goes_376 : decode cX7_goes 376 = .ok (.aload_n 0, 1) := by decide +kernel
theorem dX7_goes_377 : decode cX7_goes 377 = .ok (.aload_n 0, 1) := by decide +kernel
theorem dX7_goes_378 : decode cX7_goes 378 = .ok (.getfield 297, 3) := by decide +kernel
theorem dX7_goes_381 : decode cX7_goes 381 = .ok (.iload 9, 2) := by decide +kernel
theorem dX7_goes_383 : decode cX7_goes 383 = .ok (.iload 6, 2) := by decide +kernel
theorem dX7_goes_385 : decode cX7_goes 385 = .ok (.iload 5, 2) := by decide +kernel
theorem dX7_goes_387 : decode cX7_goes 387 = .ok (.iload 10, 2) := by decide +kernel
theorem dX7_goes_389 : decode cX7_goes 389 = .ok (.ifCond .eq 8, 3) := by decide +kernel
theorem dX7_goes_392 : decode cX7_goes 392 = .ok (.iload 4, 2) := by decide +kernel
theorem dX7_goes_394 : decode cX7_goes 394 = .ok (.goto 4, 3) := by decide +kernel
theorem dX7_goes_397 : decode cX7_goes 397 = .ok (.iconst 0, 1) := by decide +kernel
theorem dX7_goes_398 : decode cX7_goes 398 = .ok (.invokevirtual 304, 3) := by decide +kernel
theorem dX7_goes_401 : decode cX7_goes 401 = .ok (.ireturn, 1) := by decide +kernel
theorem dX7_start_0 : decode cX7_start 0 = .ok (.aload_n 0, 1) := by decide +kernel
theorem dX7_start_1 : decode cX7_start 1 = .ok (.iconst 0, 1) := by decide +kernel
theorem dX7_start_2 : decode cX7_start 2 = .ok (.aload_n 0, 1) := by decide +kernel
theorem dX7_start_3 : decode cX7_start 3 = .ok (.getfield 45, 3) := by decide +kernel
theorem dX7_start_6 : decode cX7_start 6 = .ok (.aload_n 0, 1) := by decide +kernel
theorem dX7_start_7 : decode cX7_start 7 = .ok (.getfield 279, 3) := by decide +kernel
theorem dX7_start_10 : decode cX7_start 10 = .ok (.iaload, 1) := by decide +kernel
theorem dX7_start_11 : decode cX7_start 11 = .ok (.iconst 0, 1) := by decide +kernel
theorem dX7_start_12 : decode cX7_start 12 = .ok (.iconst 0, 1) := by decide +kernel
theorem dX7_start_13 : decode cX7_start 13 = .ok (.iconst 0, 1) := by decide +kernel
theorem dX7_start_14 : decode cX7_start 14 = .ok (.invokevirtual 304, 3) := by decide +kernel
theorem dX7_start_17 : decode cX7_start 17 = .ok (.ireturn, 1) := by decide +kernel
theorem dX7_ends_0 : decode cX7_ends 0 = .ok (.iload_n 1, 1) := by decide +kernel
theorem dX7_ends_1 : decode cX7_ends 1 = .ok (.iconst 5, 1) := by decide +kernel
theorem dX7_ends_2 : decode cX7_ends 2 = .ok (.idiv, 1) := by decide +kernel
theorem dX7_ends_3 : decode cX7_ends 3 = .ok (.iconst 4, 1) := by decide +kernel
theorem dX7_ends_4 : decode cX7_ends 4 = .ok (.irem, 1) := by decide +kernel
theorem dX7_ends_5 : decode cX7_ends 5 = .ok (.iconst 1, 1) := by decide +kernel
theorem dX7_ends_6 : decode cX7_ends 6 = .ok (.aload_n 0, 1) := by decide +kernel
theorem dX7_ends_7 : decode cX7_ends 7 = .ok (.getfield 285, 3) := by decide +kernel
theorem dX7_ends_10 : decode cX7_ends 10 = .ok (.ishl, 1) := by decide +kernel
theorem dX7_ends_11 : decode cX7_ends 11 = .ok (.iconst 1, 1) := by decide +kernel
theorem dX7_ends_12 : decode cX7_ends 12 = .ok (.isub, 1) := by decide +kernel
theorem dX7_ends_13 : decode cX7_ends 13 = .ok (.if_icmp .ne 21, 3) := by decide +kernel
theorem dX7_ends_16 : decode cX7_ends 16 = .ok (.iload_n 1, 1) := by decide +kernel
theorem dX7_ends_17 : decode cX7_ends 17 = .ok (.bipush 20, 2) := by decide +kernel
theorem dX7_ends_19 : decode cX7_ends 19 = .ok (.idiv, 1) := by decide +kernel
theorem dX7_ends_20 : decode cX7_ends 20 = .ok (.bipush 7, 2) := by decide +kernel
theorem dX7_ends_22 : decode cX7_ends 22 = .ok (.irem, 1) := by decide +kernel
theorem dX7_ends_23 : decode cX7_ends 23 = .ok (.aload_n 0, 1) := by decide +kernel
theorem dX7_ends_24 : decode cX7_ends 24 = .ok (.getfield 282, 3) := by decide +kernel
theorem dX7_ends_27 : decode cX7_ends 27 = .ok (.if_icmp .ne 7, 3) := by decide +kernel
theorem dX7_ends_30 : decode cX7_ends 30 = .ok (.iconst 1, 1) := by decide +kernel
theorem dX7_ends_31 : decode cX7_ends 31 = .ok (.goto 4, 3) := by decide +kernel
theorem dX7_ends_34 : decode cX7_ends 34 = .ok (.iconst 0, 1) := by decide +kernel
theorem dX7_ends_35 : decode cX7_ends 35 = .ok (.ireturn, 1) := by decide +kernel
theorem dX7_finds_0 : decode cX7_finds 0 = .ok (.iconst 0, 1) := by decide +kernel
theorem dX7_finds_1 : decode cX7_finds 1 = .ok (.istore_n 1, 1) := by decide +kernel
theorem dX7_finds_2 : decode cX7_finds 2 = .ok (.iload_n 1, 1) := by decide +kernel
theorem dX7_finds_3 : decode cX7_finds 3 = .ok (.aload_n 0, 1) := by decide +kernel
theorem dX7_finds_4 : decode cX7_finds 4 = .ok (.getfield 51, 3) := by decide +kernel
theorem dX7_finds_7 : decode cX7_finds 7 = .ok (.aload_n 0, 1) := by decide +kernel
theorem dX7_finds_8 : decode cX7_finds 8 = .ok (.getfield 279, 3) := by decide +kernel
theorem dX7_finds_11 : decode cX7_finds 11 = .ok (.iaload, 1) := by decide +kernel
theorem dX7_finds_12 : decode cX7_finds 12 = .ok (.sipush 1120, 3) := by decide +kernel
theorem dX7_finds_15 : decode cX7_finds 15 = .ok (.imul, 1) := by decide +kernel
theorem dX7_finds_16 : decode cX7_finds 16 = .ok (.sipush 1120, 3) := by decide +kernel
theorem dX7_finds_19 : decode cX7_finds 19 = .ok (.iadd, 1) := by decide +kernel
theorem dX7_finds_20 : decode cX7_finds 20 = .ok (.iconst 1, 1) := by decide +kernel
theorem dX7_finds_21 : decode cX7_finds 21 = .ok (.isub, 1) := by decide +kernel
theorem dX7_finds_22 : decode cX7_finds 22 = .ok (.if_icmp .gt 16, 3) := by decide +kernel
theorem dX7_finds_25 : decode cX7_finds 25 = .ok (.aload_n 0, 1) := by decide +kernel
theorem dX7_finds_26 : decode cX7_finds 26 = .ok (.getfield 104, 3) := by decide +kernel
theorem dX7_finds_29 : decode cX7_finds 29 = .ok (.iload_n 1, 1) := by decide +kernel
theorem dX7_finds_30 : decode cX7_finds 30 = .ok (.iconst 0, 1) := by decide +kernel
theorem dX7_finds_31 : decode cX7_finds 31 = .ok (.bastore, 1) := by decide +kernel
theorem dX7_finds_32 : decode cX7_finds 32 = .ok (.iinc 1 1, 3) := by decide +kernel
theorem dX7_finds_35 : decode cX7_finds 35 = .ok (.goto (-33), 3) := by decide +kernel
theorem dX7_finds_38 : decode cX7_finds 38 = .ok (.aload_n 0, 1) := by decide +kernel
theorem dX7_finds_39 : decode cX7_finds 39 = .ok (.invokevirtual 307, 3) := by decide +kernel
theorem dX7_finds_42 : decode cX7_finds 42 = .ok (.istore_n 1, 1) := by decide +kernel
theorem dX7_finds_43 : decode cX7_finds 43 = .ok (.iload_n 1, 1) := by decide +kernel
theorem dX7_finds_44 : decode cX7_finds 44 = .ok (.iconst (-1), 1) := by decide +kernel
theorem dX7_finds_45 : decode cX7_finds 45 = .ok (.if_icmp .ne 5, 3) := by decide +kernel
theorem dX7_finds_48 : decode cX7_finds 48 = .ok (.iconst 0, 1) := by decide +kernel
theorem dX7_finds_49 : decode cX7_finds 49 = .ok (.ireturn, 1) := by decide +kernel
theorem dX7_finds_50 : decode cX7_finds 50 = .ok (.aload_n 0, 1) := by decide +kernel
theorem dX7_finds_51 : decode cX7_finds 51 = .ok (.getfield 104, 3) := by decide +kernel
theorem dX7_finds_54 : decode cX7_finds 54 = .ok (.iload_n 1, 1) := by decide +kernel
theorem dX7_finds_55 : decode cX7_finds 55 = .ok (.iconst 1, 1) := by decide +kernel
theorem dX7_finds_56 : decode cX7_finds 56 = .ok (.bastore, 1) := by decide +kernel
theorem dX7_finds_57 : decode cX7_finds 57 = .ok (.iconst 0, 1) := by decide +kernel
theorem dX7_finds_58 : decode cX7_finds 58 = .ok (.istore_n 2, 1) := by decide +kernel
theorem dX7_finds_59 : decode cX7_finds 59 = .ok (.iload_n 2, 1) := by decide +kernel
theorem dX7_finds_60 : decode cX7_finds 60 = .ok (.aload_n 0, 1) := by decide +kernel
theorem dX7_finds_61 : decode cX7_finds 61 = .ok (.getfield 51, 3) := by decide +kernel
theorem dX7_finds_64 : decode cX7_finds 64 = .ok (.aload_n 0, 1) := by decide +kernel
theorem dX7_finds_65 : decode cX7_finds 65 = .ok (.getfield 279, 3) := by decide +kernel
theorem dX7_finds_68 : decode cX7_finds 68 = .ok (.iaload, 1) := by decide +kernel
theorem dX7_finds_69 : decode cX7_finds 69 = .ok (.if_icmp .ge 93, 3) := by decide +kernel
theorem dX7_finds_72 : decode cX7_finds 72 = .ok (.iconst 0, 1) := by decide +kernel
theorem dX7_finds_73 : decode cX7_finds 73 = .ok (.istore_n 3, 1) := by decide +kernel
theorem dX7_finds_74 : decode cX7_finds 74 = .ok (.iload_n 3, 1) := by decide +kernel
theorem dX7_finds_75 : decode cX7_finds 75 = .ok (.sipush 1120, 3) := by decide +kernel
theorem dX7_finds_78 : decode cX7_finds 78 = .ok (.if_icmp .ge 78, 3) := by decide +kernel
theorem dX7_finds_81 : decode cX7_finds 81 = .ok (.aload_n 0, 1) := by decide +kernel
theorem dX7_finds_82 : decode cX7_finds 82 = .ok (.getfield 104, 3) := by decide +kernel
theorem dX7_finds_85 : decode cX7_finds 85 = .ok (.iload_n 2, 1) := by decide +kernel
theorem dX7_finds_86 : decode cX7_finds 86 = .ok (.sipush 1120, 3) := by decide +kernel
theorem dX7_finds_89 : decode cX7_finds 89 = .ok (.imul, 1) := by decide +kernel
theorem dX7_finds_90 : decode cX7_finds 90 = .ok (.iload_n 3, 1) := by decide +kernel
theorem dX7_finds_91 : decode cX7_finds 91 = .ok (.iadd, 1) := by decide +kernel
theorem dX7_finds_92 : decode cX7_finds 92 = .ok (.baload, 1) := by decide +kernel
theorem dX7_finds_93 : decode cX7_finds 93 = .ok (.ifCond .ne 6, 3) := by decide +kernel
theorem dX7_finds_96 : decode cX7_finds 96 = .ok (.goto 54, 3) := by decide +kernel
theorem dX7_finds_99 : decode cX7_finds 99 = .ok (.iconst (-1), 1) := by decide +kernel
theorem dX7_finds_100 : decode cX7_finds 100 = .ok (.istore 4, 2) := by decide +kernel
theorem dX7_finds_102 : decode cX7_finds 102 = .ok (.iload 4, 2) := by decide +kernel
theorem dX7_finds_104 : decode cX7_finds 104 = .ok (.aload_n 0, 1) := by decide +kernel
theorem dX7_finds_105 : decode cX7_finds 105 = .ok (.getfield 250, 3) := by decide +kernel
theorem dX7_finds_108 : decode cX7_finds 108 = .ok (.if_icmp .ge 42, 3) := by decide +kernel
theorem dX7_finds_111 : decode cX7_finds 111 = .ok (.aload_n 0, 1) := by decide +kernel
theorem dX7_finds_112 : decode cX7_finds 112 = .ok (.iload_n 2, 1) := by decide +kernel
theorem dX7_finds_113 : decode cX7_finds 113 = .ok (.iload_n 3, 1) := by decide +kernel
theorem dX7_finds_114 : decode cX7_finds 114 = .ok (.iload 4, 2) := by decide +kernel
theorem dX7_finds_116 : decode cX7_finds 116 = .ok (.invokevirtual 310, 3) := by decide +kernel
theorem dX7_finds_119 : decode cX7_finds 119 = .ok (.istore 5, 2) := by decide +kernel
theorem dX7_finds_121 : decode cX7_finds 121 = .ok (.iload 5, 2) := by decide +kernel
theorem dX7_finds_123 : decode cX7_finds 123 = .ok (.iconst (-1), 1) := by decide +kernel
theorem dX7_finds_124 : decode cX7_finds 124 = .ok (.if_icmp .eq 20, 3) := by decide +kernel
theorem dX7_finds_127 : decode cX7_finds 127 = .ok (.aload_n 0, 1) := by decide +kernel
theorem dX7_finds_128 : decode cX7_finds 128 = .ok (.getfield 104, 3) := by decide +kernel
theorem dX7_finds_131 : decode cX7_finds 131 = .ok (.aload_n 0, 1) := by decide +kernel
theorem dX7_finds_132 : decode cX7_finds 132 = .ok (.getfield 297, 3) := by decide +kernel
theorem dX7_finds_135 : decode cX7_finds 135 = .ok (.sipush 1120, 3) := by decide +kernel
theorem dX7_finds_138 : decode cX7_finds 138 = .ok (.imul, 1) := by decide +kernel
theorem dX7_finds_139 : decode cX7_finds 139 = .ok (.iload 5, 2) := by decide +kernel
theorem dX7_finds_141 : decode cX7_finds 141 = .ok (.iadd, 1) := by decide +kernel
theorem dX7_finds_142 : decode cX7_finds 142 = .ok (.iconst 1, 1) := by decide +kernel
theorem dX7_finds_143 : decode cX7_finds 143 = .ok (.bastore, 1) := by decide +kernel
theorem dX7_finds_144 : decode cX7_finds 144 = .ok (.iinc 4 1, 3) := by decide +kernel
theorem dX7_finds_147 : decode cX7_finds 147 = .ok (.goto (-45), 3) := by decide +kernel
theorem dX7_finds_150 : decode cX7_finds 150 = .ok (.iinc 3 1, 3) := by decide +kernel
theorem dX7_finds_153 : decode cX7_finds 153 = .ok (.goto (-79), 3) := by decide +kernel
theorem dX7_finds_156 : decode cX7_finds 156 = .ok (.iinc 2 1, 3) := by decide +kernel
theorem dX7_finds_159 : decode cX7_finds 159 = .ok (.goto (-100), 3) := by decide +kernel
theorem dX7_finds_162 : decode cX7_finds 162 = .ok (.iconst 0, 1) := by decide +kernel
theorem dX7_finds_163 : decode cX7_finds 163 = .ok (.istore_n 2, 1) := by decide +kernel
theorem dX7_finds_164 : decode cX7_finds 164 = .ok (.iload_n 2, 1) := by decide +kernel
theorem dX7_finds_165 : decode cX7_finds 165 = .ok (.sipush 1120, 3) := by decide +kernel
theorem dX7_finds_168 : decode cX7_finds 168 = .ok (.if_icmp .ge 42, 3) := by decide +kernel
theorem dX7_finds_171 : decode cX7_finds 171 = .ok (.aload_n 0, 1) := by decide +kernel
theorem dX7_finds_172 : decode cX7_finds 172 = .ok (.getfield 104, 3) := by decide +kernel
theorem dX7_finds_175 : decode cX7_finds 175 = .ok (.aload_n 0, 1) := by decide +kernel
theorem dX7_finds_176 : decode cX7_finds 176 = .ok (.getfield 51, 3) := by decide +kernel
theorem dX7_finds_179 : decode cX7_finds 179 = .ok (.aload_n 0, 1) := by decide +kernel
theorem dX7_finds_180 : decode cX7_finds 180 = .ok (.getfield 279, 3) := by decide +kernel
theorem dX7_finds_183 : decode cX7_finds 183 = .ok (.iaload, 1) := by decide +kernel
theorem dX7_finds_184 : decode cX7_finds 184 = .ok (.sipush 1120, 3) := by decide +kernel
theorem dX7_finds_187 : decode cX7_finds 187 = .ok (.imul, 1) := by decide +kernel
theorem dX7_finds_188 : decode cX7_finds 188 = .ok (.iload_n 2, 1) := by decide +kernel
theorem dX7_finds_189 : decode cX7_finds 189 = .ok (.iadd, 1) := by decide +kernel
theorem dX7_finds_190 : decode cX7_finds 190 = .ok (.baload, 1) := by decide +kernel
theorem dX7_finds_191 : decode cX7_finds 191 = .ok (.ifCond .eq 13, 3) := by decide +kernel
theorem dX7_finds_194 : decode cX7_finds 194 = .ok (.aload_n 0, 1) := by decide +kernel
theorem dX7_finds_195 : decode cX7_finds 195 = .ok (.iload_n 2, 1) := by decide +kernel
theorem dX7_finds_196 : decode cX7_finds 196 = .ok (.invokevirtual 314, 3) := by decide +kernel
theorem dX7_finds_199 : decode cX7_finds 199 = .ok (.ifCond .eq 5, 3) := by decide +kernel
theorem dX7_finds_202 : decode cX7_finds 202 = .ok (.iconst 1, 1) := by decide +kernel
theorem dX7_finds_203 : decode cX7_finds 203 = .ok (.ireturn, 1) := by decide +kernel
theorem dX7_finds_204 : decode cX7_finds 204 = .ok (.iinc 2 1, 3) := by decide +kernel
theorem dX7_finds_207 : decode cX7_finds 207 = .ok (.goto (-43), 3) := by decide +kernel
theorem dX7_finds_210 : decode cX7_finds 210 = .ok (.iconst 0, 1) := by decide +kernel
theorem dX7_finds_211 : decode cX7_finds 211 = .ok (.ireturn, 1) := by decide +kernel
theorem dX7_counts_0 : decode cX7_counts 0 = .ok (.aload_n 0, 1) := by decide +kernel
theorem dX7_counts_1 : decode cX7_counts 1 = .ok (.invokevirtual 317, 3) := by decide +kernel
theorem dX7_counts_4 : decode cX7_counts 4 = .ok (.ifCond .ne 5, 3) := by decide +kernel
theorem dX7_counts_7 : decode cX7_counts 7 = .ok (.iconst 0, 1) := by decide +kernel
theorem dX7_counts_8 : decode cX7_counts 8 = .ok (.ireturn, 1) := by decide +kernel
theorem dX7_counts_9 : decode cX7_counts 9 = .ok (.aload_n 0, 1) := by decide +kernel
theorem dX7_counts_10 : decode cX7_counts 10 = .ok (.getfield 51, 3) := by decide +kernel
theorem dX7_counts_13 : decode cX7_counts 13 = .ok (.aload_n 0, 1) := by decide +kernel
theorem dX7_counts_14 : decode cX7_counts 14 = .ok (.getfield 279, 3) := by decide +kernel
theorem dX7_counts_17 : decode cX7_counts 17 = .ok (.iaload, 1) := by decide +kernel
theorem dX7_counts_18 : decode cX7_counts 18 = .ok (.istore_n 1, 1) := by decide +kernel
theorem dX7_counts_19 : decode cX7_counts 19 = .ok (.iload_n 1, 1) := by decide +kernel
theorem dX7_counts_20 : decode cX7_counts 20 = .ok (.ifCond .lt 177, 3) := by decide +kernel
theorem dX7_counts_23 : decode cX7_counts 23 = .ok (.iconst 0, 1) := by decide +kernel
theorem dX7_counts_24 : decode cX7_counts 24 = .ok (.istore_n 2, 1) := by decide +kernel
theorem dX7_counts_25 : decode cX7_counts 25 = .ok (.iload_n 2, 1) := by decide +kernel
theorem dX7_counts_26 : decode cX7_counts 26 = .ok (.sipush 1120, 3) := by decide +kernel
theorem dX7_counts_29 : decode cX7_counts 29 = .ok (.if_icmp .ge 162, 3) := by decide +kernel
theorem dX7_counts_32 : decode cX7_counts 32 = .ok (.iload_n 1, 1) := by decide +kernel
theorem dX7_counts_33 : decode cX7_counts 33 = .ok (.sipush 1120, 3) := by decide +kernel
theorem dX7_counts_36 : decode cX7_counts 36 = .ok (.imul, 1) := by decide +kernel
theorem dX7_counts_37 : decode cX7_counts 37 = .ok (.iload_n 2, 1) := by decide +kernel
theorem dX7_counts_38 : decode cX7_counts 38 = .ok (.iadd, 1) := by decide +kernel
theorem dX7_counts_39 : decode cX7_counts 39 = .ok (.istore_n 3, 1) := by decide +kernel
theorem dX7_counts_40 : decode cX7_counts 40 = .ok (.aload_n 0, 1) := by decide +kernel
theorem dX7_counts_41 : decode cX7_counts 41 = .ok (.getfield 98, 3) := by decide +kernel
theorem dX7_counts_44 : decode cX7_counts 44 = .ok (.iload_n 3, 1) := by decide +kernel
theorem dX7_counts_45 : decode cX7_counts 45 = .ok (.iconst 0, 1) := by decide +kernel
theorem dX7_counts_46 : decode cX7_counts 46 = .ok (.iastore, 1) := by decide +kernel
theorem dX7_counts_47 : decode cX7_counts 47 = .ok (.aload_n 0, 1) := by decide +kernel
theorem dX7_counts_48 : decode cX7_counts 48 = .ok (.getfield 104, 3) := by decide +kernel
theorem dX7_counts_51 : decode cX7_counts 51 = .ok (.iload_n 3, 1) := by decide +kernel
theorem dX7_counts_52 : decode cX7_counts 52 = .ok (.baload, 1) := by decide +kernel
theorem dX7_counts_53 : decode cX7_counts 53 = .ok (.ifCond .ne 6, 3) := by decide +kernel
theorem dX7_counts_56 : decode cX7_counts 56 = .ok (.goto 129, 3) := by decide +kernel
theorem dX7_counts_59 : decode cX7_counts 59 = .ok (.iload_n 1, 1) := by decide +kernel
theorem dX7_counts_60 : decode cX7_counts 60 = .ok (.aload_n 0, 1) := by decide +kernel
theorem dX7_counts_61 : decode cX7_counts 61 = .ok (.getfield 51, 3) := by decide +kernel
theorem dX7_counts_64 : decode cX7_counts 64 = .ok (.aload_n 0, 1) := by decide +kernel
theorem dX7_counts_65 : decode cX7_counts 65 = .ok (.getfield 279, 3) := by decide +kernel
theorem dX7_counts_68 : decode cX7_counts 68 = .ok (.iaload, 1) := by decide +kernel
theorem dX7_counts_69 : decode cX7_counts 69 = .ok (.if_icmp .ne 25, 3) := by decide +kernel
theorem dX7_counts_72 : decode cX7_counts 72 = .ok (.aload_n 0, 1) := by decide +kernel
theorem dX7_counts_73 : decode cX7_counts 73 = .ok (.getfield 98, 3) := by decide +kernel
theorem dX7_counts_76 : decode cX7_counts 76 = .ok (.iload_n 3, 1) := by decide +kernel
theorem dX7_counts_77 : decode cX7_counts 77 = .ok (.aload_n 0, 1) := by decide +kernel
theorem dX7_counts_78 : decode cX7_counts 78 = .ok (.iload_n 2, 1) := by decide +kernel
theorem dX7_counts_79 : decode cX7_counts 79 = .ok (.invokevirtual 314, 3) := by decide +kernel
theorem dX7_counts_82 : decode cX7_counts 82 = .ok (.ifCond .eq 7, 3) := by decide +kernel
theorem dX7_counts_85 : decode cX7_counts 85 = .ok (.iconst 1, 1) := by decide +kernel
theorem dX7_counts_86 : decode cX7_counts 86 = .ok (.goto 4, 3) := by decide +kernel
theorem dX7_counts_89 : decode cX7_counts 89 = .ok (.iconst 0, 1) := by decide +kernel
theorem dX7_counts_90 : decode cX7_counts 90 = .ok (.iastore, 1) := by decide +kernel
theorem dX7_counts_91 : decode cX7_counts 91 = .ok (.goto 94, 3) := by decide +kernel
theorem dX7_counts_94 : decode cX7_counts 94 = .ok (.iconst (-1), 1) := by decide +kernel
theorem dX7_counts_95 : decode cX7_counts 95 = .ok (.istore 4, 2) := by decide +kernel
theorem dX7_counts_97 : decode cX7_counts 97 = .ok (.iload 4, 2) := by decide +kernel
theorem dX7_counts_99 : decode cX7_counts 99 = .ok (.aload_n 0, 1) := by decide +kernel
theorem dX7_counts_100 : decode cX7_counts 100 = .ok (.getfield 250, 3) := by decide +kernel
theorem dX7_counts_103 : decode cX7_counts 103 = .ok (.if_icmp .ge 82, 3) := by decide +kernel
theorem dX7_counts_106 : decode cX7_counts 106 = .ok (.aload_n 0, 1) := by decide +kernel
theorem dX7_counts_107 : decode cX7_counts 107 = .ok (.iload_n 1, 1) := by decide +kernel
theorem dX7_counts_108 : decode cX7_counts 108 = .ok (.iload_n 2, 1) := by decide +kernel
theorem dX7_counts_109 : decode cX7_counts 109 = .ok (.iload 4, 2) := by decide +kernel
theorem dX7_counts_111 : decode cX7_counts 111 = .ok (.invokevirtual 310, 3) := by decide +kernel
theorem dX7_counts_114 : decode cX7_counts 114 = .ok (.istore 5, 2) := by decide +kernel
theorem dX7_counts_116 : decode cX7_counts 116 = .ok (.iload 5, 2) := by decide +kernel
theorem dX7_counts_118 : decode cX7_counts 118 = .ok (.iconst (-1), 1) := by decide +kernel
theorem dX7_counts_119 : decode cX7_counts 119 = .ok (.if_icmp .ne 6, 3) := by decide +kernel
theorem dX7_counts_122 : decode cX7_counts 122 = .ok (.goto 57, 3) := by decide +kernel
theorem dX7_counts_125 : decode cX7_counts 125 = .ok (.aload_n 0, 1) := by decide +kernel
theorem dX7_counts_126 : decode cX7_counts 126 = .ok (.getfield 98, 3) := by decide +kernel
theorem dX7_counts_129 : decode cX7_counts 129 = .ok (.aload_n 0, 1) := by decide +kernel
theorem dX7_counts_130 : decode cX7_counts 130 = .ok (.getfield 297, 3) := by decide +kernel
theorem dX7_counts_133 : decode cX7_counts 133 = .ok (.sipush 1120, 3) := by decide +kernel
theorem dX7_counts_136 : decode cX7_counts 136 = .ok (.imul, 1) := by decide +kernel
theorem dX7_counts_137 : decode cX7_counts 137 = .ok (.iload 5, 2) := by decide +kernel
theorem dX7_counts_139 : decode cX7_counts 139 = .ok (.iadd, 1) := by decide +kernel
theorem dX7_counts_140 : decode cX7_counts 140 = .ok (.iaload, 1) := by decide +kernel
theorem dX7_counts_141 : decode cX7_counts 141 = .ok (.istore 6, 2) := by decide +kernel
theorem dX7_counts_143 : decode cX7_counts 143 = .ok (.aload_n 0, 1) := by decide +kernel
theorem dX7_counts_144 : decode cX7_counts 144 = .ok (.getfield 98, 3) := by decide +kernel
theorem dX7_counts_147 : decode cX7_counts 147 = .ok (.iload_n 3, 1) := by decide +kernel
theorem dX7_counts_148 : decode cX7_counts 148 = .ok (.aload_n 0, 1) := by decide +kernel
theorem dX7_counts_149 : decode cX7_counts 149 = .ok (.getfield 98, 3) := by decide +kernel
theorem dX7_counts_152 : decode cX7_counts 152 = .ok (.iload_n 3, 1) := by decide +kernel
theorem dX7_counts_153 : decode cX7_counts 153 = .ok (.iaload, 1) := by decide +kernel
theorem dX7_counts_154 : decode cX7_counts 154 = .ok (.ldc_w 320, 3) := by decide +kernel
theorem dX7_counts_157 : decode cX7_counts 157 = .ok (.iload 6, 2) := by decide +kernel
theorem dX7_counts_159 : decode cX7_counts 159 = .ok (.isub, 1) := by decide +kernel
theorem dX7_counts_160 : decode cX7_counts 160 = .ok (.if_icmp .le 9, 3) := by decide +kernel
theorem dX7_counts_163 : decode cX7_counts 163 = .ok (.ldc_w 320, 3) := by decide +kernel
theorem dX7_counts_166 : decode cX7_counts 166 = .ok (.goto 12, 3) := by decide +kernel
theorem dX7_counts_169 : decode cX7_counts 169 = .ok (.aload_n 0, 1) := by decide +kernel
theorem dX7_counts_170 : decode cX7_counts 170 = .ok (.getfield 98, 3) := by decide +kernel
theorem dX7_counts_173 : decode cX7_counts 173 = .ok (.iload_n 3, 1) := by decide +kernel
theorem dX7_counts_174 : decode cX7_counts 174 = .ok (.iaload, 1) := by decide +kernel
theorem dX7_counts_175 : decode cX7_counts 175 = .ok (.iload 6, 2) := by decide +kernel
theorem dX7_counts_177 : decode cX7_counts 177 = .ok (.iadd, 1) := by decide +kernel
theorem dX7_counts_178 : decode cX7_counts 178 = .ok (.iastore, 1) := by decide +kernel
theorem dX7_counts_179 : decode cX7_counts 179 = .ok (.iinc 4 1, 3) := by decide +kernel
theorem dX7_counts_182 : decode cX7_counts 182 = .ok (.goto (-85), 3) := by decide +kernel
theorem dX7_counts_185 : decode cX7_counts 185 = .ok (.iinc 2 1, 3) := by decide +kernel
theorem dX7_counts_188 : decode cX7_counts 188 = .ok (.goto (-163), 3) := by decide +kernel
theorem dX7_counts_191 : decode cX7_counts 191 = .ok (.iinc 1 (-1), 3) := by decide +kernel
theorem dX7_counts_194 : decode cX7_counts 194 = .ok (.goto (-175), 3) := by decide +kernel
theorem dX7_counts_197 : decode cX7_counts 197 = .ok (.aload_n 0, 1) := by decide +kernel
theorem dX7_counts_198 : decode cX7_counts 198 = .ok (.getfield 98, 3) := by decide +kernel
theorem dX7_counts_201 : decode cX7_counts 201 = .ok (.aload_n 0, 1) := by decide +kernel
theorem dX7_counts_202 : decode cX7_counts 202 = .ok (.invokevirtual 307, 3) := by decide +kernel
theorem dX7_counts_205 : decode cX7_counts 205 = .ok (.iaload, 1) := by decide +kernel
theorem dX7_counts_206 : decode cX7_counts 206 = .ok (.ireturn, 1) := by decide +kernel
theorem dX7_ways_0 : decode cX7_ways 0 = .ok (.aload_n 0, 1) := by decide +kernel
theorem dX7_ways_1 : decode cX7_ways 1 = .ok (.iload_n 1, 1) := by decide +kernel
theorem dX7_ways_2 : decode cX7_ways 2 = .ok (.invokevirtual 256, 3) := by decide +kernel
theorem dX7_ways_5 : decode cX7_ways 5 = .ok (.ifCond .ne 5, 3) := by decide +kernel
theorem dX7_ways_8 : decode cX7_ways 8 = .ok (.iconst (-1), 1) := by decide +kernel
theorem dX7_ways_9 : decode cX7_ways 9 = .ok (.ireturn, 1) := by decide +kernel
theorem dX7_ways_10 : decode cX7_ways 10 = .ok (.aload_n 0, 1) := by decide +kernel
theorem dX7_ways_11 : decode cX7_ways 11 = .ok (.iload_n 1, 1) := by decide +kernel
theorem dX7_ways_12 : decode cX7_ways 12 = .ok (.iconst 0, 1) := by decide +kernel
theorem dX7_ways_13 : decode cX7_ways 13 = .ok (.invokevirtual 321, 3) := by decide +kernel
theorem dX7_ways_16 : decode cX7_ways 16 = .ok (.aload_n 0, 1) := by decide +kernel
theorem dX7_ways_17 : decode cX7_ways 17 = .ok (.invokevirtual 325, 3) := by decide +kernel
theorem dX7_ways_20 : decode cX7_ways 20 = .ok (.ireturn, 1) := by decide +kernel
theorem dX7_mayBits_0 : decode cX7_mayBits 0 = .ok (.aload_n 0, 1) := by decide +kernel
theorem dX7_mayBits_1 : decode cX7_mayBits 1 = .ok (.iload_n 1, 1) := by decide +kernel
theorem dX7_mayBits_2 : decode cX7_mayBits 2 = .ok (.iconst 0, 1) := by decide +kernel
theorem dX7_mayBits_3 : decode cX7_mayBits 3 = .ok (.invokevirtual 321, 3) := by decide +kernel
theorem dX7_mayBits_6 : decode cX7_mayBits 6 = .ok (.aload_n 0, 1) := by decide +kernel
theorem dX7_mayBits_7 : decode cX7_mayBits 7 = .ok (.invokevirtual 325, 3) := by decide +kernel
theorem dX7_mayBits_10 : decode cX7_mayBits 10 = .ok (.ifCond .ne 5, 3) := by decide +kernel
theorem dX7_mayBits_13 : decode cX7_mayBits 13 = .ok (.iconst 0, 1) := by decide +kernel
theorem dX7_mayBits_14 : decode cX7_mayBits 14 = .ok (.ireturn, 1) := by decide +kernel
theorem dX7_mayBits_15 : decode cX7_mayBits 15 = .ok (.iconst 0, 1) := by decide +kernel
theorem dX7_mayBits_16 : decode cX7_mayBits 16 = .ok (.istore_n 3, 1) := by decide +kernel
theorem dX7_mayBits_17 : decode cX7_mayBits 17 = .ok (.iconst 0, 1) := by decide +kernel
theorem dX7_mayBits_18 : decode cX7_mayBits 18 = .ok (.istore 4, 2) := by decide +kernel
theorem dX7_mayBits_20 : decode cX7_mayBits 20 = .ok (.iload 4, 2) := by decide +kernel
theorem dX7_mayBits_22 : decode cX7_mayBits 22 = .ok (.sipush 1120, 3) := by decide +kernel
theorem dX7_mayBits_25 : decode cX7_mayBits 25 = .ok (.if_icmp .ge 52, 3) := by decide +kernel
theorem dX7_mayBits_28 : decode cX7_mayBits 28 = .ok (.aload_n 0, 1) := by decide +kernel
theorem dX7_mayBits_29 : decode cX7_mayBits 29 = .ok (.getfield 104, 3) := by decide +kernel
theorem dX7_mayBits_32 : decode cX7_mayBits 32 = .ok (.iload_n 2, 1) := by decide +kernel
theorem dX7_mayBits_33 : decode cX7_mayBits 33 = .ok (.sipush 1120, 3) := by decide +kernel
theorem dX7_mayBits_36 : decode cX7_mayBits 36 = .ok (.imul, 1) := by decide +kernel
theorem dX7_mayBits_37 : decode cX7_mayBits 37 = .ok (.iload 4, 2) := by decide +kernel
theorem dX7_mayBits_39 : decode cX7_mayBits 39 = .ok (.iadd, 1) := by decide +kernel
theorem dX7_mayBits_40 : decode cX7_mayBits 40 = .ok (.baload, 1) := by decide +kernel
theorem dX7_mayBits_41 : decode cX7_mayBits 41 = .ok (.ifCond .eq 30, 3) := by decide +kernel
theorem dX7_mayBits_44 : decode cX7_mayBits 44 = .ok (.aload_n 0, 1) := by decide +kernel
theorem dX7_mayBits_45 : decode cX7_mayBits 45 = .ok (.getfield 98, 3) := by decide +kernel
theorem dX7_mayBits_48 : decode cX7_mayBits 48 = .ok (.iload_n 2, 1) := by decide +kernel
theorem dX7_mayBits_49 : decode cX7_mayBits 49 = .ok (.sipush 1120, 3) := by decide +kernel
theorem dX7_mayBits_52 : decode cX7_mayBits 52 = .ok (.imul, 1) := by decide +kernel
theorem dX7_mayBits_53 : decode cX7_mayBits 53 = .ok (.iload 4, 2) := by decide +kernel
theorem dX7_mayBits_55 : decode cX7_mayBits 55 = .ok (.iadd, 1) := by decide +kernel
theorem dX7_mayBits_56 : decode cX7_mayBits 56 = .ok (.iaload, 1) := by decide +kernel
theorem dX7_mayBits_57 : decode cX7_mayBits 57 = .ok (.ifCond .le 14, 3) := by decide +kernel
theorem dX7_mayBits_60 : decode cX7_mayBits 60 = .ok (.iload_n 3, 1) := by decide +kernel
theorem dX7_mayBits_61 : decode cX7_mayBits 61 = .ok (.iconst 1, 1) := by decide +kernel
theorem dX7_mayBits_62 : decode cX7_mayBits 62 = .ok (.iload 4, 2) := by decide +kernel
theorem dX7_mayBits_64 : decode cX7_mayBits 64 = .ok (.sipush 140, 3) := by decide +kernel
theorem dX7_mayBits_67 : decode cX7_mayBits 67 = .ok (.idiv, 1) := by decide +kernel
theorem dX7_mayBits_68 : decode cX7_mayBits 68 = .ok (.ishl, 1) := by decide +kernel
theorem dX7_mayBits_69 : decode cX7_mayBits 69 = .ok (.ior, 1) := by decide +kernel
theorem dX7_mayBits_70 : decode cX7_mayBits 70 = .ok (.istore_n 3, 1) := by decide +kernel
theorem dX7_mayBits_71 : decode cX7_mayBits 71 = .ok (.iinc 4 1, 3) := by decide +kernel
theorem dX7_mayBits_74 : decode cX7_mayBits 74 = .ok (.goto (-54), 3) := by decide +kernel
theorem dX7_mayBits_77 : decode cX7_mayBits 77 = .ok (.iconst 0, 1) := by decide +kernel
theorem dX7_mayBits_78 : decode cX7_mayBits 78 = .ok (.istore 4, 2) := by decide +kernel
theorem dX7_mayBits_80 : decode cX7_mayBits 80 = .ok (.iload 4, 2) := by decide +kernel
theorem dX7_mayBits_82 : decode cX7_mayBits 82 = .ok (.iload_n 2, 1) := by decide +kernel
theorem dX7_mayBits_83 : decode cX7_mayBits 83 = .ok (.if_icmp .ge 122, 3) := by decide +kernel
theorem dX7_mayBits_86 : decode cX7_mayBits 86 = .ok (.iconst 0, 1) := by decide +kernel
theorem dX7_mayBits_87 : decode cX7_mayBits 87 = .ok (.istore 5, 2) := by decide +kernel
theorem dX7_mayBits_89 : decode cX7_mayBits 89 = .ok (.iload 5, 2) := by decide +kernel
theorem dX7_mayBits_91 : decode cX7_mayBits 91 = .ok (.sipush 1120, 3) := by decide +kernel
theorem dX7_mayBits_94 : decode cX7_mayBits 94 = .ok (.if_icmp .ge 105, 3) := by decide +kernel
theorem dX7_mayBits_97 : decode cX7_mayBits 97 = .ok (.iload_n 3, 1) := by decide +kernel
theorem dX7_mayBits_98 : decode cX7_mayBits 98 = .ok (.sipush 256, 3) := by decide +kernel
theorem dX7_mayBits_101 : decode cX7_mayBits 101 = .ok (.if_icmp .ge 98, 3) := by decide +kernel
theorem dX7_mayBits_104 : decode cX7_mayBits 104 = .ok (.aload_n 0, 1) := by decide +kernel
theorem dX7_mayBits_105 : decode cX7_mayBits 105 = .ok (.getfield 104, 3) := by decide +kernel
theorem dX7_mayBits_108 : decode cX7_mayBits 108 = .ok (.iload 4, 2) := by decide +kernel
theorem dX7_mayBits_110 : decode cX7_mayBits 110 = .ok (.sipush 1120, 3) := by decide +kernel
theorem dX7_mayBits_113 : decode cX7_mayBits 113 = .ok (.imul, 1) := by decide +kernel
theorem dX7_mayBits_114 : decode cX7_mayBits 114 = .ok (.iload 5, 2) := by decide +kernel
theorem dX7_mayBits_116 : decode cX7_mayBits 116 = .ok (.iadd, 1) := by decide +kernel
theorem dX7_mayBits_117 : decode cX7_mayBits 117 = .ok (.baload, 1) := by decide +kernel
theorem dX7_mayBits_118 : decode cX7_mayBits 118 = .ok (.ifCond .ne 6, 3) := by decide +kernel
theorem dX7_mayBits_121 : decode cX7_mayBits 121 = .ok (.goto 72, 3) := by decide +kernel
theorem dX7_mayBits_124 : decode cX7_mayBits 124 = .ok (.iconst 0, 1) := by decide +kernel
theorem dX7_mayBits_125 : decode cX7_mayBits 125 = .ok (.istore 6, 2) := by decide +kernel
theorem dX7_mayBits_127 : decode cX7_mayBits 127 = .ok (.iload 6, 2) := by decide +kernel
theorem dX7_mayBits_129 : decode cX7_mayBits 129 = .ok (.aload_n 0, 1) := by decide +kernel
theorem dX7_mayBits_130 : decode cX7_mayBits 130 = .ok (.getfield 250, 3) := by decide +kernel
theorem dX7_mayBits_133 : decode cX7_mayBits 133 = .ok (.if_icmp .ge 60, 3) := by decide +kernel
theorem dX7_mayBits_136 : decode cX7_mayBits 136 = .ok (.aload_n 0, 1) := by decide +kernel
theorem dX7_mayBits_137 : decode cX7_mayBits 137 = .ok (.iload 4, 2) := by decide +kernel
theorem dX7_mayBits_139 : decode cX7_mayBits 139 = .ok (.iload 5, 2) := by decide +kernel
theorem dX7_mayBits_141 : decode cX7_mayBits 141 = .ok (.iload 6, 2) := by decide +kernel
theorem dX7_mayBits_143 : decode cX7_mayBits 143 = .ok (.invokevirtual 310, 3) := by decide +kernel
theorem dX7_mayBits_146 : decode cX7_mayBits 146 = .ok (.istore 7, 2) := by decide +kernel
theorem dX7_mayBits_148 : decode cX7_mayBits 148 = .ok (.iload 7, 2) := by decide +kernel
theorem dX7_mayBits_150 : decode cX7_mayBits 150 = .ok (.iconst (-1), 1) := by decide +kernel
theorem dX7_mayBits_151 : decode cX7_mayBits 151 = .ok (.if_icmp .eq 36, 3) := by decide +kernel
theorem dX7_mayBits_154 : decode cX7_mayBits 154 = .ok (.aload_n 0, 1) := by decide +kernel
theorem dX7_mayBits_155 : decode cX7_mayBits 155 = .ok (.getfield 297, 3) := by decide +kernel
theorem dX7_mayBits_158 : decode cX7_mayBits 158 = .ok (.iload_n 2, 1) := by decide +kernel
theorem dX7_mayBits_159 : decode cX7_mayBits 159 = .ok (.if_icmp .le 28, 3) := by decide +kernel
theorem dX7_mayBits_162 : decode cX7_mayBits 162 = .ok (.aload_n 0, 1) := by decide +kernel
theorem dX7_mayBits_163 : decode cX7_mayBits 163 = .ok (.getfield 98, 3) := by decide +kernel
theorem dX7_mayBits_166 : decode cX7_mayBits 166 = .ok (.aload_n 0, 1) := by decide +kernel
theorem dX7_mayBits_167 : decode cX7_mayBits 167 = .ok (.getfield 297, 3) := by decide +kernel
theorem dX7_mayBits_170 : decode cX7_mayBits 170 = .ok (.sipush 1120, 3) := by decide +kernel
theorem dX7_mayBits_173 : decode cX7_mayBits 173 = .ok (.imul, 1) := by decide +kernel
theorem dX7_mayBits_174 : decode cX7_mayBits 174 = .ok (.iload 7, 2) := by decide +kernel
theorem dX7_mayBits_176 : decode cX7_mayBits 176 = .ok (.iadd, 1) := by decide +kernel
theorem dX7_mayBits_177 : decode cX7_mayBits 177 = .ok (.iaload, 1) := by decide +kernel
theorem dX7_mayBits_178 : decode cX7_mayBits 178 = .ok (.ifCond .le 9, 3) := by decide +kernel
theorem dX7_mayBits_181 : decode cX7_mayBits 181 = .ok (.iload_n 3, 1) := by decide +kernel
theorem dX7_mayBits_182 : decode cX7_mayBits 182 = .ok (.sipush 256, 3) := by decide +kernel
theorem dX7_mayBits_185 : decode cX7_mayBits 185 = .ok (.ior, 1) := by decide +kernel
theorem dX7_mayBits_186 : decode cX7_mayBits 186 = .ok (.istore_n 3, 1) := by decide +kernel
theorem dX7_mayBits_187 : decode cX7_mayBits 187 = .ok (.iinc 6 1, 3) := by decide +kernel
theorem dX7_mayBits_190 : decode cX7_mayBits 190 = .ok (.goto (-63), 3) := by decide +kernel
theorem dX7_mayBits_193 : decode cX7_mayBits 193 = .ok (.iinc 5 1, 3) := by decide +kernel
theorem dX7_mayBits_196 : decode cX7_mayBits 196 = .ok (.goto (-107), 3) := by decide +kernel
theorem dX7_mayBits_199 : decode cX7_mayBits 199 = .ok (.iinc 4 1, 3) := by decide +kernel
theorem dX7_mayBits_202 : decode cX7_mayBits 202 = .ok (.goto (-122), 3) := by decide +kernel
theorem dX7_mayBits_205 : decode cX7_mayBits 205 = .ok (.iload_n 3, 1) := by decide +kernel
theorem dX7_mayBits_206 : decode cX7_mayBits 206 = .ok (.ireturn, 1) := by decide +kernel
theorem dX7_ones_0 : decode cX7_ones 0 = .ok (.iconst 0, 1) := by decide +kernel
theorem dX7_ones_1 : decode cX7_ones 1 = .ok (.istore_n 1, 1) := by decide +kernel
theorem dX7_ones_2 : decode cX7_ones 2 = .ok (.iconst 0, 1) := by decide +kernel
theorem dX7_ones_3 : decode cX7_ones 3 = .ok (.istore_n 2, 1) := by decide +kernel
theorem dX7_ones_4 : decode cX7_ones 4 = .ok (.iload_n 2, 1) := by decide +kernel
theorem dX7_ones_5 : decode cX7_ones 5 = .ok (.bipush 16, 2) := by decide +kernel
theorem dX7_ones_7 : decode cX7_ones 7 = .ok (.if_icmp .ge 17, 3) := by decide +kernel
theorem dX7_ones_10 : decode cX7_ones 10 = .ok (.iload_n 1, 1) := by decide +kernel
theorem dX7_ones_11 : decode cX7_ones 11 = .ok (.iload_n 0, 1) := by decide +kernel
theorem dX7_ones_12 : decode cX7_ones 12 = .ok (.iload_n 2, 1) := by decide +kernel
theorem dX7_ones_13 : decode cX7_ones 13 = .ok (.ishr, 1) := by decide +kernel
theorem dX7_ones_14 : decode cX7_ones 14 = .ok (.iconst 1, 1) := by decide +kernel
theorem dX7_ones_15 : decode cX7_ones 15 = .ok (.iand, 1) := by decide +kernel
theorem dX7_ones_16 : decode cX7_ones 16 = .ok (.iadd, 1) := by decide +kernel
theorem dX7_ones_17 : decode cX7_ones 17 = .ok (.istore_n 1, 1) := by decide +kernel
theorem dX7_ones_18 : decode cX7_ones 18 = .ok (.iinc 2 1, 3) := by decide +kernel
theorem dX7_ones_21 : decode cX7_ones 21 = .ok (.goto (-17), 3) := by decide +kernel
theorem dX7_ones_24 : decode cX7_ones 24 = .ok (.iload_n 1, 1) := by decide +kernel
theorem dX7_ones_25 : decode cX7_ones 25 = .ok (.ireturn, 1) := by decide +kernel
theorem dX7_may_0 : decode cX7_may 0 = .ok (.aload_n 0, 1) := by decide +kernel
theorem dX7_may_1 : decode cX7_may 1 = .ok (.iload_n 1, 1) := by decide +kernel
theorem dX7_may_2 : decode cX7_may 2 = .ok (.invokevirtual 256, 3) := by decide +kernel
theorem dX7_may_5 : decode cX7_may 5 = .ok (.ifCond .eq 26, 3) := by decide +kernel
theorem dX7_may_8 : decode cX7_may 8 = .ok (.iload_n 2, 1) := by decide +kernel
theorem dX7_may_9 : decode cX7_may 9 = .ok (.iconst 0, 1) := by decide +kernel
theorem dX7_may_10 : decode cX7_may 10 = .ok (.aload_n 0, 1) := by decide +kernel
theorem dX7_may_11 : decode cX7_may 11 = .ok (.getfield 51, 3) := by decide +kernel
theorem dX7_may_14 : decode cX7_may 14 = .ok (.iload_n 1, 1) := by decide +kernel
theorem dX7_may_15 : decode cX7_may 15 = .ok (.iaload, 1) := by decide +kernel
theorem dX7_may_16 : decode cX7_may 16 = .ok (.invokestatic 117, 3) := by decide +kernel
theorem dX7_may_19 : decode cX7_may 19 = .ok (.ifCond .eq 12, 3) := by decide +kernel
theorem dX7_may_22 : decode cX7_may 22 = .ok (.aload_n 0, 1) := by decide +kernel
theorem dX7_may_23 : decode cX7_may 23 = .ok (.iload_n 1, 1) := by decide +kernel
theorem dX7_may_24 : decode cX7_may 24 = .ok (.iload_n 2, 1) := by decide +kernel
theorem dX7_may_25 : decode cX7_may 25 = .ok (.invokevirtual 328, 3) := by decide +kernel
theorem dX7_may_28 : decode cX7_may 28 = .ok (.goto 4, 3) := by decide +kernel
theorem dX7_may_31 : decode cX7_may 31 = .ok (.iconst (-1), 1) := by decide +kernel
theorem dX7_may_32 : decode cX7_may 32 = .ok (.ireturn, 1) := by decide +kernel
theorem dX7_surely_0 : decode cX7_surely 0 = .ok (.aload_n 0, 1) := by decide +kernel
theorem dX7_surely_1 : decode cX7_surely 1 = .ok (.iload_n 1, 1) := by decide +kernel
theorem dX7_surely_2 : decode cX7_surely 2 = .ok (.invokevirtual 256, 3) := by decide +kernel
theorem dX7_surely_5 : decode cX7_surely 5 = .ok (.ifCond .eq 17, 3) := by decide +kernel
theorem dX7_surely_8 : decode cX7_surely 8 = .ok (.iload_n 2, 1) := by decide +kernel
theorem dX7_surely_9 : decode cX7_surely 9 = .ok (.iconst 0, 1) := by decide +kernel
theorem dX7_surely_10 : decode cX7_surely 10 = .ok (.aload_n 0, 1) := by decide +kernel
theorem dX7_surely_11 : decode cX7_surely 11 = .ok (.getfield 51, 3) := by decide +kernel
theorem dX7_surely_14 : decode cX7_surely 14 = .ok (.iload_n 1, 1) := by decide +kernel
theorem dX7_surely_15 : decode cX7_surely 15 = .ok (.iaload, 1) := by decide +kernel
theorem dX7_surely_16 : decode cX7_surely 16 = .ok (.invokestatic 117, 3) := by decide +kernel
theorem dX7_surely_19 : decode cX7_surely 19 = .ok (.ifCond .ne 5, 3) := by decide +kernel
theorem dX7_surely_22 : decode cX7_surely 22 = .ok (.iconst (-1), 1) := by decide +kernel
theorem dX7_surely_23 : decode cX7_surely 23 = .ok (.ireturn, 1) := by decide +kernel
theorem dX7_surely_24 : decode cX7_surely 24 = .ok (.aload_n 0, 1) := by decide +kernel
theorem dX7_surely_25 : decode cX7_surely 25 = .ok (.iload_n 1, 1) := by decide +kernel
theorem dX7_surely_26 : decode cX7_surely 26 = .ok (.iload_n 2, 1) := by decide +kernel
theorem dX7_surely_27 : decode cX7_surely 27 = .ok (.invokevirtual 328, 3) := by decide +kernel
theorem dX7_surely_30 : decode cX7_surely 30 = .ok (.istore_n 3, 1) := by decide +kernel
theorem dX7_surely_31 : decode cX7_surely 31 = .ok (.iload_n 3, 1) := by decide +kernel
theorem dX7_surely_32 : decode cX7_surely 32 = .ok (.invokestatic 331, 3) := by decide +kernel
theorem dX7_surely_35 : decode cX7_surely 35 = .ok (.iconst 1, 1) := by decide +kernel
theorem dX7_surely_36 : decode cX7_surely 36 = .ok (.if_icmp .ne 10, 3) := by decide +kernel
theorem dX7_surely_39 : decode cX7_surely 39 = .ok (.iload_n 3, 1) := by decide +kernel
theorem dX7_surely_40 : decode cX7_surely 40 = .ok (.sipush 256, 3) := by decide +kernel
theorem dX7_surely_43 : decode cX7_surely 43 = .ok (.if_icmp .ne 5, 3) := by decide +kernel
theorem dX7_surely_46 : decode cX7_surely 46 = .ok (.iconst (-1), 1) := by decide +kernel
theorem dX7_surely_47 : decode cX7_surely 47 = .ok (.ireturn, 1) := by decide +kernel
theorem dX7_surely_48 : decode cX7_surely 48 = .ok (.iconst 0, 1) := by decide +kernel
theorem dX7_surely_49 : decode cX7_surely 49 = .ok (.istore 4, 2) := by decide +kernel
theorem dX7_surely_51 : decode cX7_surely 51 = .ok (.iload_n 3, 1) := by decide +kernel
theorem dX7_surely_52 : decode cX7_surely 52 = .ok (.iload 4, 2) := by decide +kernel
theorem dX7_surely_54 : decode cX7_surely 54 = .ok (.ishr, 1) := by decide +kernel
theorem dX7_surely_55 : decode cX7_surely 55 = .ok (.iconst 1, 1) := by decide +kernel
theorem dX7_surely_56 : decode cX7_surely 56 = .ok (.if_icmp .eq 9, 3) := by decide +kernel
theorem dX7_surely_59 : decode cX7_surely 59 = .ok (.iinc 4 1, 3) := by decide +kernel
theorem dX7_surely_62 : decode cX7_surely 62 = .ok (.goto (-11), 3) := by decide +kernel
theorem dX7_surely_65 : decode cX7_surely 65 = .ok (.iload 4, 2) := by decide +kernel
theorem dX7_surely_67 : decode cX7_surely 67 = .ok (.ireturn, 1) := by decide +kernel
theorem dX7_leasts_0 : decode cX7_leasts 0 = .ok (.aload_n 0, 1) := by decide +kernel
theorem dX7_leasts_1 : decode cX7_leasts 1 = .ok (.getfield 51, 3) := by decide +kernel
theorem dX7_leasts_4 : decode cX7_leasts 4 = .ok (.aload_n 0, 1) := by decide +kernel
theorem dX7_leasts_5 : decode cX7_leasts 5 = .ok (.getfield 279, 3) := by decide +kernel
theorem dX7_leasts_8 : decode cX7_leasts 8 = .ok (.iaload, 1) := by decide +kernel
theorem dX7_leasts_9 : decode cX7_leasts 9 = .ok (.istore_n 3, 1) := by decide +kernel
theorem dX7_leasts_10 : decode cX7_leasts 10 = .ok (.iload_n 3, 1) := by decide +kernel
theorem dX7_leasts_11 : decode cX7_leasts 11 = .ok (.ifCond .lt 212, 3) := by decide +kernel
theorem dX7_leasts_14 : decode cX7_leasts 14 = .ok (.iconst 0, 1) := by decide +kernel
theorem dX7_leasts_15 : decode cX7_leasts 15 = .ok (.istore 4, 2) := by decide +kernel
theorem dX7_leasts_17 : decode cX7_leasts 17 = .ok (.iload 4, 2) := by decide +kernel
theorem dX7_leasts_19 : decode cX7_leasts 19 = .ok (.sipush 1120, 3) := by decide +kernel
theorem dX7_leasts_22 : decode cX7_leasts 22 = .ok (.if_icmp .ge 195, 3) := by decide +kernel
theorem dX7_leasts_25 : decode cX7_leasts 25 = .ok (.iload_n 3, 1) := by decide +kernel
theorem dX7_leasts_26 : decode cX7_leasts 26 = .ok (.sipush 1120, 3) := by decide +kernel
theorem dX7_leasts_29 : decode cX7_leasts 29 = .ok (.imul, 1) := by decide +kernel
theorem dX7_leasts_30 : decode cX7_leasts 30 = .ok (.iload 4, 2) := by decide +kernel
theorem dX7_leasts_32 : decode cX7_leasts 32 = .ok (.iadd, 1) := by decide +kernel
theorem dX7_leasts_33 : decode cX7_leasts 33 = .ok (.istore 5, 2) := by decide +kernel
theorem dX7_leasts_35 : decode cX7_leasts 35 = .ok (.aload_n 0, 1) := by decide +kernel
theorem dX7_leasts_36 : decode cX7_leasts 36 = .ok (.getfield 101, 3) := by decide +kernel
theorem dX7_leasts_39 : decode cX7_leasts 39 = .ok (.iload 5, 2) := by decide +kernel
theorem dX7_leasts_41 : decode cX7_leasts 41 = .ok (.ldc_w 335, 3) := by decide +kernel
theorem dX7_leasts_44 : decode cX7_leasts 44 = .ok (.iastore, 1) := by decide +kernel
theorem dX7_leasts_45 : decode cX7_leasts 45 = .ok (.aload_n 0, 1) := by decide +kernel
theorem dX7_leasts_46 : decode cX7_leasts 46 = .ok (.getfield 104, 3) := by decide +kernel
theorem dX7_leasts_49 : decode cX7_leasts 49 = .ok (.iload 5, 2) := by decide +kernel
theorem dX7_leasts_51 : decode cX7_leasts 51 = .ok (.baload, 1) := by decide +kernel
theorem dX7_leasts_52 : decode cX7_leasts 52 = .ok (.ifCond .eq 159, 3) := by decide +kernel
theorem dX7_leasts_55 : decode cX7_leasts 55 = .ok (.aload_n 0, 1) := by decide +kernel
theorem dX7_leasts_56 : decode cX7_leasts 56 = .ok (.getfield 98, 3) := by decide +kernel
theorem dX7_leasts_59 : decode cX7_leasts 59 = .ok (.iload 5, 2) := by decide +kernel
theorem dX7_leasts_61 : decode cX7_leasts 61 = .ok (.iaload, 1) := by decide +kernel
theorem dX7_leasts_62 : decode cX7_leasts 62 = .ok (.ifCond .ne 6, 3) := by decide +kernel
theorem dX7_leasts_65 : decode cX7_leasts 65 = .ok (.goto 146, 3) := by decide +kernel
theorem dX7_leasts_68 : decode cX7_leasts 68 = .ok (.iload_n 3, 1) := by decide +kernel
theorem dX7_leasts_69 : decode cX7_leasts 69 = .ok (.aload_n 0, 1) := by decide +kernel
theorem dX7_leasts_70 : decode cX7_leasts 70 = .ok (.getfield 51, 3) := by decide +kernel
theorem dX7_leasts_73 : decode cX7_leasts 73 = .ok (.aload_n 0, 1) := by decide +kernel
theorem dX7_leasts_74 : decode cX7_leasts 74 = .ok (.getfield 279, 3) := by decide +kernel
theorem dX7_leasts_77 : decode cX7_leasts 77 = .ok (.iaload, 1) := by decide +kernel
theorem dX7_leasts_78 : decode cX7_leasts 78 = .ok (.if_icmp .ne 14, 3) := by decide +kernel
theorem dX7_leasts_81 : decode cX7_leasts 81 = .ok (.aload_n 0, 1) := by decide +kernel
theorem dX7_leasts_82 : decode cX7_leasts 82 = .ok (.getfield 101, 3) := by decide +kernel
theorem dX7_leasts_85 : decode cX7_leasts 85 = .ok (.iload 5, 2) := by decide +kernel
theorem dX7_leasts_87 : decode cX7_leasts 87 = .ok (.iconst 0, 1) := by decide +kernel
theorem dX7_leasts_88 : decode cX7_leasts 88 = .ok (.iastore, 1) := by decide +kernel
theorem dX7_leasts_89 : decode cX7_leasts 89 = .ok (.goto 122, 3) := by decide +kernel
theorem dX7_leasts_92 : decode cX7_leasts 92 = .ok (.iconst (-1), 1) := by decide +kernel
theorem dX7_leasts_93 : decode cX7_leasts 93 = .ok (.istore 6, 2) := by decide +kernel
theorem dX7_leasts_95 : decode cX7_leasts 95 = .ok (.iload 6, 2) := by decide +kernel
theorem dX7_leasts_97 : decode cX7_leasts 97 = .ok (.aload_n 0, 1) := by decide +kernel
theorem dX7_leasts_98 : decode cX7_leasts 98 = .ok (.getfield 250, 3) := by decide +kernel
theorem dX7_leasts_101 : decode cX7_leasts 101 = .ok (.if_icmp .ge 110, 3) := by decide +kernel
theorem dX7_leasts_104 : decode cX7_leasts 104 = .ok (.aload_n 0, 1) := by decide +kernel
theorem dX7_leasts_105 : decode cX7_leasts 105 = .ok (.iload_n 3, 1) := by decide +kernel
theorem dX7_leasts_106 : decode cX7_leasts 106 = .ok (.iload 4, 2) := by decide +kernel
theorem dX7_leasts_108 : decode cX7_leasts 108 = .ok (.iload 6, 2) := by decide +kernel
theorem dX7_leasts_110 : decode cX7_leasts 110 = .ok (.invokevirtual 310, 3) := by decide +kernel
theorem dX7_leasts_113 : decode cX7_leasts 113 = .ok (.istore 7, 2) := by decide +kernel
theorem dX7_leasts_115 : decode cX7_leasts 115 = .ok (.iload 7, 2) := by decide +kernel
theorem dX7_leasts_117 : decode cX7_leasts 117 = .ok (.iconst (-1), 1) := by decide +kernel
theorem dX7_leasts_118 : decode cX7_leasts 118 = .ok (.if_icmp .eq 87, 3) := by decide +kernel
theorem dX7_leasts_121 : decode cX7_leasts 121 = .ok (.aload_n 0, 1) := by decide +kernel
theorem dX7_leasts_122 : decode cX7_leasts 122 = .ok (.getfield 101, 3) := by decide +kernel
theorem dX7_leasts_125 : decode cX7_leasts 125 = .ok (.aload_n 0, 1) := by decide +kernel
theorem dX7_leasts_126 : decode cX7_leasts 126 = .ok (.getfield 297, 3) := by decide +kernel
theorem dX7_leasts_129 : decode cX7_leasts 129 = .ok (.sipush 1120, 3) := by decide +kernel
theorem dX7_leasts_132 : decode cX7_leasts 132 = .ok (.imul, 1) := by decide +kernel
theorem dX7_leasts_133 : decode cX7_leasts 133 = .ok (.iload 7, 2) := by decide +kernel
theorem dX7_leasts_135 : decode cX7_leasts 135 = .ok (.iadd, 1) := by decide +kernel
theorem dX7_leasts_136 : decode cX7_leasts 136 = .ok (.iaload, 1) := by decide +kernel
theorem dX7_leasts_137 : decode cX7_leasts 137 = .ok (.ldc_w 335, 3) := by decide +kernel
theorem dX7_leasts_140 : decode cX7_leasts 140 = .ok (.if_icmp .ne 6, 3) := by decide +kernel
theorem dX7_leasts_143 : decode cX7_leasts 143 = .ok (.goto 62, 3) := by decide +kernel
theorem dX7_leasts_146 : decode cX7_leasts 146 = .ok (.aload_n 0, 1) := by decide +kernel
theorem dX7_leasts_147 : decode cX7_leasts 147 = .ok (.getfield 101, 3) := by decide +kernel
theorem dX7_leasts_150 : decode cX7_leasts 150 = .ok (.aload_n 0, 1) := by decide +kernel
theorem dX7_leasts_151 : decode cX7_leasts 151 = .ok (.getfield 297, 3) := by decide +kernel
theorem dX7_leasts_154 : decode cX7_leasts 154 = .ok (.sipush 1120, 3) := by decide +kernel
theorem dX7_leasts_157 : decode cX7_leasts 157 = .ok (.imul, 1) := by decide +kernel
theorem dX7_leasts_158 : decode cX7_leasts 158 = .ok (.iload 7, 2) := by decide +kernel
theorem dX7_leasts_160 : decode cX7_leasts 160 = .ok (.iadd, 1) := by decide +kernel
theorem dX7_leasts_161 : decode cX7_leasts 161 = .ok (.iaload, 1) := by decide +kernel
theorem dX7_leasts_162 : decode cX7_leasts 162 = .ok (.iload_n 2, 1) := by decide +kernel
theorem dX7_leasts_163 : decode cX7_leasts 163 = .ok (.aload_n 0, 1) := by decide +kernel
theorem dX7_leasts_164 : decode cX7_leasts 164 = .ok (.iload 6, 2) := by decide +kernel
theorem dX7_leasts_166 : decode cX7_leasts 166 = .ok (.iload_n 1, 1) := by decide +kernel
theorem dX7_leasts_167 : decode cX7_leasts 167 = .ok (.invokevirtual 336, 3) := by decide +kernel
theorem dX7_leasts_170 : decode cX7_leasts 170 = .ok (.imul, 1) := by decide +kernel
theorem dX7_leasts_171 : decode cX7_leasts 171 = .ok (.iadd, 1) := by decide +kernel
theorem dX7_leasts_172 : decode cX7_leasts 172 = .ok (.istore 8, 2) := by decide +kernel
theorem dX7_leasts_174 : decode cX7_leasts 174 = .ok (.aload_n 0, 1) := by decide +kernel
theorem dX7_leasts_175 : decode cX7_leasts 175 = .ok (.getfield 101, 3) := by decide +kernel
theorem dX7_leasts_178 : decode cX7_leasts 178 = .ok (.iload 5, 2) := by decide +kernel
theorem dX7_leasts_180 : decode cX7_leasts 180 = .ok (.iload 8, 2) := by decide +kernel
theorem dX7_leasts_182 : decode cX7_leasts 182 = .ok (.aload_n 0, 1) := by decide +kernel
theorem dX7_leasts_183 : decode cX7_leasts 183 = .ok (.getfield 101, 3) := by decide +kernel
theorem dX7_leasts_186 : decode cX7_leasts 186 = .ok (.iload 5, 2) := by decide +kernel
theorem dX7_leasts_188 : decode cX7_leasts 188 = .ok (.iaload, 1) := by decide +kernel
theorem dX7_leasts_189 : decode cX7_leasts 189 = .ok (.if_icmp .ge 8, 3) := by decide +kernel
theorem dX7_leasts_192 : decode cX7_leasts 192 = .ok (.iload 8, 2) := by decide +kernel
theorem dX7_leasts_194 : decode cX7_leasts 194 = .ok (.goto 10, 3) := by decide +kernel
theorem dX7_leasts_197 : decode cX7_leasts 197 = .ok (.aload_n 0, 1) := by decide +kernel
theorem dX7_leasts_198 : decode cX7_leasts 198 = .ok (.getfield 101, 3) := by decide +kernel
theorem dX7_leasts_201 : decode cX7_leasts 201 = .ok (.iload 5, 2) := by decide +kernel
theorem dX7_leasts_203 : decode cX7_leasts 203 = .ok (.iaload, 1) := by decide +kernel
theorem dX7_leasts_204 : decode cX7_leasts 204 = .ok (.iastore, 1) := by decide +kernel
theorem dX7_leasts_205 : decode cX7_leasts 205 = .ok (.iinc 6 1, 3) := by decide +kernel
theorem dX7_leasts_208 : decode cX7_leasts 208 = .ok (.goto (-113), 3) := by decide +kernel
theorem dX7_leasts_211 : decode cX7_leasts 211 = .ok (.iinc 4 1, 3) := by decide +kernel
theorem dX7_leasts_214 : decode cX7_leasts 214 = .ok (.goto (-197), 3) := by decide +kernel
theorem dX7_leasts_217 : decode cX7_leasts 217 = .ok (.iinc 3 (-1), 3) := by decide +kernel
theorem dX7_leasts_220 : decode cX7_leasts 220 = .ok (.goto (-210), 3) := by decide +kernel
theorem dX7_leasts_223 : decode cX7_leasts 223 = .ok (.iload_n 2, 1) := by decide +kernel
theorem dX7_leasts_224 : decode cX7_leasts 224 = .ok (.aload_n 0, 1) := by decide +kernel
theorem dX7_leasts_225 : decode cX7_leasts 225 = .ok (.getfield 101, 3) := by decide +kernel
theorem dX7_leasts_228 : decode cX7_leasts 228 = .ok (.aload_n 0, 1) := by decide +kernel
theorem dX7_leasts_229 : decode cX7_leasts 229 = .ok (.invokevirtual 307, 3) := by decide +kernel
theorem dX7_leasts_232 : decode cX7_leasts 232 = .ok (.iaload, 1) := by decide +kernel
theorem dX7_leasts_233 : decode cX7_leasts 233 = .ok (.imul, 1) := by decide +kernel
theorem dX7_leasts_234 : decode cX7_leasts 234 = .ok (.ireturn, 1) := by decide +kernel
theorem dX7_price_0 : decode cX7_price 0 = .ok (.iload_n 1, 1) := by decide +kernel
theorem dX7_price_1 : decode cX7_price 1 = .ok (.iconst (-1), 1) := by decide +kernel
theorem dX7_price_2 : decode cX7_price 2 = .ok (.if_icmp .ne 7, 3) := by decide +kernel
theorem dX7_price_5 : decode cX7_price 5 = .ok (.iconst 0, 1) := by decide +kernel
theorem dX7_price_6 : decode cX7_price 6 = .ok (.goto 17, 3) := by decide +kernel
theorem dX7_price_9 : decode cX7_price 9 = .ok (.iload_n 2, 1) := by decide +kernel
theorem dX7_price_10 : decode cX7_price 10 = .ok (.ifCond .eq 12, 3) := by decide +kernel
theorem dX7_price_13 : decode cX7_price 13 = .ok (.aload_n 0, 1) := by decide +kernel
theorem dX7_price_14 : decode cX7_price 14 = .ok (.iload_n 1, 1) := by decide +kernel
theorem dX7_price_15 : decode cX7_price 15 = .ok (.iconst 4, 1) := by decide +kernel
theorem dX7_price_16 : decode cX7_price 16 = .ok (.invokevirtual 276, 3) := by decide +kernel
theorem dX7_price_19 : decode cX7_price 19 = .ok (.goto 4, 3) := by decide +kernel
theorem dX7_price_22 : decode cX7_price 22 = .ok (.iconst 1, 1) := by decide +kernel
theorem dX7_price_23 : decode cX7_price 23 = .ok (.ireturn, 1) := by decide +kernel
theorem dX7_extreme_0 : decode cX7_extreme 0 = .ok (.aload_n 0, 1) := by decide +kernel
theorem dX7_extreme_1 : decode cX7_extreme 1 = .ok (.iload_n 1, 1) := by decide +kernel
theorem dX7_extreme_2 : decode cX7_extreme 2 = .ok (.invokevirtual 256, 3) := by decide +kernel
theorem dX7_extreme_5 : decode cX7_extreme 5 = .ok (.ifCond .eq 12, 3) := by decide +kernel
theorem dX7_extreme_8 : decode cX7_extreme 8 = .ok (.iload_n 2, 1) := by decide +kernel
theorem dX7_extreme_9 : decode cX7_extreme 9 = .ok (.iconst 0, 1) := by decide +kernel
theorem dX7_extreme_10 : decode cX7_extreme 10 = .ok (.iconst 3, 1) := by decide +kernel
theorem dX7_extreme_11 : decode cX7_extreme 11 = .ok (.invokestatic 117, 3) := by decide +kernel
theorem dX7_extreme_14 : decode cX7_extreme 14 = .ok (.ifCond .ne 5, 3) := by decide +kernel
theorem dX7_extreme_17 : decode cX7_extreme 17 = .ok (.iconst (-1), 1) := by decide +kernel
theorem dX7_extreme_18 : decode cX7_extreme 18 = .ok (.ireturn, 1) := by decide +kernel
theorem dX7_extreme_19 : decode cX7_extreme 19 = .ok (.aload_n 0, 1) := by decide +kernel
theorem dX7_extreme_20 : decode cX7_extreme 20 = .ok (.iload_n 1, 1) := by decide +kernel
theorem dX7_extreme_21 : decode cX7_extreme 21 = .ok (.iconst 0, 1) := by decide +kernel
theorem dX7_extreme_22 : decode cX7_extreme 22 = .ok (.invokevirtual 321, 3) := by decide +kernel
theorem dX7_extreme_25 : decode cX7_extreme 25 = .ok (.aload_n 0, 1) := by decide +kernel
theorem dX7_extreme_26 : decode cX7_extreme 26 = .ok (.invokevirtual 325, 3) := by decide +kernel
theorem dX7_extreme_29 : decode cX7_extreme 29 = .ok (.ifCond .ne 7, 3) := by decide +kernel
theorem dX7_extreme_32 : decode cX7_extreme 32 = .ok (.iconst (-1), 1) := by decide +kernel
theorem dX7_extreme_33 : decode cX7_extreme 33 = .ok (.goto 28, 3) := by decide +kernel
theorem dX7_extreme_36 : decode cX7_extreme 36 = .ok (.aload_n 0, 1) := by decide +kernel
theorem dX7_extreme_37 : decode cX7_extreme 37 = .ok (.iload_n 2, 1) := by decide +kernel
theorem dX7_extreme_38 : decode cX7_extreme 38 = .ok (.iconst 2, 1) := by decide +kernel
theorem dX7_extreme_39 : decode cX7_extreme 39 = .ok (.if_icmp .ge 7, 3) := by decide +kernel
theorem dX7_extreme_42 : decode cX7_extreme 42 = .ok (.iconst 1, 1) := by decide +kernel
theorem dX7_extreme_43 : decode cX7_extreme 43 = .ok (.goto 4, 3) := by decide +kernel
theorem dX7_extreme_46 : decode cX7_extreme 46 = .ok (.iconst 0, 1) := by decide +kernel
theorem dX7_extreme_47 : decode cX7_extreme 47 = .ok (.iload_n 2, 1) := by decide +kernel
theorem dX7_extreme_48 : decode cX7_extreme 48 = .ok (.iconst 2, 1) := by decide +kernel
theorem dX7_extreme_49 : decode cX7_extreme 49 = .ok (.irem, 1) := by decide +kernel
theorem dX7_extreme_50 : decode cX7_extreme 50 = .ok (.ifCond .ne 7, 3) := by decide +kernel
theorem dX7_extreme_53 : decode cX7_extreme 53 = .ok (.iconst 1, 1) := by decide +kernel
theorem dX7_extreme_54 : decode cX7_extreme 54 = .ok (.goto 4, 3) := by decide +kernel
theorem dX7_extreme_57 : decode cX7_extreme 57 = .ok (.iconst (-1), 1) := by decide +kernel
theorem dX7_extreme_58 : decode cX7_extreme 58 = .ok (.invokevirtual 340, 3) := by decide +kernel
theorem dX7_extreme_61 : decode cX7_extreme 61 = .ok (.ireturn, 1) := by decide +kernel
theorem dX7_tale_0 : decode cX7_tale 0 = .ok (.aload_n 0, 1) := by decide +kernel
theorem dX7_tale_1 : decode cX7_tale 1 = .ok (.iload_n 1, 1) := by decide +kernel
theorem dX7_tale_2 : decode cX7_tale 2 = .ok (.invokevirtual 256, 3) := by decide +kernel
theorem dX7_tale_5 : decode cX7_tale 5 = .ok (.ifCond .eq 8, 3) := by decide +kernel
theorem dX7_tale_8 : decode cX7_tale 8 = .ok (.iload_n 2, 1) := by decide +kernel
theorem dX7_tale_9 : decode cX7_tale 9 = .ok (.iconst (-1), 1) := by decide +kernel
theorem dX7_tale_10 : decode cX7_tale 10 = .ok (.if_icmp .ge 5, 3) := by decide +kernel
theorem dX7_tale_13 : decode cX7_tale 13 = .ok (.iconst (-1), 1) := by decide +kernel
theorem dX7_tale_14 : decode cX7_tale 14 = .ok (.ireturn, 1) := by decide +kernel
theorem dX7_tale_15 : decode cX7_tale 15 = .ok (.aload_n 0, 1) := by decide +kernel
theorem dX7_tale_16 : decode cX7_tale 16 = .ok (.iload_n 1, 1) := by decide +kernel
theorem dX7_tale_17 : decode cX7_tale 17 = .ok (.iconst 0, 1) := by decide +kernel
theorem dX7_tale_18 : decode cX7_tale 18 = .ok (.invokevirtual 321, 3) := by decide +kernel
theorem dX7_tale_21 : decode cX7_tale 21 = .ok (.aload_n 0, 1) := by decide +kernel
theorem dX7_tale_22 : decode cX7_tale 22 = .ok (.invokevirtual 325, 3) := by decide +kernel
theorem dX7_tale_25 : decode cX7_tale 25 = .ok (.ifCond .ne 5, 3) := by decide +kernel
theorem dX7_tale_28 : decode cX7_tale 28 = .ok (.iconst (-1), 1) := by decide +kernel
theorem dX7_tale_29 : decode cX7_tale 29 = .ok (.ireturn, 1) := by decide +kernel
theorem dX7_tale_30 : decode cX7_tale 30 = .ok (.aload_n 0, 1) := by decide +kernel
theorem dX7_tale_31 : decode cX7_tale 31 = .ok (.iconst 1, 1) := by decide +kernel
theorem dX7_tale_32 : decode cX7_tale 32 = .ok (.iconst 1, 1) := by decide +kernel
theorem dX7_tale_33 : decode cX7_tale 33 = .ok (.invokevirtual 340, 3) := by decide +kernel
theorem dX7_tale_36 : decode cX7_tale 36 = .ok (.pop, 1) := by decide +kernel
theorem dX7_tale_37 : decode cX7_tale 37 = .ok (.iconst 0, 1) := by decide +kernel
theorem dX7_tale_38 : decode cX7_tale 38 = .ok (.istore_n 3, 1) := by decide +kernel
theorem dX7_tale_39 : decode cX7_tale 39 = .ok (.iconst 0, 1) := by decide +kernel
theorem dX7_tale_40 : decode cX7_tale 40 = .ok (.istore 4, 2) := by decide +kernel
theorem dX7_tale_42 : decode cX7_tale 42 = .ok (.aload_n 0, 1) := by decide +kernel
theorem dX7_tale_43 : decode cX7_tale 43 = .ok (.invokevirtual 307, 3) := by decide +kernel
theorem dX7_tale_46 : decode cX7_tale 46 = .ok (.istore 5, 2) := by decide +kernel
theorem dX7_tale_48 : decode cX7_tale 48 = .ok (.iload 4, 2) := by decide +kernel
theorem dX7_tale_50 : decode cX7_tale 50 = .ok (.aload_n 0, 1) := by decide +kernel
theorem dX7_tale_51 : decode cX7_tale 51 = .ok (.getfield 51, 3) := by decide +kernel
theorem dX7_tale_54 : decode cX7_tale 54 = .ok (.aload_n 0, 1) := by decide +kernel
theorem dX7_tale_55 : decode cX7_tale 55 = .ok (.getfield 279, 3) := by decide +kernel
theorem dX7_tale_58 : decode cX7_tale 58 = .ok (.iaload, 1) := by decide +kernel
theorem dX7_tale_59 : decode cX7_tale 59 = .ok (.if_icmp .ge 141, 3) := by decide +kernel
theorem dX7_tale_62 : decode cX7_tale 62 = .ok (.iconst (-1), 1) := by decide +kernel
theorem dX7_tale_63 : decode cX7_tale 63 = .ok (.istore 6, 2) := by decide +kernel
theorem dX7_tale_65 : decode cX7_tale 65 = .ok (.aload_n 0, 1) := by decide +kernel
theorem dX7_tale_66 : decode cX7_tale 66 = .ok (.iload 4, 2) := by decide +kernel
theorem dX7_tale_68 : decode cX7_tale 68 = .ok (.iload 5, 2) := by decide +kernel
theorem dX7_tale_70 : decode cX7_tale 70 = .ok (.iload 6, 2) := by decide +kernel
theorem dX7_tale_72 : decode cX7_tale 72 = .ok (.invokevirtual 310, 3) := by decide +kernel
theorem dX7_tale_75 : decode cX7_tale 75 = .ok (.istore 7, 2) := by decide +kernel
theorem dX7_tale_77 : decode cX7_tale 77 = .ok (.iload 7, 2) := by decide +kernel
theorem dX7_tale_79 : decode cX7_tale 79 = .ok (.iconst (-1), 1) := by decide +kernel
theorem dX7_tale_80 : decode cX7_tale 80 = .ok (.if_icmp .eq 66, 3) := by decide +kernel
theorem dX7_tale_83 : decode cX7_tale 83 = .ok (.aload_n 0, 1) := by decide +kernel
theorem dX7_tale_84 : decode cX7_tale 84 = .ok (.getfield 101, 3) := by decide +kernel
theorem dX7_tale_87 : decode cX7_tale 87 = .ok (.aload_n 0, 1) := by decide +kernel
theorem dX7_tale_88 : decode cX7_tale 88 = .ok (.getfield 297, 3) := by decide +kernel
theorem dX7_tale_91 : decode cX7_tale 91 = .ok (.sipush 1120, 3) := by decide +kernel
theorem dX7_tale_94 : decode cX7_tale 94 = .ok (.imul, 1) := by decide +kernel
theorem dX7_tale_95 : decode cX7_tale 95 = .ok (.iload 7, 2) := by decide +kernel
theorem dX7_tale_97 : decode cX7_tale 97 = .ok (.iadd, 1) := by decide +kernel
theorem dX7_tale_98 : decode cX7_tale 98 = .ok (.iaload, 1) := by decide +kernel
theorem dX7_tale_99 : decode cX7_tale 99 = .ok (.ldc_w 335, 3) := by decide +kernel
theorem dX7_tale_102 : decode cX7_tale 102 = .ok (.if_icmp .eq 44, 3) := by decide +kernel
theorem dX7_tale_105 : decode cX7_tale 105 = .ok (.aload_n 0, 1) := by decide +kernel
theorem dX7_tale_106 : decode cX7_tale 106 = .ok (.getfield 101, 3) := by decide +kernel
theorem dX7_tale_109 : decode cX7_tale 109 = .ok (.aload_n 0, 1) := by decide +kernel
theorem dX7_tale_110 : decode cX7_tale 110 = .ok (.getfield 297, 3) := by decide +kernel
theorem dX7_tale_113 : decode cX7_tale 113 = .ok (.sipush 1120, 3) := by decide +kernel
theorem dX7_tale_116 : decode cX7_tale 116 = .ok (.imul, 1) := by decide +kernel
theorem dX7_tale_117 : decode cX7_tale 117 = .ok (.iload 7, 2) := by decide +kernel
theorem dX7_tale_119 : decode cX7_tale 119 = .ok (.iadd, 1) := by decide +kernel
theorem dX7_tale_120 : decode cX7_tale 120 = .ok (.iaload, 1) := by decide +kernel
theorem dX7_tale_121 : decode cX7_tale 121 = .ok (.aload_n 0, 1) := by decide +kernel
theorem dX7_tale_122 : decode cX7_tale 122 = .ok (.iload 6, 2) := by decide +kernel
theorem dX7_tale_124 : decode cX7_tale 124 = .ok (.iconst 1, 1) := by decide +kernel
theorem dX7_tale_125 : decode cX7_tale 125 = .ok (.invokevirtual 336, 3) := by decide +kernel
theorem dX7_tale_128 : decode cX7_tale 128 = .ok (.iadd, 1) := by decide +kernel
theorem dX7_tale_129 : decode cX7_tale 129 = .ok (.aload_n 0, 1) := by decide +kernel
theorem dX7_tale_130 : decode cX7_tale 130 = .ok (.getfield 101, 3) := by decide +kernel
theorem dX7_tale_133 : decode cX7_tale 133 = .ok (.iload 4, 2) := by decide +kernel
theorem dX7_tale_135 : decode cX7_tale 135 = .ok (.sipush 1120, 3) := by decide +kernel
theorem dX7_tale_138 : decode cX7_tale 138 = .ok (.imul, 1) := by decide +kernel
theorem dX7_tale_139 : decode cX7_tale 139 = .ok (.iload 5, 2) := by decide +kernel
theorem dX7_tale_141 : decode cX7_tale 141 = .ok (.iadd, 1) := by decide +kernel
theorem dX7_tale_142 : decode cX7_tale 142 = .ok (.iaload, 1) := by decide +kernel
theorem dX7_tale_143 : decode cX7_tale 143 = .ok (.if_icmp .eq 21, 3) := by decide +kernel
theorem dX7_tale_146 : decode cX7_tale 146 = .ok (.iinc 6 1, 3) := by decide +kernel
theorem dX7_tale_149 : decode cX7_tale 149 = .ok (.aload_n 0, 1) := by decide +kernel
theorem dX7_tale_150 : decode cX7_tale 150 = .ok (.iload 4, 2) := by decide +kernel
theorem dX7_tale_152 : decode cX7_tale 152 = .ok (.iload 5, 2) := by decide +kernel
theorem dX7_tale_154 : decode cX7_tale 154 = .ok (.iload 6, 2) := by decide +kernel
theorem dX7_tale_156 : decode cX7_tale 156 = .ok (.invokevirtual 310, 3) := by decide +kernel
theorem dX7_tale_159 : decode cX7_tale 159 = .ok (.istore 7, 2) := by decide +kernel
theorem dX7_tale_161 : decode cX7_tale 161 = .ok (.goto (-84), 3) := by decide +kernel
theorem dX7_tale_164 : decode cX7_tale 164 = .ok (.iload 6, 2) := by decide +kernel
theorem dX7_tale_166 : decode cX7_tale 166 = .ok (.iconst (-1), 1) := by decide +kernel
theorem dX7_tale_167 : decode cX7_tale 167 = .ok (.if_icmp .eq 20, 3) := by decide +kernel
theorem dX7_tale_170 : decode cX7_tale 170 = .ok (.iload_n 3, 1) := by decide +kernel
theorem dX7_tale_171 : decode cX7_tale 171 = .ok (.iload_n 2, 1) := by decide +kernel
theorem dX7_tale_172 : decode cX7_tale 172 = .ok (.if_icmp .ne 12, 3) := by decide +kernel
theorem dX7_tale_175 : decode cX7_tale 175 = .ok (.bipush 100, 2) := by decide +kernel
theorem dX7_tale_177 : decode cX7_tale 177 = .ok (.iload 6, 2) := by decide +kernel
theorem dX7_tale_179 : decode cX7_tale 179 = .ok (.imul, 1) := by decide +kernel
theorem dX7_tale_180 : decode cX7_tale 180 = .ok (.iload 4, 2) := by decide +kernel
theorem dX7_tale_182 : decode cX7_tale 182 = .ok (.iadd, 1) := by decide +kernel
theorem dX7_tale_183 : decode cX7_tale 183 = .ok (.ireturn, 1) := by decide +kernel
theorem dX7_tale_184 : decode cX7_tale 184 = .ok (.iinc 3 1, 3) := by decide +kernel
theorem dX7_tale_187 : decode cX7_tale 187 = .ok (.aload_n 0, 1) := by decide +kernel
theorem dX7_tale_188 : decode cX7_tale 188 = .ok (.getfield 297, 3) := by decide +kernel
theorem dX7_tale_191 : decode cX7_tale 191 = .ok (.istore 4, 2) := by decide +kernel
theorem dX7_tale_193 : decode cX7_tale 193 = .ok (.iload 7, 2) := by decide +kernel
theorem dX7_tale_195 : decode cX7_tale 195 = .ok (.istore 5, 2) := by decide +kernel
theorem dX7_tale_197 : decode cX7_tale 197 = .ok (.goto (-149), 3) := by decide +kernel
theorem dX7_tale_200 : decode cX7_tale 200 = .ok (.iload_n 2, 1) := by decide +kernel
theorem dX7_tale_201 : decode cX7_tale 201 = .ok (.iconst (-1), 1) := by decide +kernel
theorem dX7_tale_202 : decode cX7_tale 202 = .ok (.if_icmp .ne 7, 3) := by decide +kernel
theorem dX7_tale_205 : decode cX7_tale 205 = .ok (.iload_n 3, 1) := by decide +kernel
theorem dX7_tale_206 : decode cX7_tale 206 = .ok (.goto 4, 3) := by decide +kernel
theorem dX7_tale_209 : decode cX7_tale 209 = .ok (.iconst (-1), 1) := by decide +kernel
theorem dX7_tale_210 : decode cX7_tale 210 = .ok (.ireturn, 1) := by decide +kernel
theorem dX7_toDoubt_0 : decode cX7_toDoubt 0 = .ok (.aload_n 0, 1) := by decide +kernel
theorem dX7_toDoubt_1 : decode cX7_toDoubt 1 = .ok (.iload_n 1, 1) := by decide +kernel
theorem dX7_toDoubt_2 : decode cX7_toDoubt 2 = .ok (.invokevirtual 256, 3) := by decide +kernel
theorem dX7_toDoubt_5 : decode cX7_toDoubt 5 = .ok (.ifCond .ne 5, 3) := by decide +kernel
theorem dX7_toDoubt_8 : decode cX7_toDoubt 8 = .ok (.iconst (-1), 1) := by decide +kernel
theorem dX7_toDoubt_9 : decode cX7_toDoubt 9 = .ok (.ireturn, 1) := by decide +kernel
theorem dX7_toDoubt_10 : decode cX7_toDoubt 10 = .ok (.iconst 0, 1) := by decide +kernel
theorem dX7_toDoubt_11 : decode cX7_toDoubt 11 = .ok (.istore_n 2, 1) := by decide +kernel
theorem dX7_toDoubt_12 : decode cX7_toDoubt 12 = .ok (.iconst 0, 1) := by decide +kernel
theorem dX7_toDoubt_13 : decode cX7_toDoubt 13 = .ok (.istore_n 3, 1) := by decide +kernel
theorem dX7_toDoubt_14 : decode cX7_toDoubt 14 = .ok (.iload_n 3, 1) := by decide +kernel
theorem dX7_toDoubt_15 : decode cX7_toDoubt 15 = .ok (.aload_n 0, 1) := by decide +kernel
theorem dX7_toDoubt_16 : decode cX7_toDoubt 16 = .ok (.getfield 54, 3) := by decide +kernel
theorem dX7_toDoubt_19 : decode cX7_toDoubt 19 = .ok (.iload_n 1, 1) := by decide +kernel
theorem dX7_toDoubt_20 : decode cX7_toDoubt 20 = .ok (.iaload, 1) := by decide +kernel
theorem dX7_toDoubt_21 : decode cX7_toDoubt 21 = .ok (.if_icmp .ge 33, 3) := by decide +kernel
theorem dX7_toDoubt_24 : decode cX7_toDoubt 24 = .ok (.iload_n 2, 1) := by decide +kernel
theorem dX7_toDoubt_25 : decode cX7_toDoubt 25 = .ok (.aload_n 0, 1) := by decide +kernel
theorem dX7_toDoubt_26 : decode cX7_toDoubt 26 = .ok (.getfield 72, 3) := by decide +kernel
theorem dX7_toDoubt_29 : decode cX7_toDoubt 29 = .ok (.bipush 8, 2) := by decide +kernel
theorem dX7_toDoubt_31 : decode cX7_toDoubt 31 = .ok (.iload_n 1, 1) := by decide +kernel
theorem dX7_toDoubt_32 : decode cX7_toDoubt 32 = .ok (.imul, 1) := by decide +kernel
theorem dX7_toDoubt_33 : decode cX7_toDoubt 33 = .ok (.iload_n 3, 1) := by decide +kernel
theorem dX7_toDoubt_34 : decode cX7_toDoubt 34 = .ok (.iadd, 1) := by decide +kernel
theorem dX7_toDoubt_35 : decode cX7_toDoubt 35 = .ok (.baload, 1) := by decide +kernel
theorem dX7_toDoubt_36 : decode cX7_toDoubt 36 = .ok (.ifCond .eq 9, 3) := by decide +kernel
