theorem dL_isWiki_681 : decode cL_isWiki 681 = .ok (.iconst 1, 1) := by decide +kernel
theorem dL_isWiki_682 : decode cL_isWiki 682 = .ok (.goto 4, 3) := by decide +kernel
theorem dL_isWiki_685 : decode cL_isWiki 685 = .ok (.iconst 0, 1) := by decide +kernel
theorem dL_isWiki_686 : decode cL_isWiki 686 = .ok (.istore 12, 2) := by decide +kernel
theorem dL_isWiki_688 : decode cL_isWiki 688 = .ok (.iinc 15 1, 3) := by decide +kernel
theorem dL_isWiki_691 : decode cL_isWiki 691 = .ok (.goto (-38), 3) := by decide +kernel
theorem dL_isWiki_694 : decode cL_isWiki 694 = .ok (.iload 12, 2) := by decide +kernel
theorem dL_isWiki_696 : decode cL_isWiki 696 = .ok (.ifCond .eq 26, 3) := by decide +kernel
theorem dL_isWiki_699 : decode cL_isWiki 699 = .ok (.aload_n 0, 1) := by decide +kernel
theorem dL_isWiki_700 : decode cL_isWiki 700 = .ok (.invokevirtual 172, 3) := by decide +kernel
theorem dL_isWiki_703 : decode cL_isWiki 703 = .ok (.iload 13, 2) := by decide +kernel
theorem dL_isWiki_705 : decode cL_isWiki 705 = .ok (.if_icmp .ne 17, 3) := by decide +kernel
theorem dL_isWiki_708 : decode cL_isWiki 708 = .ok (.aload_n 0, 1) := by decide +kernel
theorem dL_isWiki_709 : decode cL_isWiki 709 = .ok (.iconst 1, 1) := by decide +kernel
theorem dL_isWiki_710 : decode cL_isWiki 710 = .ok (.invokevirtual 175, 3) := by decide +kernel
theorem dL_isWiki_713 : decode cL_isWiki 713 = .ok (.iload 14, 2) := by decide +kernel
theorem dL_isWiki_715 : decode cL_isWiki 715 = .ok (.if_icmp .ne 7, 3) := by decide +kernel
theorem dL_isWiki_718 : decode cL_isWiki 718 = .ok (.iconst 1, 1) := by decide +kernel
theorem dL_isWiki_719 : decode cL_isWiki 719 = .ok (.goto 4, 3) := by decide +kernel
theorem dL_isWiki_722 : decode cL_isWiki 722 = .ok (.iconst 0, 1) := by decide +kernel
theorem dL_isWiki_723 : decode cL_isWiki 723 = .ok (.ireturn, 1) := by decide +kernel
theorem dL_law_0 : decode cL_law 0 = .ok (.new 60, 3) := by decide +kernel
theorem dL_law_3 : decode cL_law 3 = .ok (.dup, 1) := by decide +kernel
theorem dL_law_4 : decode cL_law 4 = .ok (.invokespecial 179, 3) := by decide +kernel
theorem dL_law_7 : decode cL_law 7 = .ok (.astore_n 1, 1) := by decide +kernel
theorem dL_law_8 : decode cL_law 8 = .ok (.iconst 4, 1) := by decide +kernel
theorem dL_law_9 : decode cL_law 9 = .ok (.newarray .int, 2) := by decide +kernel
theorem dL_law_11 : decode cL_law 11 = .ok (.astore_n 2, 1) := by decide +kernel
theorem dL_law_12 : decode cL_law 12 = .ok (.bipush 8, 2) := by decide +kernel
theorem dL_law_14 : decode cL_law 14 = .ok (.newarray .int, 2) := by decide +kernel
theorem dL_law_16 : decode cL_law 16 = .ok (.astore_n 3, 1) := by decide +kernel
theorem dL_law_17 : decode cL_law 17 = .ok (.bipush 64, 2) := by decide +kernel
theorem dL_law_19 : decode cL_law 19 = .ok (.newarray .int, 2) := by decide +kernel
theorem dL_law_21 : decode cL_law 21 = .ok (.astore 4, 2) := by decide +kernel
theorem dL_law_23 : decode cL_law 23 = .ok (.bipush 32, 2) := by decide +kernel
theorem dL_law_25 : decode cL_law 25 = .ok (.newarray .long, 2) := by decide +kernel
theorem dL_law_27 : decode cL_law 27 = .ok (.astore 5, 2) := by decide +kernel
theorem dL_law_29 : decode cL_law 29 = .ok (.bipush 8, 2) := by decide +kernel
theorem dL_law_31 : decode cL_law 31 = .ok (.newarray .int, 2) := by decide +kernel
theorem dL_law_33 : decode cL_law 33 = .ok (.astore 6, 2) := by decide +kernel
theorem dL_law_35 : decode cL_law 35 = .ok (.bipush 8, 2) := by decide +kernel
theorem dL_law_37 : decode cL_law 37 = .ok (.newarray .int, 2) := by decide +kernel
theorem dL_law_39 : decode cL_law 39 = .ok (.astore 7, 2) := by decide +kernel
theorem dL_law_41 : decode cL_law 41 = .ok (.bipush 56, 2) := by decide +kernel
theorem dL_law_43 : decode cL_law 43 = .ok (.newarray .int, 2) := by decide +kernel
theorem dL_law_45 : decode cL_law 45 = .ok (.astore 8, 2) := by decide +kernel
theorem dL_law_47 : decode cL_law 47 = .ok (.bipush 8, 2) := by decide +kernel
theorem dL_law_49 : decode cL_law 49 = .ok (.newarray .long, 2) := by decide +kernel
theorem dL_law_51 : decode cL_law 51 = .ok (.astore 9, 2) := by decide +kernel
theorem dL_law_53 : decode cL_law 53 = .ok (.bipush 8, 2) := by decide +kernel
theorem dL_law_55 : decode cL_law 55 = .ok (.newarray .int, 2) := by decide +kernel
theorem dL_law_57 : decode cL_law 57 = .ok (.astore 10, 2) := by decide +kernel
theorem dL_law_59 : decode cL_law 59 = .ok (.bipush 32, 2) := by decide +kernel
theorem dL_law_61 : decode cL_law 61 = .ok (.newarray .int, 2) := by decide +kernel
theorem dL_law_63 : decode cL_law 63 = .ok (.astore 11, 2) := by decide +kernel
theorem dL_law_65 : decode cL_law 65 = .ok (.bipush 8, 2) := by decide +kernel
theorem dL_law_67 : decode cL_law 67 = .ok (.newarray .int, 2) := by decide +kernel
theorem dL_law_69 : decode cL_law 69 = .ok (.astore 12, 2) := by decide +kernel
theorem dL_law_71 : decode cL_law 71 = .ok (.aload_n 1, 1) := by decide +kernel
theorem dL_law_72 : decode cL_law 72 = .ok (.aload_n 2, 1) := by decide +kernel
theorem dL_law_73 : decode cL_law 73 = .ok (.aload_n 3, 1) := by decide +kernel
theorem dL_law_74 : decode cL_law 74 = .ok (.aload 4, 2) := by decide +kernel
theorem dL_law_76 : decode cL_law 76 = .ok (.aload 5, 2) := by decide +kernel
theorem dL_law_78 : decode cL_law 78 = .ok (.aload 6, 2) := by decide +kernel
theorem dL_law_80 : decode cL_law 80 = .ok (.aload 8, 2) := by decide +kernel
theorem dL_law_82 : decode cL_law 82 = .ok (.aload 9, 2) := by decide +kernel
theorem dL_law_84 : decode cL_law 84 = .ok (.aload 10, 2) := by decide +kernel
theorem dL_law_86 : decode cL_law 86 = .ok (.aload 11, 2) := by decide +kernel
theorem dL_law_88 : decode cL_law 88 = .ok (.iconst 0, 1) := by decide +kernel
theorem dL_law_89 : decode cL_law 89 = .ok (.invokestatic 180, 3) := by decide +kernel
theorem dL_law_92 : decode cL_law 92 = .ok (.istore 13, 2) := by decide +kernel
theorem dL_law_94 : decode cL_law 94 = .ok (.iconst 0, 1) := by decide +kernel
theorem dL_law_95 : decode cL_law 95 = .ok (.istore 14, 2) := by decide +kernel
theorem dL_law_97 : decode cL_law 97 = .ok (.iload 14, 2) := by decide +kernel
theorem dL_law_99 : decode cL_law 99 = .ok (.bipush 100, 2) := by decide +kernel
theorem dL_law_101 : decode cL_law 101 = .ok (.if_icmp .ge 1749, 3) := by decide +kernel
theorem dL_law_104 : decode cL_law 104 = .ok (.iload 13, 2) := by decide +kernel
theorem dL_law_106 : decode cL_law 106 = .ok (.ifCond .eq 1744, 3) := by decide +kernel
theorem dL_law_109 : decode cL_law 109 = .ok (.iload 14, 2) := by decide +kernel
theorem dL_law_111 : decode cL_law 111 = .ok (.aload_n 0, 1) := by decide +kernel
theorem dL_law_112 : decode cL_law 112 = .ok (.arraylength, 1) := by decide +kernel
theorem dL_law_113 : decode cL_law 113 = .ok (.if_icmp .ge 13, 3) := by decide +kernel
theorem dL_law_116 : decode cL_law 116 = .ok (.aload_n 0, 1) := by decide +kernel
theorem dL_law_117 : decode cL_law 117 = .ok (.iload 14, 2) := by decide +kernel
theorem dL_law_119 : decode cL_law 119 = .ok (.iaload, 1) := by decide +kernel
theorem dL_law_120 : decode cL_law 120 = .ok (.ldc 184, 2) := by decide +kernel
theorem dL_law_122 : decode cL_law 122 = .ok (.iand, 1) := by decide +kernel
theorem dL_law_123 : decode cL_law 123 = .ok (.goto 24, 3) := by decide +kernel
theorem dL_law_126 : decode cL_law 126 = .ok (.ldc 185, 2) := by decide +kernel
theorem dL_law_128 : decode cL_law 128 = .ok (.iload 14, 2) := by decide +kernel
theorem dL_law_130 : decode cL_law 130 = .ok (.imul, 1) := by decide +kernel
theorem dL_law_131 : decode cL_law 131 = .ok (.iload 14, 2) := by decide +kernel
theorem dL_law_133 : decode cL_law 133 = .ok (.imul, 1) := by decide +kernel
theorem dL_law_134 : decode cL_law 134 = .ok (.sipush 8017, 3) := by decide +kernel
theorem dL_law_137 : decode cL_law 137 = .ok (.iload 14, 2) := by decide +kernel
theorem dL_law_139 : decode cL_law 139 = .ok (.imul, 1) := by decide +kernel
theorem dL_law_140 : decode cL_law 140 = .ok (.iadd, 1) := by decide +kernel
theorem dL_law_141 : decode cL_law 141 = .ok (.bipush 71, 2) := by decide +kernel
theorem dL_law_143 : decode cL_law 143 = .ok (.iadd, 1) := by decide +kernel
theorem dL_law_144 : decode cL_law 144 = .ok (.ldc 184, 2) := by decide +kernel
theorem dL_law_146 : decode cL_law 146 = .ok (.iand, 1) := by decide +kernel
theorem dL_law_147 : decode cL_law 147 = .ok (.istore 15, 2) := by decide +kernel
theorem dL_law_149 : decode cL_law 149 = .ok (.iload 14, 2) := by decide +kernel
theorem dL_law_151 : decode cL_law 151 = .ok (.iconst 3, 1) := by decide +kernel
theorem dL_law_152 : decode cL_law 152 = .ok (.if_icmp .ge 7, 3) := by decide +kernel
theorem dL_law_155 : decode cL_law 155 = .ok (.iconst 0, 1) := by decide +kernel
theorem dL_law_156 : decode cL_law 156 = .ok (.goto 8, 3) := by decide +kernel
theorem dL_law_159 : decode cL_law 159 = .ok (.iload 15, 2) := by decide +kernel
theorem dL_law_161 : decode cL_law 161 = .ok (.bipush 26, 2) := by decide +kernel
theorem dL_law_163 : decode cL_law 163 = .ok (.irem, 1) := by decide +kernel
theorem dL_law_164 : decode cL_law 164 = .ok (.istore 16, 2) := by decide +kernel
theorem dL_law_166 : decode cL_law 166 = .ok (.iload 15, 2) := by decide +kernel
theorem dL_law_168 : decode cL_law 168 = .ok (.bipush 26, 2) := by decide +kernel
theorem dL_law_170 : decode cL_law 170 = .ok (.idiv, 1) := by decide +kernel
theorem dL_law_171 : decode cL_law 171 = .ok (.istore 17, 2) := by decide +kernel
theorem dL_law_173 : decode cL_law 173 = .ok (.iload 14, 2) := by decide +kernel
theorem dL_law_175 : decode cL_law 175 = .ok (.iconst 3, 1) := by decide +kernel
theorem dL_law_176 : decode cL_law 176 = .ok (.if_icmp .ge 8, 3) := by decide +kernel
theorem dL_law_179 : decode cL_law 179 = .ok (.iload 14, 2) := by decide +kernel
theorem dL_law_181 : decode cL_law 181 = .ok (.goto 8, 3) := by decide +kernel
theorem dL_law_184 : decode cL_law 184 = .ok (.iload 17, 2) := by decide +kernel
theorem dL_law_186 : decode cL_law 186 = .ok (.bipush 8, 2) := by decide +kernel
theorem dL_law_188 : decode cL_law 188 = .ok (.irem, 1) := by decide +kernel
theorem dL_law_189 : decode cL_law 189 = .ok (.istore 18, 2) := by decide +kernel
theorem dL_law_191 : decode cL_law 191 = .ok (.aload_n 3, 1) := by decide +kernel
theorem dL_law_192 : decode cL_law 192 = .ok (.iload 18, 2) := by decide +kernel
theorem dL_law_194 : decode cL_law 194 = .ok (.iaload, 1) := by decide +kernel
theorem dL_law_195 : decode cL_law 195 = .ok (.ifCond .le 7, 3) := by decide +kernel
theorem dL_law_198 : decode cL_law 198 = .ok (.iconst 1, 1) := by decide +kernel
theorem dL_law_199 : decode cL_law 199 = .ok (.goto 4, 3) := by decide +kernel
theorem dL_law_202 : decode cL_law 202 = .ok (.iconst 0, 1) := by decide +kernel
theorem dL_law_203 : decode cL_law 203 = .ok (.istore 19, 2) := by decide +kernel
theorem dL_law_205 : decode cL_law 205 = .ok (.aload_n 2, 1) := by decide +kernel
theorem dL_law_206 : decode cL_law 206 = .ok (.aload_n 3, 1) := by decide +kernel
theorem dL_law_207 : decode cL_law 207 = .ok (.aload 4, 2) := by decide +kernel
theorem dL_law_209 : decode cL_law 209 = .ok (.iload 18, 2) := by decide +kernel
theorem dL_law_211 : decode cL_law 211 = .ok (.invokestatic 15, 3) := by decide +kernel
theorem dL_law_214 : decode cL_law 214 = .ok (.istore 20, 2) := by decide +kernel
theorem dL_law_216 : decode cL_law 216 = .ok (.iload 17, 2) := by decide +kernel
theorem dL_law_218 : decode cL_law 218 = .ok (.bipush 8, 2) := by decide +kernel
theorem dL_law_220 : decode cL_law 220 = .ok (.idiv, 1) := by decide +kernel
theorem dL_law_221 : decode cL_law 221 = .ok (.invokestatic 186, 3) := by decide +kernel
theorem dL_law_224 : decode cL_law 224 = .ok (.lstore 21, 2) := by decide +kernel
theorem dL_law_226 : decode cL_law 226 = .ok (.iload 17, 2) := by decide +kernel
theorem dL_law_228 : decode cL_law 228 = .ok (.bipush 8, 2) := by decide +kernel
theorem dL_law_230 : decode cL_law 230 = .ok (.idiv, 1) := by decide +kernel
theorem dL_law_231 : decode cL_law 231 = .ok (.bipush 8, 2) := by decide +kernel
theorem dL_law_233 : decode cL_law 233 = .ok (.irem, 1) := by decide +kernel
theorem dL_law_234 : decode cL_law 234 = .ok (.istore 23, 2) := by decide +kernel
theorem dL_law_236 : decode cL_law 236 = .ok (.iload 16, 2) := by decide +kernel
theorem dL_law_238 : decode cL_law 238 = .ok (.iconst 5, 1) := by decide +kernel
theorem dL_law_239 : decode cL_law 239 = .ok (.if_icmp .ge 113, 3) := by decide +kernel
theorem dL_law_242 : decode cL_law 242 = .ok (.aload_n 2, 1) := by decide +kernel
theorem dL_law_243 : decode cL_law 243 = .ok (.iconst 0, 1) := by decide +kernel
theorem dL_law_244 : decode cL_law 244 = .ok (.iaload, 1) := by decide +kernel
theorem dL_law_245 : decode cL_law 245 = .ok (.bipush 32, 2) := by decide +kernel
theorem dL_law_247 : decode cL_law 247 = .ok (.if_icmp .ge 105, 3) := by decide +kernel
theorem dL_law_250 : decode cL_law 250 = .ok (.iload 19, 2) := by decide +kernel
theorem dL_law_252 : decode cL_law 252 = .ok (.ifCond .ne 7, 3) := by decide +kernel
theorem dL_law_255 : decode cL_law 255 = .ok (.iconst 1, 1) := by decide +kernel
theorem dL_law_256 : decode cL_law 256 = .ok (.goto 4, 3) := by decide +kernel
theorem dL_law_259 : decode cL_law 259 = .ok (.iconst 0, 1) := by decide +kernel
theorem dL_law_260 : decode cL_law 260 = .ok (.istore 24, 2) := by decide +kernel
theorem dL_law_262 : decode cL_law 262 = .ok (.aload_n 1, 1) := by decide +kernel
theorem dL_law_263 : decode cL_law 263 = .ok (.lload 21, 2) := by decide +kernel
theorem dL_law_265 : decode cL_law 265 = .ok (.invokestatic 190, 3) := by decide +kernel
theorem dL_law_268 : decode cL_law 268 = .ok (.ifCond .eq 32, 3) := by decide +kernel
theorem dL_law_271 : decode cL_law 271 = .ok (.aload_n 1, 1) := by decide +kernel
theorem dL_law_272 : decode cL_law 272 = .ok (.iconst 0, 1) := by decide +kernel
theorem dL_law_273 : decode cL_law 273 = .ok (.iload 18, 2) := by decide +kernel
theorem dL_law_275 : decode cL_law 275 = .ok (.iconst 0, 1) := by decide +kernel
theorem dL_law_276 : decode cL_law 276 = .ok (.iconst 0, 1) := by decide +kernel
theorem dL_law_277 : decode cL_law 277 = .ok (.invokestatic 132, 3) := by decide +kernel
theorem dL_law_280 : decode cL_law 280 = .ok (.iload 24, 2) := by decide +kernel
theorem dL_law_282 : decode cL_law 282 = .ok (.ifCond .eq 9, 3) := by decide +kernel
theorem dL_law_285 : decode cL_law 285 = .ok (.aload_n 2, 1) := by decide +kernel
theorem dL_law_286 : decode cL_law 286 = .ok (.iconst 0, 1) := by decide +kernel
theorem dL_law_287 : decode cL_law 287 = .ok (.iaload, 1) := by decide +kernel
theorem dL_law_288 : decode cL_law 288 = .ok (.goto 5, 3) := by decide +kernel
theorem dL_law_291 : decode cL_law 291 = .ok (.bipush (-13), 2) := by decide +kernel
theorem dL_law_293 : decode cL_law 293 = .ok (.if_icmp .ne 7, 3) := by decide +kernel
theorem dL_law_296 : decode cL_law 296 = .ok (.iconst 1, 1) := by decide +kernel
theorem dL_law_297 : decode cL_law 297 = .ok (.goto 4, 3) := by decide +kernel
theorem dL_law_300 : decode cL_law 300 = .ok (.iconst 0, 1) := by decide +kernel
theorem dL_law_301 : decode cL_law 301 = .ok (.istore 13, 2) := by decide +kernel
theorem dL_law_303 : decode cL_law 303 = .ok (.iload 24, 2) := by decide +kernel
theorem dL_law_305 : decode cL_law 305 = .ok (.ifCond .eq 44, 3) := by decide +kernel
theorem dL_law_308 : decode cL_law 308 = .ok (.aload_n 3, 1) := by decide +kernel
theorem dL_law_309 : decode cL_law 309 = .ok (.iload 18, 2) := by decide +kernel
theorem dL_law_311 : decode cL_law 311 = .ok (.aload_n 2, 1) := by decide +kernel
theorem dL_law_312 : decode cL_law 312 = .ok (.iconst 1, 1) := by decide +kernel
theorem dL_law_313 : decode cL_law 313 = .ok (.iaload, 1) := by decide +kernel
theorem dL_law_314 : decode cL_law 314 = .ok (.iconst 1, 1) := by decide +kernel
theorem dL_law_315 : decode cL_law 315 = .ok (.iadd, 1) := by decide +kernel
theorem dL_law_316 : decode cL_law 316 = .ok (.iastore, 1) := by decide +kernel
theorem dL_law_317 : decode cL_law 317 = .ok (.aload_n 2, 1) := by decide +kernel
theorem dL_law_318 : decode cL_law 318 = .ok (.iconst 2, 1) := by decide +kernel
theorem dL_law_319 : decode cL_law 319 = .ok (.dup2, 1) := by decide +kernel
theorem dL_law_320 : decode cL_law 320 = .ok (.iaload, 1) := by decide +kernel
theorem dL_law_321 : decode cL_law 321 = .ok (.iconst 1, 1) := by decide +kernel
theorem dL_law_322 : decode cL_law 322 = .ok (.iadd, 1) := by decide +kernel
theorem dL_law_323 : decode cL_law 323 = .ok (.iastore, 1) := by decide +kernel
theorem dL_law_324 : decode cL_law 324 = .ok (.aload_n 2, 1) := by decide +kernel
theorem dL_law_325 : decode cL_law 325 = .ok (.aload 4, 2) := by decide +kernel
theorem dL_law_327 : decode cL_law 327 = .ok (.aload 5, 2) := by decide +kernel
theorem dL_law_329 : decode cL_law 329 = .ok (.aload_n 2, 1) := by decide +kernel
theorem dL_law_330 : decode cL_law 330 = .ok (.iconst 1, 1) := by decide +kernel
theorem dL_law_331 : decode cL_law 331 = .ok (.iaload, 1) := by decide +kernel
theorem dL_law_332 : decode cL_law 332 = .ok (.aload_n 2, 1) := by decide +kernel
theorem dL_law_333 : decode cL_law 333 = .ok (.iconst 2, 1) := by decide +kernel
theorem dL_law_334 : decode cL_law 334 = .ok (.iaload, 1) := by decide +kernel
theorem dL_law_335 : decode cL_law 335 = .ok (.lload 21, 2) := by decide +kernel
theorem dL_law_337 : decode cL_law 337 = .ok (.invokestatic 194, 3) := by decide +kernel
theorem dL_law_340 : decode cL_law 340 = .ok (.istore 25, 2) := by decide +kernel
theorem dL_law_342 : decode cL_law 342 = .ok (.aload_n 2, 1) := by decide +kernel
theorem dL_law_343 : decode cL_law 343 = .ok (.iconst 1, 1) := by decide +kernel
theorem dL_law_344 : decode cL_law 344 = .ok (.dup2, 1) := by decide +kernel
theorem dL_law_345 : decode cL_law 345 = .ok (.iaload, 1) := by decide +kernel
theorem dL_law_346 : decode cL_law 346 = .ok (.iconst 1, 1) := by decide +kernel
theorem dL_law_347 : decode cL_law 347 = .ok (.iadd, 1) := by decide +kernel
theorem dL_law_348 : decode cL_law 348 = .ok (.iastore, 1) := by decide +kernel
theorem dL_law_349 : decode cL_law 349 = .ok (.goto 1439, 3) := by decide +kernel
theorem dL_law_352 : decode cL_law 352 = .ok (.iload 16, 2) := by decide +kernel
theorem dL_law_354 : decode cL_law 354 = .ok (.bipush 10, 2) := by decide +kernel
theorem dL_law_356 : decode cL_law 356 = .ok (.if_icmp .ge 340, 3) := by decide +kernel
theorem dL_law_359 : decode cL_law 359 = .ok (.aload_n 2, 1) := by decide +kernel
theorem dL_law_360 : decode cL_law 360 = .ok (.iconst 0, 1) := by decide +kernel
theorem dL_law_361 : decode cL_law 361 = .ok (.iaload, 1) := by decide +kernel
theorem dL_law_362 : decode cL_law 362 = .ok (.bipush 32, 2) := by decide +kernel
theorem dL_law_364 : decode cL_law 364 = .ok (.if_icmp .ge 332, 3) := by decide +kernel
theorem dL_law_367 : decode cL_law 367 = .ok (.iload 19, 2) := by decide +kernel
theorem dL_law_369 : decode cL_law 369 = .ok (.ifCond .eq 36, 3) := by decide +kernel
theorem dL_law_372 : decode cL_law 372 = .ok (.aload_n 2, 1) := by decide +kernel
theorem dL_law_373 : decode cL_law 373 = .ok (.aload_n 3, 1) := by decide +kernel
theorem dL_law_374 : decode cL_law 374 = .ok (.aload 4, 2) := by decide +kernel
theorem dL_law_376 : decode cL_law 376 = .ok (.iload 18, 2) := by decide +kernel
theorem dL_law_378 : decode cL_law 378 = .ok (.iload 17, 2) := by decide +kernel
theorem dL_law_380 : decode cL_law 380 = .ok (.bipush 9, 2) := by decide +kernel
theorem dL_law_382 : decode cL_law 382 = .ok (.idiv, 1) := by decide +kernel
theorem dL_law_383 : decode cL_law 383 = .ok (.iconst 3, 1) := by decide +kernel
theorem dL_law_384 : decode cL_law 384 = .ok (.irem, 1) := by decide +kernel
theorem dL_law_385 : decode cL_law 385 = .ok (.ifCond .le 7, 3) := by decide +kernel
theorem dL_law_388 : decode cL_law 388 = .ok (.iconst 0, 1) := by decide +kernel
theorem dL_law_389 : decode cL_law 389 = .ok (.goto 10, 3) := by decide +kernel
theorem dL_law_392 : decode cL_law 392 = .ok (.iload 17, 2) := by decide +kernel
theorem dL_law_394 : decode cL_law 394 = .ok (.bipush 27, 2) := by decide +kernel
theorem dL_law_396 : decode cL_law 396 = .ok (.idiv, 1) := by decide +kernel
theorem dL_law_397 : decode cL_law 397 = .ok (.iconst 4, 1) := by decide +kernel
theorem dL_law_398 : decode cL_law 398 = .ok (.irem, 1) := by decide +kernel
theorem dL_law_399 : decode cL_law 399 = .ok (.invokestatic 139, 3) := by decide +kernel
theorem dL_law_402 : decode cL_law 402 = .ok (.goto 4, 3) := by decide +kernel
theorem dL_law_405 : decode cL_law 405 = .ok (.iconst 0, 1) := by decide +kernel
theorem dL_law_406 : decode cL_law 406 = .ok (.istore 24, 2) := by decide +kernel
theorem dL_law_408 : decode cL_law 408 = .ok (.iload 24, 2) := by decide +kernel
theorem dL_law_410 : decode cL_law 410 = .ok (.ifCond .ge 8, 3) := by decide +kernel
theorem dL_law_413 : decode cL_law 413 = .ok (.iload 20, 2) := by decide +kernel
theorem dL_law_415 : decode cL_law 415 = .ok (.goto 5, 3) := by decide +kernel
theorem dL_law_418 : decode cL_law 418 = .ok (.iload 24, 2) := by decide +kernel
theorem dL_law_420 : decode cL_law 420 = .ok (.istore 24, 2) := by decide +kernel
theorem dL_law_422 : decode cL_law 422 = .ok (.iload 17, 2) := by decide +kernel
theorem dL_law_424 : decode cL_law 424 = .ok (.iconst 5, 1) := by decide +kernel
theorem dL_law_425 : decode cL_law 425 = .ok (.idiv, 1) := by decide +kernel
theorem dL_law_426 : decode cL_law 426 = .ok (.iconst 3, 1) := by decide +kernel
theorem dL_law_427 : decode cL_law 427 = .ok (.irem, 1) := by decide +kernel
theorem dL_law_428 : decode cL_law 428 = .ok (.iconst 1, 1) := by decide +kernel
theorem dL_law_429 : decode cL_law 429 = .ok (.isub, 1) := by decide +kernel
theorem dL_law_430 : decode cL_law 430 = .ok (.istore 25, 2) := by decide +kernel
theorem dL_law_432 : decode cL_law 432 = .ok (.iload 25, 2) := by decide +kernel
theorem dL_law_434 : decode cL_law 434 = .ok (.ifCond .lt 10, 3) := by decide +kernel
theorem dL_law_437 : decode cL_law 437 = .ok (.iload 17, 2) := by decide +kernel
theorem dL_law_439 : decode cL_law 439 = .ok (.iconst 4, 1) := by decide +kernel
theorem dL_law_440 : decode cL_law 440 = .ok (.irem, 1) := by decide +kernel
theorem dL_law_441 : decode cL_law 441 = .ok (.ifCond .le 8, 3) := by decide +kernel
theorem dL_law_444 : decode cL_law 444 = .ok (.lload 21, 2) := by decide +kernel
theorem dL_law_446 : decode cL_law 446 = .ok (.goto 4, 3) := by decide +kernel
theorem dL_law_449 : decode cL_law 449 = .ok (.lconst 1, 1) := by decide +kernel
theorem dL_law_450 : decode cL_law 450 = .ok (.lstore 26, 2) := by decide +kernel
theorem dL_law_452 : decode cL_law 452 = .ok (.iload 19, 2) := by decide +kernel
theorem dL_law_454 : decode cL_law 454 = .ok (.ifCond .eq 20, 3) := by decide +kernel
theorem dL_law_457 : decode cL_law 457 = .ok (.iload 25, 2) := by decide +kernel
theorem dL_law_459 : decode cL_law 459 = .ok (.aload 5, 2) := by decide +kernel
theorem dL_law_461 : decode cL_law 461 = .ok (.iload 24, 2) := by decide +kernel
theorem dL_law_463 : decode cL_law 463 = .ok (.laload, 1) := by decide +kernel
theorem dL_law_464 : decode cL_law 464 = .ok (.invokestatic 119, 3) := by decide +kernel
theorem dL_law_467 : decode cL_law 467 = .ok (.if_icmp .ge 7, 3) := by decide +kernel
theorem dL_law_470 : decode cL_law 470 = .ok (.iconst 1, 1) := by decide +kernel
theorem dL_law_471 : decode cL_law 471 = .ok (.goto 4, 3) := by decide +kernel
theorem dL_law_474 : decode cL_law 474 = .ok (.iconst 0, 1) := by decide +kernel
theorem dL_law_475 : decode cL_law 475 = .ok (.istore 28, 2) := by decide +kernel
theorem dL_law_477 : decode cL_law 477 = .ok (.iload 28, 2) := by decide +kernel
theorem dL_law_479 : decode cL_law 479 = .ok (.ifCond .ne 7, 3) := by decide +kernel
theorem dL_law_482 : decode cL_law 482 = .ok (.lconst 1, 1) := by decide +kernel
theorem dL_law_483 : decode cL_law 483 = .ok (.goto 25, 3) := by decide +kernel
theorem dL_law_486 : decode cL_law 486 = .ok (.iload 25, 2) := by decide +kernel
theorem dL_law_488 : decode cL_law 488 = .ok (.ifCond .ge 8, 3) := by decide +kernel
theorem dL_law_491 : decode cL_law 491 = .ok (.lload 26, 2) := by decide +kernel
theorem dL_law_493 : decode cL_law 493 = .ok (.goto 15, 3) := by decide +kernel
theorem dL_law_496 : decode cL_law 496 = .ok (.aload 5, 2) := by decide +kernel
theorem dL_law_498 : decode cL_law 498 = .ok (.iload 24, 2) := by decide +kernel
theorem dL_law_500 : decode cL_law 500 = .ok (.laload, 1) := by decide +kernel
theorem dL_law_501 : decode cL_law 501 = .ok (.iload 25, 2) := by decide +kernel
theorem dL_law_503 : decode cL_law 503 = .ok (.lload 26, 2) := by decide +kernel
theorem dL_law_505 : decode cL_law 505 = .ok (.invokestatic 198, 3) := by decide +kernel
theorem dL_law_508 : decode cL_law 508 = .ok (.lstore 29, 2) := by decide +kernel
theorem dL_law_510 : decode cL_law 510 = .ok (.iload 28, 2) := by decide +kernel
theorem dL_law_512 : decode cL_law 512 = .ok (.ifCond .eq 10, 3) := by decide +kernel
theorem dL_law_515 : decode cL_law 515 = .ok (.iload 24, 2) := by decide +kernel
theorem dL_law_517 : decode cL_law 517 = .ok (.iload 20, 2) := by decide +kernel
theorem dL_law_519 : decode cL_law 519 = .ok (.if_icmp .ne 8, 3) := by decide +kernel
theorem dL_law_522 : decode cL_law 522 = .ok (.lload 29, 2) := by decide +kernel
theorem dL_law_524 : decode cL_law 524 = .ok (.goto 18, 3) := by decide +kernel
theorem dL_law_527 : decode cL_law 527 = .ok (.lload 29, 2) := by decide +kernel
theorem dL_law_529 : decode cL_law 529 = .ok (.aload 5, 2) := by decide +kernel
theorem dL_law_531 : decode cL_law 531 = .ok (.iload 24, 2) := by decide +kernel
theorem dL_law_533 : decode cL_law 533 = .ok (.laload, 1) := by decide +kernel
theorem dL_law_534 : decode cL_law 534 = .ok (.aload 5, 2) := by decide +kernel
theorem dL_law_536 : decode cL_law 536 = .ok (.iload 20, 2) := by decide +kernel
theorem dL_law_538 : decode cL_law 538 = .ok (.laload, 1) := by decide +kernel
theorem dL_law_539 : decode cL_law 539 = .ok (.invokestatic 202, 3) := by decide +kernel
theorem dL_law_542 : decode cL_law 542 = .ok (.lstore 31, 2) := by decide +kernel
theorem dL_law_544 : decode cL_law 544 = .ok (.iload 28, 2) := by decide +kernel
theorem dL_law_546 : decode cL_law 546 = .ok (.ifCond .eq 33, 3) := by decide +kernel
theorem dL_law_549 : decode cL_law 549 = .ok (.lload 31, 2) := by decide +kernel
theorem dL_law_551 : decode cL_law 551 = .ok (.lconst 1, 1) := by decide +kernel
theorem dL_law_552 : decode cL_law 552 = .ok (.lcmp, 1) := by decide +kernel
theorem dL_law_553 : decode cL_law 553 = .ok (.ifCond .le 26, 3) := by decide +kernel
theorem dL_law_556 : decode cL_law 556 = .ok (.lload 31, 2) := by decide +kernel
theorem dL_law_558 : decode cL_law 558 = .ok (.invokestatic 206, 3) := by decide +kernel
theorem dL_law_561 : decode cL_law 561 = .ok (.ifCond .eq 18, 3) := by decide +kernel
theorem dL_law_564 : decode cL_law 564 = .ok (.lload 31, 2) := by decide +kernel
theorem dL_law_566 : decode cL_law 566 = .ok (.aload 5, 2) := by decide +kernel
theorem dL_law_568 : decode cL_law 568 = .ok (.iload 20, 2) := by decide +kernel
theorem dL_law_570 : decode cL_law 570 = .ok (.laload, 1) := by decide +kernel
theorem dL_law_571 : decode cL_law 571 = .ok (.lcmp, 1) := by decide +kernel
theorem dL_law_572 : decode cL_law 572 = .ok (.ifCond .eq 7, 3) := by decide +kernel
theorem dL_law_575 : decode cL_law 575 = .ok (.iconst 1, 1) := by decide +kernel
theorem dL_law_576 : decode cL_law 576 = .ok (.goto 4, 3) := by decide +kernel
theorem dL_law_579 : decode cL_law 579 = .ok (.iconst 0, 1) := by decide +kernel
theorem dL_law_580 : decode cL_law 580 = .ok (.istore 33, 2) := by decide +kernel
theorem dL_law_582 : decode cL_law 582 = .ok (.iload 28, 2) := by decide +kernel
theorem dL_law_584 : decode cL_law 584 = .ok (.ifCond .eq 23, 3) := by decide +kernel
theorem dL_law_587 : decode cL_law 587 = .ok (.lload 29, 2) := by decide +kernel
theorem dL_law_589 : decode cL_law 589 = .ok (.invokestatic 7, 3) := by decide +kernel
theorem dL_law_592 : decode cL_law 592 = .ok (.bipush 6, 2) := by decide +kernel
theorem dL_law_594 : decode cL_law 594 = .ok (.if_icmp .ge 99, 3) := by decide +kernel
theorem dL_law_597 : decode cL_law 597 = .ok (.lload 31, 2) := by decide +kernel
theorem dL_law_599 : decode cL_law 599 = .ok (.invokestatic 7, 3) := by decide +kernel
theorem dL_law_602 : decode cL_law 602 = .ok (.bipush 6, 2) := by decide +kernel
theorem dL_law_604 : decode cL_law 604 = .ok (.if_icmp .ge 89, 3) := by decide +kernel
theorem dL_law_607 : decode cL_law 607 = .ok (.aload_n 1, 1) := by decide +kernel
theorem dL_law_608 : decode cL_law 608 = .ok (.lload 26, 2) := by decide +kernel
theorem dL_law_610 : decode cL_law 610 = .ok (.invokestatic 190, 3) := by decide +kernel
theorem dL_law_613 : decode cL_law 613 = .ok (.ifCond .eq 44, 3) := by decide +kernel
theorem dL_law_616 : decode cL_law 616 = .ok (.aload_n 1, 1) := by decide +kernel
theorem dL_law_617 : decode cL_law 617 = .ok (.iconst 1, 1) := by decide +kernel
theorem dL_law_618 : decode cL_law 618 = .ok (.iload 18, 2) := by decide +kernel
theorem dL_law_620 : decode cL_law 620 = .ok (.iload 24, 2) := by decide +kernel
theorem dL_law_622 : decode cL_law 622 = .ok (.iload 25, 2) := by decide +kernel
theorem dL_law_624 : decode cL_law 624 = .ok (.invokestatic 132, 3) := by decide +kernel
theorem dL_law_627 : decode cL_law 627 = .ok (.iload 28, 2) := by decide +kernel
theorem dL_law_629 : decode cL_law 629 = .ok (.ifCond .ne 8, 3) := by decide +kernel
theorem dL_law_632 : decode cL_law 632 = .ok (.bipush (-11), 2) := by decide +kernel
theorem dL_law_634 : decode cL_law 634 = .ok (.goto 16, 3) := by decide +kernel
theorem dL_law_637 : decode cL_law 637 = .ok (.iload 33, 2) := by decide +kernel
theorem dL_law_639 : decode cL_law 639 = .ok (.ifCond .eq 9, 3) := by decide +kernel
theorem dL_law_642 : decode cL_law 642 = .ok (.aload_n 2, 1) := by decide +kernel
theorem dL_law_643 : decode cL_law 643 = .ok (.iconst 0, 1) := by decide +kernel
theorem dL_law_644 : decode cL_law 644 = .ok (.iaload, 1) := by decide +kernel
theorem dL_law_645 : decode cL_law 645 = .ok (.goto 5, 3) := by decide +kernel
theorem dL_law_648 : decode cL_law 648 = .ok (.bipush (-13), 2) := by decide +kernel
theorem dL_law_650 : decode cL_law 650 = .ok (.if_icmp .ne 7, 3) := by decide +kernel
theorem dL_law_653 : decode cL_law 653 = .ok (.iconst 1, 1) := by decide +kernel
theorem dL_law_654 : decode cL_law 654 = .ok (.goto 4, 3) := by decide +kernel
theorem dL_law_657 : decode cL_law 657 = .ok (.iconst 0, 1) := by decide +kernel
theorem dL_law_658 : decode cL_law 658 = .ok (.istore 13, 2) := by decide +kernel
theorem dL_law_660 : decode cL_law 660 = .ok (.iload 33, 2) := by decide +kernel
theorem dL_law_662 : decode cL_law 662 = .ok (.ifCond .eq 31, 3) := by decide +kernel
theorem dL_law_665 : decode cL_law 665 = .ok (.aload_n 2, 1) := by decide +kernel
theorem dL_law_666 : decode cL_law 666 = .ok (.iconst 2, 1) := by decide +kernel
theorem dL_law_667 : decode cL_law 667 = .ok (.dup2, 1) := by decide +kernel
theorem dL_law_668 : decode cL_law 668 = .ok (.iaload, 1) := by decide +kernel
theorem dL_law_669 : decode cL_law 669 = .ok (.iconst 1, 1) := by decide +kernel
theorem dL_law_670 : decode cL_law 670 = .ok (.iadd, 1) := by decide +kernel
theorem dL_law_671 : decode cL_law 671 = .ok (.iastore, 1) := by decide +kernel
theorem dL_law_672 : decode cL_law 672 = .ok (.aload_n 2, 1) := by decide +kernel
theorem dL_law_673 : decode cL_law 673 = .ok (.aload 4, 2) := by decide +kernel
theorem dL_law_675 : decode cL_law 675 = .ok (.aload 5, 2) := by decide +kernel
theorem dL_law_677 : decode cL_law 677 = .ok (.aload_n 3, 1) := by decide +kernel
theorem dL_law_678 : decode cL_law 678 = .ok (.iload 18, 2) := by decide +kernel
theorem dL_law_680 : decode cL_law 680 = .ok (.iaload, 1) := by decide +kernel
theorem dL_law_681 : decode cL_law 681 = .ok (.iconst 1, 1) := by decide +kernel
theorem dL_law_682 : decode cL_law 682 = .ok (.isub, 1) := by decide +kernel
theorem dL_law_683 : decode cL_law 683 = .ok (.aload_n 2, 1) := by decide +kernel
theorem dL_law_684 : decode cL_law 684 = .ok (.iconst 2, 1) := by decide +kernel
theorem dL_law_685 : decode cL_law 685 = .ok (.iaload, 1) := by decide +kernel
theorem dL_law_686 : decode cL_law 686 = .ok (.lload 31, 2) := by decide +kernel
theorem dL_law_688 : decode cL_law 688 = .ok (.invokestatic 194, 3) := by decide +kernel
theorem dL_law_691 : decode cL_law 691 = .ok (.istore 34, 2) := by decide +kernel
theorem dL_law_693 : decode cL_law 693 = .ok (.goto 1095, 3) := by decide +kernel
theorem dL_law_696 : decode cL_law 696 = .ok (.iload 16, 2) := by decide +kernel
theorem dL_law_698 : decode cL_law 698 = .ok (.bipush 10, 2) := by decide +kernel
theorem dL_law_700 : decode cL_law 700 = .ok (.if_icmp .ne 233, 3) := by decide +kernel
theorem dL_law_703 : decode cL_law 703 = .ok (.aload_n 2, 1) := by decide +kernel
theorem dL_law_704 : decode cL_law 704 = .ok (.iconst 0, 1) := by decide +kernel
theorem dL_law_705 : decode cL_law 705 = .ok (.iaload, 1) := by decide +kernel
theorem dL_law_706 : decode cL_law 706 = .ok (.bipush 32, 2) := by decide +kernel
theorem dL_law_708 : decode cL_law 708 = .ok (.if_icmp .ge 225, 3) := by decide +kernel
theorem dL_law_711 : decode cL_law 711 = .ok (.iload 17, 2) := by decide +kernel
theorem dL_law_713 : decode cL_law 713 = .ok (.bipush 9, 2) := by decide +kernel
theorem dL_law_715 : decode cL_law 715 = .ok (.idiv, 1) := by decide +kernel
theorem dL_law_716 : decode cL_law 716 = .ok (.iconst 3, 1) := by decide +kernel
theorem dL_law_717 : decode cL_law 717 = .ok (.irem, 1) := by decide +kernel
theorem dL_law_718 : decode cL_law 718 = .ok (.istore 24, 2) := by decide +kernel
theorem dL_law_720 : decode cL_law 720 = .ok (.aload_n 2, 1) := by decide +kernel
theorem dL_law_721 : decode cL_law 721 = .ok (.aload_n 3, 1) := by decide +kernel
theorem dL_law_722 : decode cL_law 722 = .ok (.aload 4, 2) := by decide +kernel
theorem dL_law_724 : decode cL_law 724 = .ok (.iload 18, 2) := by decide +kernel
theorem dL_law_726 : decode cL_law 726 = .ok (.iload 24, 2) := by decide +kernel
theorem dL_law_728 : decode cL_law 728 = .ok (.invokestatic 139, 3) := by decide +kernel
theorem dL_law_731 : decode cL_law 731 = .ok (.istore 25, 2) := by decide +kernel
theorem dL_law_733 : decode cL_law 733 = .ok (.iload 25, 2) := by decide +kernel
theorem dL_law_735 : decode cL_law 735 = .ok (.ifCond .lt 12, 3) := by decide +kernel
theorem dL_law_738 : decode cL_law 738 = .ok (.iload 24, 2) := by decide +kernel
theorem dL_law_740 : decode cL_law 740 = .ok (.ifCond .le 7, 3) := by decide +kernel
theorem dL_law_743 : decode cL_law 743 = .ok (.iconst 1, 1) := by decide +kernel
theorem dL_law_744 : decode cL_law 744 = .ok (.goto 4, 3) := by decide +kernel
theorem dL_law_747 : decode cL_law 747 = .ok (.iconst 0, 1) := by decide +kernel
theorem dL_law_748 : decode cL_law 748 = .ok (.istore 26, 2) := by decide +kernel
theorem dL_law_750 : decode cL_law 750 = .ok (.iload 26, 2) := by decide +kernel
theorem dL_law_752 : decode cL_law 752 = .ok (.ifCond .eq 35, 3) := by decide +kernel
theorem dL_law_755 : decode cL_law 755 = .ok (.aload 5, 2) := by decide +kernel
theorem dL_law_757 : decode cL_law 757 = .ok (.aload_n 2, 1) := by decide +kernel
theorem dL_law_758 : decode cL_law 758 = .ok (.aload_n 3, 1) := by decide +kernel
theorem dL_law_759 : decode cL_law 759 = .ok (.aload 4, 2) := by decide +kernel
theorem dL_law_761 : decode cL_law 761 = .ok (.iload 18, 2) := by decide +kernel
theorem dL_law_763 : decode cL_law 763 = .ok (.iload 24, 2) := by decide +kernel
theorem dL_law_765 : decode cL_law 765 = .ok (.iconst 1, 1) := by decide +kernel
theorem dL_law_766 : decode cL_law 766 = .ok (.isub, 1) := by decide +kernel
theorem dL_law_767 : decode cL_law 767 = .ok (.invokestatic 139, 3) := by decide +kernel
theorem dL_law_770 : decode cL_law 770 = .ok (.laload, 1) := by decide +kernel
theorem dL_law_771 : decode cL_law 771 = .ok (.aload 5, 2) := by decide +kernel
theorem dL_law_773 : decode cL_law 773 = .ok (.iload 25, 2) := by decide +kernel
theorem dL_law_775 : decode cL_law 775 = .ok (.laload, 1) := by decide +kernel
theorem dL_law_776 : decode cL_law 776 = .ok (.aload 5, 2) := by decide +kernel
theorem dL_law_778 : decode cL_law 778 = .ok (.iload 20, 2) := by decide +kernel
theorem dL_law_780 : decode cL_law 780 = .ok (.laload, 1) := by decide +kernel
theorem dL_law_781 : decode cL_law 781 = .ok (.invokestatic 210, 3) := by decide +kernel
theorem dL_law_784 : decode cL_law 784 = .ok (.goto 4, 3) := by decide +kernel
theorem dL_law_787 : decode cL_law 787 = .ok (.lconst 0, 1) := by decide +kernel
theorem dL_law_788 : decode cL_law 788 = .ok (.lstore 27, 2) := by decide +kernel
theorem dL_law_790 : decode cL_law 790 = .ok (.iload 26, 2) := by decide +kernel
theorem dL_law_792 : decode cL_law 792 = .ok (.ifCond .eq 33, 3) := by decide +kernel
theorem dL_law_795 : decode cL_law 795 = .ok (.lload 27, 2) := by decide +kernel
theorem dL_law_797 : decode cL_law 797 = .ok (.lconst 1, 1) := by decide +kernel
theorem dL_law_798 : decode cL_law 798 = .ok (.lcmp, 1) := by decide +kernel
theorem dL_law_799 : decode cL_law 799 = .ok (.ifCond .le 26, 3) := by decide +kernel
theorem dL_law_802 : decode cL_law 802 = .ok (.lload 27, 2) := by decide +kernel
theorem dL_law_804 : decode cL_law 804 = .ok (.invokestatic 206, 3) := by decide +kernel
theorem dL_law_807 : decode cL_law 807 = .ok (.ifCond .eq 18, 3) := by decide +kernel
theorem dL_law_810 : decode cL_law 810 = .ok (.lload 27, 2) := by decide +kernel
theorem dL_law_812 : decode cL_law 812 = .ok (.aload 5, 2) := by decide +kernel
theorem dL_law_814 : decode cL_law 814 = .ok (.iload 20, 2) := by decide +kernel
theorem dL_law_816 : decode cL_law 816 = .ok (.laload, 1) := by decide +kernel
theorem dL_law_817 : decode cL_law 817 = .ok (.lcmp, 1) := by decide +kernel
theorem dL_law_818 : decode cL_law 818 = .ok (.ifCond .eq 7, 3) := by decide +kernel
theorem dL_law_821 : decode cL_law 821 = .ok (.iconst 1, 1) := by decide +kernel
theorem dL_law_822 : decode cL_law 822 = .ok (.goto 4, 3) := by decide +kernel
theorem dL_law_825 : decode cL_law 825 = .ok (.iconst 0, 1) := by decide +kernel
theorem dL_law_826 : decode cL_law 826 = .ok (.istore 29, 2) := by decide +kernel
theorem dL_law_828 : decode cL_law 828 = .ok (.iload 26, 2) := by decide +kernel
theorem dL_law_830 : decode cL_law 830 = .ok (.ifCond .eq 13, 3) := by decide +kernel
theorem dL_law_833 : decode cL_law 833 = .ok (.lload 27, 2) := by decide +kernel
theorem dL_law_835 : decode cL_law 835 = .ok (.invokestatic 7, 3) := by decide +kernel
theorem dL_law_838 : decode cL_law 838 = .ok (.bipush 6, 2) := by decide +kernel
theorem dL_law_840 : decode cL_law 840 = .ok (.if_icmp .ge 90, 3) := by decide +kernel
theorem dL_law_843 : decode cL_law 843 = .ok (.aload_n 1, 1) := by decide +kernel
theorem dL_law_844 : decode cL_law 844 = .ok (.iconst 2, 1) := by decide +kernel
theorem dL_law_845 : decode cL_law 845 = .ok (.iload 18, 2) := by decide +kernel
theorem dL_law_847 : decode cL_law 847 = .ok (.iload 25, 2) := by decide +kernel
theorem dL_law_849 : decode cL_law 849 = .ok (.ifCond .ge 9, 3) := by decide +kernel
theorem dL_law_852 : decode cL_law 852 = .ok (.aload_n 2, 1) := by decide +kernel
theorem dL_law_853 : decode cL_law 853 = .ok (.iconst 0, 1) := by decide +kernel
theorem dL_law_854 : decode cL_law 854 = .ok (.iaload, 1) := by decide +kernel
theorem dL_law_855 : decode cL_law 855 = .ok (.goto 5, 3) := by decide +kernel
theorem dL_law_858 : decode cL_law 858 = .ok (.iload 25, 2) := by decide +kernel
theorem dL_law_860 : decode cL_law 860 = .ok (.iconst 0, 1) := by decide +kernel
theorem dL_law_861 : decode cL_law 861 = .ok (.invokestatic 132, 3) := by decide +kernel
theorem dL_law_864 : decode cL_law 864 = .ok (.iload 26, 2) := by decide +kernel
theorem dL_law_866 : decode cL_law 866 = .ok (.ifCond .ne 8, 3) := by decide +kernel
theorem dL_law_869 : decode cL_law 869 = .ok (.bipush (-11), 2) := by decide +kernel
theorem dL_law_871 : decode cL_law 871 = .ok (.goto 16, 3) := by decide +kernel
theorem dL_law_874 : decode cL_law 874 = .ok (.iload 29, 2) := by decide +kernel
theorem dL_law_876 : decode cL_law 876 = .ok (.ifCond .eq 9, 3) := by decide +kernel
theorem dL_law_879 : decode cL_law 879 = .ok (.aload_n 2, 1) := by decide +kernel
theorem dL_law_880 : decode cL_law 880 = .ok (.iconst 0, 1) := by decide +kernel
theorem dL_law_881 : decode cL_law 881 = .ok (.iaload, 1) := by decide +kernel
theorem dL_law_882 : decode cL_law 882 = .ok (.goto 5, 3) := by decide +kernel
theorem dL_law_885 : decode cL_law 885 = .ok (.bipush (-13), 2) := by decide +kernel
theorem dL_law_887 : decode cL_law 887 = .ok (.if_icmp .ne 7, 3) := by decide +kernel
theorem dL_law_890 : decode cL_law 890 = .ok (.iconst 1, 1) := by decide +kernel
theorem dL_law_891 : decode cL_law 891 = .ok (.goto 4, 3) := by decide +kernel
theorem dL_law_894 : decode cL_law 894 = .ok (.iconst 0, 1) := by decide +kernel
theorem dL_law_895 : decode cL_law 895 = .ok (.istore 13, 2) := by decide +kernel
theorem dL_law_897 : decode cL_law 897 = .ok (.iload 29, 2) := by decide +kernel
theorem dL_law_899 : decode cL_law 899 = .ok (.ifCond .eq 31, 3) := by decide +kernel
theorem dL_law_902 : decode cL_law 902 = .ok (.aload_n 2, 1) := by decide +kernel
theorem dL_law_903 : decode cL_law 903 = .ok (.iconst 2, 1) := by decide +kernel
theorem dL_law_904 : decode cL_law 904 = .ok (.dup2, 1) := by decide +kernel
theorem dL_law_905 : decode cL_law 905 = .ok (.iaload, 1) := by decide +kernel
theorem dL_law_906 : decode cL_law 906 = .ok (.iconst 1, 1) := by decide +kernel
theorem dL_law_907 : decode cL_law 907 = .ok (.iadd, 1) := by decide +kernel
theorem dL_law_908 : decode cL_law 908 = .ok (.iastore, 1) := by decide +kernel
theorem dL_law_909 : decode cL_law 909 = .ok (.aload_n 2, 1) := by decide +kernel
theorem dL_law_910 : decode cL_law 910 = .ok (.aload 4, 2) := by decide +kernel
theorem dL_law_912 : decode cL_law 912 = .ok (.aload 5, 2) := by decide +kernel
theorem dL_law_914 : decode cL_law 914 = .ok (.aload_n 3, 1) := by decide +kernel
theorem dL_law_915 : decode cL_law 915 = .ok (.iload 18, 2) := by decide +kernel
theorem dL_law_917 : decode cL_law 917 = .ok (.iaload, 1) := by decide +kernel
theorem dL_law_918 : decode cL_law 918 = .ok (.iconst 1, 1) := by decide +kernel
theorem dL_law_919 : decode cL_law 919 = .ok (.isub, 1) := by decide +kernel
theorem dL_law_920 : decode cL_law 920 = .ok (.aload_n 2, 1) := by decide +kernel
theorem dL_law_921 : decode cL_law 921 = .ok (.iconst 2, 1) := by decide +kernel
theorem dL_law_922 : decode cL_law 922 = .ok (.iaload, 1) := by decide +kernel
theorem dL_law_923 : decode cL_law 923 = .ok (.lload 27, 2) := by decide +kernel
theorem dL_law_925 : decode cL_law 925 = .ok (.invokestatic 194, 3) := by decide +kernel
theorem dL_law_928 : decode cL_law 928 = .ok (.istore 30, 2) := by decide +kernel
theorem dL_law_930 : decode cL_law 930 = .ok (.goto 858, 3) := by decide +kernel
theorem dL_law_933 : decode cL_law 933 = .ok (.iload 16, 2) := by decide +kernel
theorem dL_law_935 : decode cL_law 935 = .ok (.bipush 11, 2) := by decide +kernel
theorem dL_law_937 : decode cL_law 937 = .ok (.if_icmp .ne 129, 3) := by decide +kernel
theorem dL_law_940 : decode cL_law 940 = .ok (.aload_n 2, 1) := by decide +kernel
theorem dL_law_941 : decode cL_law 941 = .ok (.iconst 0, 1) := by decide +kernel
theorem dL_law_942 : decode cL_law 942 = .ok (.iaload, 1) := by decide +kernel
theorem dL_law_943 : decode cL_law 943 = .ok (.bipush 32, 2) := by decide +kernel
theorem dL_law_945 : decode cL_law 945 = .ok (.if_icmp .ge 121, 3) := by decide +kernel
theorem dL_law_948 : decode cL_law 948 = .ok (.iload 17, 2) := by decide +kernel
theorem dL_law_950 : decode cL_law 950 = .ok (.bipush 9, 2) := by decide +kernel
theorem dL_law_952 : decode cL_law 952 = .ok (.idiv, 1) := by decide +kernel
theorem dL_law_953 : decode cL_law 953 = .ok (.aload_n 2, 1) := by decide +kernel
theorem dL_law_954 : decode cL_law 954 = .ok (.iconst 2, 1) := by decide +kernel
theorem dL_law_955 : decode cL_law 955 = .ok (.iaload, 1) := by decide +kernel
theorem dL_law_956 : decode cL_law 956 = .ok (.iconst 2, 1) := by decide +kernel
theorem dL_law_957 : decode cL_law 957 = .ok (.iadd, 1) := by decide +kernel
theorem dL_law_958 : decode cL_law 958 = .ok (.irem, 1) := by decide +kernel
theorem dL_law_959 : decode cL_law 959 = .ok (.istore 24, 2) := by decide +kernel
theorem dL_law_961 : decode cL_law 961 = .ok (.iload 19, 2) := by decide +kernel
theorem dL_law_963 : decode cL_law 963 = .ok (.ifCond .eq 20, 3) := by decide +kernel
theorem dL_law_966 : decode cL_law 966 = .ok (.iload 24, 2) := by decide +kernel
theorem dL_law_968 : decode cL_law 968 = .ok (.ifCond .le 15, 3) := by decide +kernel
theorem dL_law_971 : decode cL_law 971 = .ok (.iload 24, 2) := by decide +kernel
theorem dL_law_973 : decode cL_law 973 = .ok (.aload_n 2, 1) := by decide +kernel
theorem dL_law_974 : decode cL_law 974 = .ok (.iconst 2, 1) := by decide +kernel
theorem dL_law_975 : decode cL_law 975 = .ok (.iaload, 1) := by decide +kernel
theorem dL_law_976 : decode cL_law 976 = .ok (.if_icmp .gt 7, 3) := by decide +kernel
theorem dL_law_979 : decode cL_law 979 = .ok (.iconst 1, 1) := by decide +kernel
theorem dL_law_980 : decode cL_law 980 = .ok (.goto 4, 3) := by decide +kernel
theorem dL_law_983 : decode cL_law 983 = .ok (.iconst 0, 1) := by decide +kernel
theorem dL_law_984 : decode cL_law 984 = .ok (.istore 25, 2) := by decide +kernel
theorem dL_law_986 : decode cL_law 986 = .ok (.aload_n 1, 1) := by decide +kernel
theorem dL_law_987 : decode cL_law 987 = .ok (.lload 21, 2) := by decide +kernel
theorem dL_law_989 : decode cL_law 989 = .ok (.invokestatic 190, 3) := by decide +kernel
theorem dL_law_992 : decode cL_law 992 = .ok (.ifCond .eq 43, 3) := by decide +kernel
theorem dL_law_995 : decode cL_law 995 = .ok (.aload_n 1, 1) := by decide +kernel
theorem dL_law_996 : decode cL_law 996 = .ok (.iconst 3, 1) := by decide +kernel
theorem dL_law_997 : decode cL_law 997 = .ok (.iload 18, 2) := by decide +kernel
theorem dL_law_999 : decode cL_law 999 = .ok (.iload 24, 2) := by decide +kernel
theorem dL_law_1001 : decode cL_law 1001 = .ok (.iconst 0, 1) := by decide +kernel
theorem dL_law_1002 : decode cL_law 1002 = .ok (.invokestatic 132, 3) := by decide +kernel
theorem dL_law_1005 : decode cL_law 1005 = .ok (.iload 19, 2) := by decide +kernel
theorem dL_law_1007 : decode cL_law 1007 = .ok (.ifCond .ne 8, 3) := by decide +kernel
theorem dL_law_1010 : decode cL_law 1010 = .ok (.bipush (-11), 2) := by decide +kernel
theorem dL_law_1012 : decode cL_law 1012 = .ok (.goto 16, 3) := by decide +kernel
theorem dL_law_1015 : decode cL_law 1015 = .ok (.iload 25, 2) := by decide +kernel
theorem dL_law_1017 : decode cL_law 1017 = .ok (.ifCond .eq 9, 3) := by decide +kernel
theorem dL_law_1020 : decode cL_law 1020 = .ok (.aload_n 2, 1) := by decide +kernel
theorem dL_law_1021 : decode cL_law 1021 = .ok (.iconst 0, 1) := by decide +kernel
theorem dL_law_1022 : decode cL_law 1022 = .ok (.iaload, 1) := by decide +kernel
theorem dL_law_1023 : decode cL_law 1023 = .ok (.goto 5, 3) := by decide +kernel
theorem dL_law_1026 : decode cL_law 1026 = .ok (.bipush (-12), 2) := by decide +kernel
theorem dL_law_1028 : decode cL_law 1028 = .ok (.if_icmp .ne 7, 3) := by decide +kernel
theorem dL_law_1031 : decode cL_law 1031 = .ok (.iconst 1, 1) := by decide +kernel
theorem dL_law_1032 : decode cL_law 1032 = .ok (.goto 4, 3) := by decide +kernel
theorem dL_law_1035 : decode cL_law 1035 = .ok (.iconst 0, 1) := by decide +kernel
theorem dL_law_1036 : decode cL_law 1036 = .ok (.istore 13, 2) := by decide +kernel
theorem dL_law_1038 : decode cL_law 1038 = .ok (.iload 25, 2) := by decide +kernel
theorem dL_law_1040 : decode cL_law 1040 = .ok (.ifCond .eq 23, 3) := by decide +kernel
theorem dL_law_1043 : decode cL_law 1043 = .ok (.aload_n 2, 1) := by decide +kernel
theorem dL_law_1044 : decode cL_law 1044 = .ok (.aload 4, 2) := by decide +kernel
theorem dL_law_1046 : decode cL_law 1046 = .ok (.aload 5, 2) := by decide +kernel
theorem dL_law_1048 : decode cL_law 1048 = .ok (.aload_n 3, 1) := by decide +kernel
theorem dL_law_1049 : decode cL_law 1049 = .ok (.iload 18, 2) := by decide +kernel
theorem dL_law_1051 : decode cL_law 1051 = .ok (.iaload, 1) := by decide +kernel
theorem dL_law_1052 : decode cL_law 1052 = .ok (.iconst 1, 1) := by decide +kernel
theorem dL_law_1053 : decode cL_law 1053 = .ok (.isub, 1) := by decide +kernel
theorem dL_law_1054 : decode cL_law 1054 = .ok (.iload 24, 2) := by decide +kernel
theorem dL_law_1056 : decode cL_law 1056 = .ok (.lload 21, 2) := by decide +kernel
theorem dL_law_1058 : decode cL_law 1058 = .ok (.invokestatic 194, 3) := by decide +kernel
theorem dL_law_1061 : decode cL_law 1061 = .ok (.istore 26, 2) := by decide +kernel
theorem dL_law_1063 : decode cL_law 1063 = .ok (.goto 725, 3) := by decide +kernel
theorem dL_law_1066 : decode cL_law 1066 = .ok (.iload 16, 2) := by decide +kernel
theorem dL_law_1068 : decode cL_law 1068 = .ok (.bipush 14, 2) := by decide +kernel
theorem dL_law_1070 : decode cL_law 1070 = .ok (.if_icmp .ge 161, 3) := by decide +kernel
theorem dL_law_1073 : decode cL_law 1073 = .ok (.aload_n 2, 1) := by decide +kernel
theorem dL_law_1074 : decode cL_law 1074 = .ok (.iconst 0, 1) := by decide +kernel
theorem dL_law_1075 : decode cL_law 1075 = .ok (.iaload, 1) := by decide +kernel
theorem dL_law_1076 : decode cL_law 1076 = .ok (.bipush 32, 2) := by decide +kernel
theorem dL_law_1078 : decode cL_law 1078 = .ok (.if_icmp .ge 153, 3) := by decide +kernel
theorem dL_law_1081 : decode cL_law 1081 = .ok (.iload 19, 2) := by decide +kernel
theorem dL_law_1083 : decode cL_law 1083 = .ok (.ifCond .eq 14, 3) := by decide +kernel
theorem dL_law_1086 : decode cL_law 1086 = .ok (.aload_n 3, 1) := by decide +kernel
theorem dL_law_1087 : decode cL_law 1087 = .ok (.iload 23, 2) := by decide +kernel
theorem dL_law_1089 : decode cL_law 1089 = .ok (.iaload, 1) := by decide +kernel
theorem dL_law_1090 : decode cL_law 1090 = .ok (.ifCond .ne 7, 3) := by decide +kernel
theorem dL_law_1093 : decode cL_law 1093 = .ok (.iconst 1, 1) := by decide +kernel
theorem dL_law_1094 : decode cL_law 1094 = .ok (.goto 4, 3) := by decide +kernel
theorem dL_law_1097 : decode cL_law 1097 = .ok (.iconst 0, 1) := by decide +kernel
theorem dL_law_1098 : decode cL_law 1098 = .ok (.istore 24, 2) := by decide +kernel
theorem dL_law_1100 : decode cL_law 1100 = .ok (.aload_n 1, 1) := by decide +kernel
theorem dL_law_1101 : decode cL_law 1101 = .ok (.iconst 4, 1) := by decide +kernel
theorem dL_law_1102 : decode cL_law 1102 = .ok (.iload 18, 2) := by decide +kernel
theorem dL_law_1104 : decode cL_law 1104 = .ok (.iload 23, 2) := by decide +kernel
theorem dL_law_1106 : decode cL_law 1106 = .ok (.iconst 0, 1) := by decide +kernel
theorem dL_law_1107 : decode cL_law 1107 = .ok (.invokestatic 132, 3) := by decide +kernel
theorem dL_law_1110 : decode cL_law 1110 = .ok (.iload 19, 2) := by decide +kernel
theorem dL_law_1112 : decode cL_law 1112 = .ok (.ifCond .ne 8, 3) := by decide +kernel
theorem dL_law_1115 : decode cL_law 1115 = .ok (.bipush (-11), 2) := by decide +kernel
theorem dL_law_1117 : decode cL_law 1117 = .ok (.goto 16, 3) := by decide +kernel
theorem dL_law_1120 : decode cL_law 1120 = .ok (.iload 24, 2) := by decide +kernel
theorem dL_law_1122 : decode cL_law 1122 = .ok (.ifCond .eq 9, 3) := by decide +kernel
theorem dL_law_1125 : decode cL_law 1125 = .ok (.aload_n 2, 1) := by decide +kernel
theorem dL_law_1126 : decode cL_law 1126 = .ok (.iconst 0, 1) := by decide +kernel
theorem dL_law_1127 : decode cL_law 1127 = .ok (.iaload, 1) := by decide +kernel
theorem dL_law_1128 : decode cL_law 1128 = .ok (.goto 5, 3) := by decide +kernel
theorem dL_law_1131 : decode cL_law 1131 = .ok (.bipush (-13), 2) := by decide +kernel
theorem dL_law_1133 : decode cL_law 1133 = .ok (.if_icmp .ne 7, 3) := by decide +kernel
theorem dL_law_1136 : decode cL_law 1136 = .ok (.iconst 1, 1) := by decide +kernel
theorem dL_law_1137 : decode cL_law 1137 = .ok (.goto 4, 3) := by decide +kernel
theorem dL_law_1140 : decode cL_law 1140 = .ok (.iconst 0, 1) := by decide +kernel
theorem dL_law_1141 : decode cL_law 1141 = .ok (.istore 13, 2) := by decide +kernel
theorem dL_law_1143 : decode cL_law 1143 = .ok (.iload 24, 2) := by decide +kernel
theorem dL_law_1145 : decode cL_law 1145 = .ok (.ifCond .eq 83, 3) := by decide +kernel
theorem dL_law_1148 : decode cL_law 1148 = .ok (.aload_n 2, 1) := by decide +kernel
theorem dL_law_1149 : decode cL_law 1149 = .ok (.aload 8, 2) := by decide +kernel
theorem dL_law_1151 : decode cL_law 1151 = .ok (.aload 10, 2) := by decide +kernel
theorem dL_law_1153 : decode cL_law 1153 = .ok (.iload 18, 2) := by decide +kernel
theorem dL_law_1155 : decode cL_law 1155 = .ok (.iconst 0, 1) := by decide +kernel
theorem dL_law_1156 : decode cL_law 1156 = .ok (.invokestatic 51, 3) := by decide +kernel
theorem dL_law_1159 : decode cL_law 1159 = .ok (.aload 8, 2) := by decide +kernel
theorem dL_law_1161 : decode cL_law 1161 = .ok (.bipush 7, 2) := by decide +kernel
theorem dL_law_1163 : decode cL_law 1163 = .ok (.iload 18, 2) := by decide +kernel
theorem dL_law_1165 : decode cL_law 1165 = .ok (.imul, 1) := by decide +kernel
theorem dL_law_1166 : decode cL_law 1166 = .ok (.iconst 0, 1) := by decide +kernel
theorem dL_law_1167 : decode cL_law 1167 = .ok (.iastore, 1) := by decide +kernel
theorem dL_law_1168 : decode cL_law 1168 = .ok (.aload_n 3, 1) := by decide +kernel
theorem dL_law_1169 : decode cL_law 1169 = .ok (.iload 23, 2) := by decide +kernel
theorem dL_law_1171 : decode cL_law 1171 = .ok (.aload_n 3, 1) := by decide +kernel
theorem dL_law_1172 : decode cL_law 1172 = .ok (.iload 18, 2) := by decide +kernel
theorem dL_law_1174 : decode cL_law 1174 = .ok (.iaload, 1) := by decide +kernel
theorem dL_law_1175 : decode cL_law 1175 = .ok (.iastore, 1) := by decide +kernel
theorem dL_law_1176 : decode cL_law 1176 = .ok (.aload_n 3, 1) := by decide +kernel
theorem dL_law_1177 : decode cL_law 1177 = .ok (.iload 18, 2) := by decide +kernel
theorem dL_law_1179 : decode cL_law 1179 = .ok (.aload_n 2, 1) := by decide +kernel
theorem dL_law_1180 : decode cL_law 1180 = .ok (.iconst 1, 1) := by decide +kernel
theorem dL_law_1181 : decode cL_law 1181 = .ok (.iaload, 1) := by decide +kernel
theorem dL_law_1182 : decode cL_law 1182 = .ok (.iconst 1, 1) := by decide +kernel
theorem dL_law_1183 : decode cL_law 1183 = .ok (.iadd, 1) := by decide +kernel
theorem dL_law_1184 : decode cL_law 1184 = .ok (.iastore, 1) := by decide +kernel
theorem dL_law_1185 : decode cL_law 1185 = .ok (.aload_n 2, 1) := by decide +kernel
theorem dL_law_1186 : decode cL_law 1186 = .ok (.iconst 2, 1) := by decide +kernel
theorem dL_law_1187 : decode cL_law 1187 = .ok (.dup2, 1) := by decide +kernel
theorem dL_law_1188 : decode cL_law 1188 = .ok (.iaload, 1) := by decide +kernel
theorem dL_law_1189 : decode cL_law 1189 = .ok (.iconst 1, 1) := by decide +kernel
theorem dL_law_1190 : decode cL_law 1190 = .ok (.iadd, 1) := by decide +kernel
theorem dL_law_1191 : decode cL_law 1191 = .ok (.iastore, 1) := by decide +kernel
theorem dL_law_1192 : decode cL_law 1192 = .ok (.aload_n 2, 1) := by decide +kernel
theorem dL_law_1193 : decode cL_law 1193 = .ok (.aload 4, 2) := by decide +kernel
theorem dL_law_1195 : decode cL_law 1195 = .ok (.aload 5, 2) := by decide +kernel
theorem dL_law_1197 : decode cL_law 1197 = .ok (.aload_n 2, 1) := by decide +kernel
theorem dL_law_1198 : decode cL_law 1198 = .ok (.iconst 1, 1) := by decide +kernel
theorem dL_law_1199 : decode cL_law 1199 = .ok (.iaload, 1) := by decide +kernel
theorem dL_law_1200 : decode cL_law 1200 = .ok (.aload_n 2, 1) := by decide +kernel
theorem dL_law_1201 : decode cL_law 1201 = .ok (.iconst 2, 1) := by decide +kernel
theorem dL_law_1202 : decode cL_law 1202 = .ok (.iaload, 1) := by decide +kernel
theorem dL_law_1203 : decode cL_law 1203 = .ok (.ldc2_w 130, 3) := by decide +kernel
theorem dL_law_1206 : decode cL_law 1206 = .ok (.bipush 10, 2) := by decide +kernel
theorem dL_law_1208 : decode cL_law 1208 = .ok (.bipush 16, 2) := by decide +kernel
theorem dL_law_1210 : decode cL_law 1210 = .ok (.iload 23, 2) := by decide +kernel
theorem dL_law_1212 : decode cL_law 1212 = .ok (.imul, 1) := by decide +kernel
theorem dL_law_1213 : decode cL_law 1213 = .ok (.iadd, 1) := by decide +kernel
theorem dL_law_1214 : decode cL_law 1214 = .ok (.i2l, 1) := by decide +kernel
theorem dL_law_1215 : decode cL_law 1215 = .ok (.lor, 1) := by decide +kernel
theorem dL_law_1216 : decode cL_law 1216 = .ok (.invokestatic 194, 3) := by decide +kernel
theorem dL_law_1219 : decode cL_law 1219 = .ok (.istore 25, 2) := by decide +kernel
theorem dL_law_1221 : decode cL_law 1221 = .ok (.aload_n 2, 1) := by decide +kernel
theorem dL_law_1222 : decode cL_law 1222 = .ok (.iconst 1, 1) := by decide +kernel
theorem dL_law_1223 : decode cL_law 1223 = .ok (.dup2, 1) := by decide +kernel
theorem dL_law_1224 : decode cL_law 1224 = .ok (.iaload, 1) := by decide +kernel
theorem dL_law_1225 : decode cL_law 1225 = .ok (.iconst 1, 1) := by decide +kernel
theorem dL_law_1226 : decode cL_law 1226 = .ok (.iadd, 1) := by decide +kernel
theorem dL_law_1227 : decode cL_law 1227 = .ok (.iastore, 1) := by decide +kernel
theorem dL_law_1228 : decode cL_law 1228 = .ok (.goto 560, 3) := by decide +kernel
theorem dL_law_1231 : decode cL_law 1231 = .ok (.iload 16, 2) := by decide +kernel
theorem dL_law_1233 : decode cL_law 1233 = .ok (.bipush 14, 2) := by decide +kernel
theorem dL_law_1235 : decode cL_law 1235 = .ok (.if_icmp .ne 38, 3) := by decide +kernel
theorem dL_law_1238 : decode cL_law 1238 = .ok (.aload_n 2, 1) := by decide +kernel
theorem dL_law_1239 : decode cL_law 1239 = .ok (.iconst 0, 1) := by decide +kernel
theorem dL_law_1240 : decode cL_law 1240 = .ok (.iaload, 1) := by decide +kernel
theorem dL_law_1241 : decode cL_law 1241 = .ok (.bipush 24, 2) := by decide +kernel
theorem dL_law_1243 : decode cL_law 1243 = .ok (.if_icmp .ge 30, 3) := by decide +kernel
theorem dL_law_1246 : decode cL_law 1246 = .ok (.aload_n 1, 1) := by decide +kernel
theorem dL_law_1247 : decode cL_law 1247 = .ok (.aload_n 2, 1) := by decide +kernel
theorem dL_law_1248 : decode cL_law 1248 = .ok (.aload_n 3, 1) := by decide +kernel
theorem dL_law_1249 : decode cL_law 1249 = .ok (.aload 4, 2) := by decide +kernel
theorem dL_law_1251 : decode cL_law 1251 = .ok (.aload 5, 2) := by decide +kernel
theorem dL_law_1253 : decode cL_law 1253 = .ok (.aload 6, 2) := by decide +kernel
theorem dL_law_1255 : decode cL_law 1255 = .ok (.aload 7, 2) := by decide +kernel
theorem dL_law_1257 : decode cL_law 1257 = .ok (.aload 8, 2) := by decide +kernel
theorem dL_law_1259 : decode cL_law 1259 = .ok (.aload 10, 2) := by decide +kernel
theorem dL_law_1261 : decode cL_law 1261 = .ok (.iload 17, 2) := by decide +kernel
theorem dL_law_1263 : decode cL_law 1263 = .ok (.iconst 2, 1) := by decide +kernel
theorem dL_law_1264 : decode cL_law 1264 = .ok (.irem, 1) := by decide +kernel
theorem dL_law_1265 : decode cL_law 1265 = .ok (.invokestatic 213, 3) := by decide +kernel
theorem dL_law_1268 : decode cL_law 1268 = .ok (.istore 13, 2) := by decide +kernel
theorem dL_law_1270 : decode cL_law 1270 = .ok (.goto 518, 3) := by decide +kernel
theorem dL_law_1273 : decode cL_law 1273 = .ok (.iload 16, 2) := by decide +kernel
theorem dL_law_1275 : decode cL_law 1275 = .ok (.bipush 15, 2) := by decide +kernel
theorem dL_law_1277 : decode cL_law 1277 = .ok (.if_icmp .ne 57, 3) := by decide +kernel
theorem dL_law_1280 : decode cL_law 1280 = .ok (.aload_n 1, 1) := by decide +kernel
theorem dL_law_1281 : decode cL_law 1281 = .ok (.bipush 6, 2) := by decide +kernel
theorem dL_law_1283 : decode cL_law 1283 = .ok (.iload 18, 2) := by decide +kernel
theorem dL_law_1285 : decode cL_law 1285 = .ok (.iconst 0, 1) := by decide +kernel
theorem dL_law_1286 : decode cL_law 1286 = .ok (.iconst 0, 1) := by decide +kernel
theorem dL_law_1287 : decode cL_law 1287 = .ok (.invokestatic 132, 3) := by decide +kernel
theorem dL_law_1290 : decode cL_law 1290 = .ok (.iload 19, 2) := by decide +kernel
theorem dL_law_1292 : decode cL_law 1292 = .ok (.ifCond .eq 11, 3) := by decide +kernel
theorem dL_law_1295 : decode cL_law 1295 = .ok (.aload_n 2, 1) := by decide +kernel
theorem dL_law_1296 : decode cL_law 1296 = .ok (.iconst 2, 1) := by decide +kernel
theorem dL_law_1297 : decode cL_law 1297 = .ok (.iaload, 1) := by decide +kernel
theorem dL_law_1298 : decode cL_law 1298 = .ok (.iconst 1, 1) := by decide +kernel
theorem dL_law_1299 : decode cL_law 1299 = .ok (.iadd, 1) := by decide +kernel
theorem dL_law_1300 : decode cL_law 1300 = .ok (.goto 5, 3) := by decide +kernel
theorem dL_law_1303 : decode cL_law 1303 = .ok (.bipush (-11), 2) := by decide +kernel
theorem dL_law_1305 : decode cL_law 1305 = .ok (.if_icmp .ne 7, 3) := by decide +kernel
theorem dL_law_1308 : decode cL_law 1308 = .ok (.iconst 1, 1) := by decide +kernel
theorem dL_law_1309 : decode cL_law 1309 = .ok (.goto 4, 3) := by decide +kernel
theorem dL_law_1312 : decode cL_law 1312 = .ok (.iconst 0, 1) := by decide +kernel
theorem dL_law_1313 : decode cL_law 1313 = .ok (.istore 13, 2) := by decide +kernel
theorem dL_law_1315 : decode cL_law 1315 = .ok (.aload_n 2, 1) := by decide +kernel
theorem dL_law_1316 : decode cL_law 1316 = .ok (.iconst 2, 1) := by decide +kernel
theorem dL_law_1317 : decode cL_law 1317 = .ok (.dup2, 1) := by decide +kernel
theorem dL_law_1318 : decode cL_law 1318 = .ok (.iaload, 1) := by decide +kernel
theorem dL_law_1319 : decode cL_law 1319 = .ok (.iload 19, 2) := by decide +kernel
theorem dL_law_1321 : decode cL_law 1321 = .ok (.ifCond .eq 7, 3) := by decide +kernel
theorem dL_law_1324 : decode cL_law 1324 = .ok (.iconst 1, 1) := by decide +kernel
theorem dL_law_1325 : decode cL_law 1325 = .ok (.goto 4, 3) := by decide +kernel
theorem dL_law_1328 : decode cL_law 1328 = .ok (.iconst 0, 1) := by decide +kernel
theorem dL_law_1329 : decode cL_law 1329 = .ok (.iadd, 1) := by decide +kernel
theorem dL_law_1330 : decode cL_law 1330 = .ok (.iastore, 1) := by decide +kernel
theorem dL_law_1331 : decode cL_law 1331 = .ok (.goto 457, 3) := by decide +kernel
theorem dL_law_1334 : decode cL_law 1334 = .ok (.iload 16, 2) := by decide +kernel
theorem dL_law_1336 : decode cL_law 1336 = .ok (.bipush 19, 2) := by decide +kernel
theorem dL_law_1338 : decode cL_law 1338 = .ok (.if_icmp .ge 96, 3) := by decide +kernel
theorem dL_law_1341 : decode cL_law 1341 = .ok (.iconst 1, 1) := by decide +kernel
theorem dL_law_1342 : decode cL_law 1342 = .ok (.iload 17, 2) := by decide +kernel
theorem dL_law_1344 : decode cL_law 1344 = .ok (.iconst 4, 1) := by decide +kernel
theorem dL_law_1345 : decode cL_law 1345 = .ok (.irem, 1) := by decide +kernel
theorem dL_law_1346 : decode cL_law 1346 = .ok (.iadd, 1) := by decide +kernel
theorem dL_law_1347 : decode cL_law 1347 = .ok (.istore 24, 2) := by decide +kernel
theorem dL_law_1349 : decode cL_law 1349 = .ok (.iconst 0, 1) := by decide +kernel
theorem dL_law_1350 : decode cL_law 1350 = .ok (.istore 25, 2) := by decide +kernel
theorem dL_law_1352 : decode cL_law 1352 = .ok (.aload_n 3, 1) := by decide +kernel
theorem dL_law_1353 : decode cL_law 1353 = .ok (.aload 6, 2) := by decide +kernel
theorem dL_law_1355 : decode cL_law 1355 = .ok (.aload 8, 2) := by decide +kernel
theorem dL_law_1357 : decode cL_law 1357 = .ok (.aload 10, 2) := by decide +kernel
theorem dL_law_1359 : decode cL_law 1359 = .ok (.invokestatic 217, 3) := by decide +kernel
theorem dL_law_1362 : decode cL_law 1362 = .ok (.istore 26, 2) := by decide +kernel
theorem dL_law_1364 : decode cL_law 1364 = .ok (.iload 26, 2) := by decide +kernel
theorem dL_law_1366 : decode cL_law 1366 = .ok (.ifCond .lt 47, 3) := by decide +kernel
theorem dL_law_1369 : decode cL_law 1369 = .ok (.iload 25, 2) := by decide +kernel
theorem dL_law_1371 : decode cL_law 1371 = .ok (.iload 24, 2) := by decide +kernel
theorem dL_law_1373 : decode cL_law 1373 = .ok (.if_icmp .ge 40, 3) := by decide +kernel
theorem dL_law_1376 : decode cL_law 1376 = .ok (.aload_n 2, 1) := by decide +kernel
theorem dL_law_1377 : decode cL_law 1377 = .ok (.aload_n 3, 1) := by decide +kernel
theorem dL_law_1378 : decode cL_law 1378 = .ok (.aload 4, 2) := by decide +kernel
theorem dL_law_1380 : decode cL_law 1380 = .ok (.aload 5, 2) := by decide +kernel
theorem dL_law_1382 : decode cL_law 1382 = .ok (.aload 8, 2) := by decide +kernel
theorem dL_law_1384 : decode cL_law 1384 = .ok (.aload 9, 2) := by decide +kernel
theorem dL_law_1386 : decode cL_law 1386 = .ok (.aload 10, 2) := by decide +kernel
theorem dL_law_1388 : decode cL_law 1388 = .ok (.aload 12, 2) := by decide +kernel
theorem dL_law_1390 : decode cL_law 1390 = .ok (.iload 26, 2) := by decide +kernel
theorem dL_law_1392 : decode cL_law 1392 = .ok (.invokestatic 221, 3) := by decide +kernel
theorem dL_law_1395 : decode cL_law 1395 = .ok (.iinc 25 1, 3) := by decide +kernel
theorem dL_law_1398 : decode cL_law 1398 = .ok (.aload_n 3, 1) := by decide +kernel
theorem dL_law_1399 : decode cL_law 1399 = .ok (.aload 6, 2) := by decide +kernel
theorem dL_law_1401 : decode cL_law 1401 = .ok (.aload 8, 2) := by decide +kernel
theorem dL_law_1403 : decode cL_law 1403 = .ok (.aload 10, 2) := by decide +kernel
theorem dL_law_1405 : decode cL_law 1405 = .ok (.invokestatic 217, 3) := by decide +kernel
theorem dL_law_1408 : decode cL_law 1408 = .ok (.istore 26, 2) := by decide +kernel
theorem dL_law_1410 : decode cL_law 1410 = .ok (.goto (-46), 3) := by decide +kernel
theorem dL_law_1413 : decode cL_law 1413 = .ok (.aload_n 1, 1) := by decide +kernel
theorem dL_law_1414 : decode cL_law 1414 = .ok (.iload 24, 2) := by decide +kernel
theorem dL_law_1416 : decode cL_law 1416 = .ok (.invokevirtual 225, 3) := by decide +kernel
theorem dL_law_1419 : decode cL_law 1419 = .ok (.iload 25, 2) := by decide +kernel
theorem dL_law_1421 : decode cL_law 1421 = .ok (.if_icmp .ne 7, 3) := by decide +kernel
theorem dL_law_1424 : decode cL_law 1424 = .ok (.iconst 1, 1) := by decide +kernel
theorem dL_law_1425 : decode cL_law 1425 = .ok (.goto 4, 3) := by decide +kernel
theorem dL_law_1428 : decode cL_law 1428 = .ok (.iconst 0, 1) := by decide +kernel
theorem dL_law_1429 : decode cL_law 1429 = .ok (.istore 13, 2) := by decide +kernel
theorem dL_law_1431 : decode cL_law 1431 = .ok (.goto 357, 3) := by decide +kernel
theorem dL_law_1434 : decode cL_law 1434 = .ok (.iload 16, 2) := by decide +kernel
theorem dL_law_1436 : decode cL_law 1436 = .ok (.bipush 22, 2) := by decide +kernel
theorem dL_law_1438 : decode cL_law 1438 = .ok (.if_icmp .ge 127, 3) := by decide +kernel
theorem dL_law_1441 : decode cL_law 1441 = .ok (.iload 17, 2) := by decide +kernel
theorem dL_law_1443 : decode cL_law 1443 = .ok (.bipush 8, 2) := by decide +kernel
theorem dL_law_1445 : decode cL_law 1445 = .ok (.idiv, 1) := by decide +kernel
theorem dL_law_1446 : decode cL_law 1446 = .ok (.iconst 2, 1) := by decide +kernel
theorem dL_law_1447 : decode cL_law 1447 = .ok (.irem, 1) := by decide +kernel
theorem dL_law_1448 : decode cL_law 1448 = .ok (.ifCond .ne 7, 3) := by decide +kernel
theorem dL_law_1451 : decode cL_law 1451 = .ok (.iconst 1, 1) := by decide +kernel
theorem dL_law_1452 : decode cL_law 1452 = .ok (.goto 4, 3) := by decide +kernel
theorem dL_law_1455 : decode cL_law 1455 = .ok (.iconst 0, 1) := by decide +kernel
theorem dL_law_1456 : decode cL_law 1456 = .ok (.istore 24, 2) := by decide +kernel
theorem dL_law_1458 : decode cL_law 1458 = .ok (.iload 19, 2) := by decide +kernel
theorem dL_law_1460 : decode cL_law 1460 = .ok (.ifCond .eq 53, 3) := by decide +kernel
theorem dL_law_1463 : decode cL_law 1463 = .ok (.aload 8, 2) := by decide +kernel
theorem dL_law_1465 : decode cL_law 1465 = .ok (.bipush 7, 2) := by decide +kernel
theorem dL_law_1467 : decode cL_law 1467 = .ok (.iload 18, 2) := by decide +kernel
theorem dL_law_1469 : decode cL_law 1469 = .ok (.imul, 1) := by decide +kernel
theorem dL_law_1470 : decode cL_law 1470 = .ok (.iaload, 1) := by decide +kernel
theorem dL_law_1471 : decode cL_law 1471 = .ok (.ifCond .eq 23, 3) := by decide +kernel
theorem dL_law_1474 : decode cL_law 1474 = .ok (.iload 24, 2) := by decide +kernel
theorem dL_law_1476 : decode cL_law 1476 = .ok (.ifCond .ne 37, 3) := by decide +kernel
theorem dL_law_1479 : decode cL_law 1479 = .ok (.aload_n 3, 1) := by decide +kernel
theorem dL_law_1480 : decode cL_law 1480 = .ok (.aload 6, 2) := by decide +kernel
theorem dL_law_1482 : decode cL_law 1482 = .ok (.aload 8, 2) := by decide +kernel
theorem dL_law_1484 : decode cL_law 1484 = .ok (.aload 10, 2) := by decide +kernel
theorem dL_law_1486 : decode cL_law 1486 = .ok (.iload 18, 2) := by decide +kernel
theorem dL_law_1488 : decode cL_law 1488 = .ok (.invokestatic 55, 3) := by decide +kernel
theorem dL_law_1491 : decode cL_law 1491 = .ok (.ifCond .eq 22, 3) := by decide +kernel
theorem dL_law_1494 : decode cL_law 1494 = .ok (.aload_n 2, 1) := by decide +kernel
theorem dL_law_1495 : decode cL_law 1495 = .ok (.aload_n 3, 1) := by decide +kernel
theorem dL_law_1496 : decode cL_law 1496 = .ok (.aload 4, 2) := by decide +kernel
theorem dL_law_1498 : decode cL_law 1498 = .ok (.aload 5, 2) := by decide +kernel
theorem dL_law_1500 : decode cL_law 1500 = .ok (.aload 8, 2) := by decide +kernel
theorem dL_law_1502 : decode cL_law 1502 = .ok (.aload 9, 2) := by decide +kernel
theorem dL_law_1504 : decode cL_law 1504 = .ok (.aload 10, 2) := by decide +kernel
theorem dL_law_1506 : decode cL_law 1506 = .ok (.aload 12, 2) := by decide +kernel
theorem dL_law_1508 : decode cL_law 1508 = .ok (.iload 18, 2) := by decide +kernel
theorem dL_law_1510 : decode cL_law 1510 = .ok (.invokestatic 221, 3) := by decide +kernel
theorem dL_law_1513 : decode cL_law 1513 = .ok (.aload_n 1, 1) := by decide +kernel
theorem dL_law_1514 : decode cL_law 1514 = .ok (.bipush 7, 2) := by decide +kernel
theorem dL_law_1516 : decode cL_law 1516 = .ok (.iload 18, 2) := by decide +kernel
theorem dL_law_1518 : decode cL_law 1518 = .ok (.iload 24, 2) := by decide +kernel
theorem dL_law_1520 : decode cL_law 1520 = .ok (.ifCond .eq 7, 3) := by decide +kernel
theorem dL_law_1523 : decode cL_law 1523 = .ok (.iconst 1, 1) := by decide +kernel
theorem dL_law_1524 : decode cL_law 1524 = .ok (.goto 4, 3) := by decide +kernel
theorem dL_law_1527 : decode cL_law 1527 = .ok (.iconst 0, 1) := by decide +kernel
theorem dL_law_1528 : decode cL_law 1528 = .ok (.iconst 0, 1) := by decide +kernel
theorem dL_law_1529 : decode cL_law 1529 = .ok (.invokestatic 132, 3) := by decide +kernel
theorem dL_law_1532 : decode cL_law 1532 = .ok (.iload 19, 2) := by decide +kernel
theorem dL_law_1534 : decode cL_law 1534 = .ok (.ifCond .eq 16, 3) := by decide +kernel
theorem dL_law_1537 : decode cL_law 1537 = .ok (.aload 8, 2) := by decide +kernel
theorem dL_law_1539 : decode cL_law 1539 = .ok (.bipush 7, 2) := by decide +kernel
theorem dL_law_1541 : decode cL_law 1541 = .ok (.iload 18, 2) := by decide +kernel
theorem dL_law_1543 : decode cL_law 1543 = .ok (.imul, 1) := by decide +kernel
theorem dL_law_1544 : decode cL_law 1544 = .ok (.iconst 1, 1) := by decide +kernel
theorem dL_law_1545 : decode cL_law 1545 = .ok (.iadd, 1) := by decide +kernel
theorem dL_law_1546 : decode cL_law 1546 = .ok (.iaload, 1) := by decide +kernel
theorem dL_law_1547 : decode cL_law 1547 = .ok (.goto 5, 3) := by decide +kernel
theorem dL_law_1550 : decode cL_law 1550 = .ok (.bipush (-11), 2) := by decide +kernel
theorem dL_law_1552 : decode cL_law 1552 = .ok (.if_icmp .ne 7, 3) := by decide +kernel
theorem dL_law_1555 : decode cL_law 1555 = .ok (.iconst 1, 1) := by decide +kernel
theorem dL_law_1556 : decode cL_law 1556 = .ok (.goto 4, 3) := by decide +kernel
theorem dL_law_1559 : decode cL_law 1559 = .ok (.iconst 0, 1) := by decide +kernel
theorem dL_law_1560 : decode cL_law 1560 = .ok (.istore 13, 2) := by decide +kernel
theorem dL_law_1562 : decode cL_law 1562 = .ok (.goto 226, 3) := by decide +kernel
theorem dL_law_1565 : decode cL_law 1565 = .ok (.iload 16, 2) := by decide +kernel
theorem dL_law_1567 : decode cL_law 1567 = .ok (.bipush 24, 2) := by decide +kernel
theorem dL_law_1569 : decode cL_law 1569 = .ok (.if_icmp .ge 58, 3) := by decide +kernel
theorem dL_law_1572 : decode cL_law 1572 = .ok (.iload 17, 2) := by decide +kernel
theorem dL_law_1574 : decode cL_law 1574 = .ok (.bipush 8, 2) := by decide +kernel
theorem dL_law_1576 : decode cL_law 1576 = .ok (.idiv, 1) := by decide +kernel
theorem dL_law_1577 : decode cL_law 1577 = .ok (.bipush 100, 2) := by decide +kernel
theorem dL_law_1579 : decode cL_law 1579 = .ok (.irem, 1) := by decide +kernel
theorem dL_law_1580 : decode cL_law 1580 = .ok (.istore 24, 2) := by decide +kernel
theorem dL_law_1582 : decode cL_law 1582 = .ok (.aload_n 1, 1) := by decide +kernel
theorem dL_law_1583 : decode cL_law 1583 = .ok (.iload 18, 2) := by decide +kernel
theorem dL_law_1585 : decode cL_law 1585 = .ok (.iload 24, 2) := by decide +kernel
theorem dL_law_1587 : decode cL_law 1587 = .ok (.invokevirtual 228, 3) := by decide +kernel
theorem dL_law_1590 : decode cL_law 1590 = .ok (.aload 8, 2) := by decide +kernel
theorem dL_law_1592 : decode cL_law 1592 = .ok (.bipush 7, 2) := by decide +kernel
theorem dL_law_1594 : decode cL_law 1594 = .ok (.iload 18, 2) := by decide +kernel
theorem dL_law_1596 : decode cL_law 1596 = .ok (.imul, 1) := by decide +kernel
theorem dL_law_1597 : decode cL_law 1597 = .ok (.bipush 6, 2) := by decide +kernel
theorem dL_law_1599 : decode cL_law 1599 = .ok (.iadd, 1) := by decide +kernel
theorem dL_law_1600 : decode cL_law 1600 = .ok (.iaload, 1) := by decide +kernel
theorem dL_law_1601 : decode cL_law 1601 = .ok (.if_icmp .ne 7, 3) := by decide +kernel
theorem dL_law_1604 : decode cL_law 1604 = .ok (.iconst 1, 1) := by decide +kernel
theorem dL_law_1605 : decode cL_law 1605 = .ok (.goto 4, 3) := by decide +kernel
theorem dL_law_1608 : decode cL_law 1608 = .ok (.iconst 0, 1) := by decide +kernel
theorem dL_law_1609 : decode cL_law 1609 = .ok (.istore 13, 2) := by decide +kernel
theorem dL_law_1611 : decode cL_law 1611 = .ok (.aload 8, 2) := by decide +kernel
theorem dL_law_1613 : decode cL_law 1613 = .ok (.bipush 7, 2) := by decide +kernel
theorem dL_law_1615 : decode cL_law 1615 = .ok (.iload 18, 2) := by decide +kernel
theorem dL_law_1617 : decode cL_law 1617 = .ok (.imul, 1) := by decide +kernel
theorem dL_law_1618 : decode cL_law 1618 = .ok (.bipush 6, 2) := by decide +kernel
theorem dL_law_1620 : decode cL_law 1620 = .ok (.iadd, 1) := by decide +kernel
theorem dL_law_1621 : decode cL_law 1621 = .ok (.iload 24, 2) := by decide +kernel
theorem dL_law_1623 : decode cL_law 1623 = .ok (.iastore, 1) := by decide +kernel
theorem dL_law_1624 : decode cL_law 1624 = .ok (.goto 164, 3) := by decide +kernel
theorem dL_law_1627 : decode cL_law 1627 = .ok (.iload 17, 2) := by decide +kernel
theorem dL_law_1629 : decode cL_law 1629 = .ok (.bipush 64, 2) := by decide +kernel
theorem dL_law_1631 : decode cL_law 1631 = .ok (.idiv, 1) := by decide +kernel
theorem dL_law_1632 : decode cL_law 1632 = .ok (.iconst 2, 1) := by decide +kernel
theorem dL_law_1633 : decode cL_law 1633 = .ok (.irem, 1) := by decide +kernel
theorem dL_law_1634 : decode cL_law 1634 = .ok (.istore 24, 2) := by decide +kernel
theorem dL_law_1636 : decode cL_law 1636 = .ok (.iload 19, 2) := by decide +kernel
theorem dL_law_1638 : decode cL_law 1638 = .ok (.ifCond .eq 14, 3) := by decide +kernel
theorem dL_law_1641 : decode cL_law 1641 = .ok (.iload 23, 2) := by decide +kernel
theorem dL_law_1643 : decode cL_law 1643 = .ok (.iload 18, 2) := by decide +kernel
theorem dL_law_1645 : decode cL_law 1645 = .ok (.if_icmp .eq 7, 3) := by decide +kernel
theorem dL_law_1648 : decode cL_law 1648 = .ok (.iconst 1, 1) := by decide +kernel
theorem dL_law_1649 : decode cL_law 1649 = .ok (.goto 4, 3) := by decide +kernel
theorem dL_law_1652 : decode cL_law 1652 = .ok (.iconst 0, 1) := by decide +kernel
theorem dL_law_1653 : decode cL_law 1653 = .ok (.istore 25, 2) := by decide +kernel
theorem dL_law_1655 : decode cL_law 1655 = .ok (.aload_n 1, 1) := by decide +kernel
theorem dL_law_1656 : decode cL_law 1656 = .ok (.bipush 8, 2) := by decide +kernel
theorem dL_law_1658 : decode cL_law 1658 = .ok (.iload 18, 2) := by decide +kernel
theorem dL_law_1660 : decode cL_law 1660 = .ok (.iload 24, 2) := by decide +kernel
theorem dL_law_1662 : decode cL_law 1662 = .ok (.iconst 1, 1) := by decide +kernel
theorem dL_law_1663 : decode cL_law 1663 = .ok (.iadd, 1) := by decide +kernel
theorem dL_law_1664 : decode cL_law 1664 = .ok (.iload 23, 2) := by decide +kernel
theorem dL_law_1666 : decode cL_law 1666 = .ok (.invokestatic 132, 3) := by decide +kernel
theorem dL_law_1669 : decode cL_law 1669 = .ok (.iload 19, 2) := by decide +kernel
theorem dL_law_1671 : decode cL_law 1671 = .ok (.ifCond .ne 8, 3) := by decide +kernel
theorem dL_law_1674 : decode cL_law 1674 = .ok (.bipush (-11), 2) := by decide +kernel
theorem dL_law_1676 : decode cL_law 1676 = .ok (.goto 28, 3) := by decide +kernel
theorem dL_law_1679 : decode cL_law 1679 = .ok (.iload 23, 2) := by decide +kernel
theorem dL_law_1681 : decode cL_law 1681 = .ok (.iload 18, 2) := by decide +kernel
theorem dL_law_1683 : decode cL_law 1683 = .ok (.if_icmp .ne 8, 3) := by decide +kernel
theorem dL_law_1686 : decode cL_law 1686 = .ok (.bipush (-12), 2) := by decide +kernel
theorem dL_law_1688 : decode cL_law 1688 = .ok (.goto 16, 3) := by decide +kernel
theorem dL_law_1691 : decode cL_law 1691 = .ok (.aload 11, 2) := by decide +kernel
theorem dL_law_1693 : decode cL_law 1693 = .ok (.iload 18, 2) := by decide +kernel
theorem dL_law_1695 : decode cL_law 1695 = .ok (.bipush 8, 2) := by decide +kernel
theorem dL_law_1697 : decode cL_law 1697 = .ok (.iload 24, 2) := by decide +kernel
theorem dL_law_1699 : decode cL_law 1699 = .ok (.imul, 1) := by decide +kernel
theorem dL_law_1700 : decode cL_law 1700 = .ok (.iadd, 1) := by decide +kernel
theorem dL_law_1701 : decode cL_law 1701 = .ok (.iaload, 1) := by decide +kernel
theorem dL_law_1702 : decode cL_law 1702 = .ok (.iconst 1, 1) := by decide +kernel
theorem dL_law_1703 : decode cL_law 1703 = .ok (.isub, 1) := by decide +kernel
theorem dL_law_1704 : decode cL_law 1704 = .ok (.if_icmp .ne 7, 3) := by decide +kernel
theorem dL_law_1707 : decode cL_law 1707 = .ok (.iconst 1, 1) := by decide +kernel
theorem dL_law_1708 : decode cL_law 1708 = .ok (.goto 4, 3) := by decide +kernel
theorem dL_law_1711 : decode cL_law 1711 = .ok (.iconst 0, 1) := by decide +kernel
theorem dL_law_1712 : decode cL_law 1712 = .ok (.istore 13, 2) := by decide +kernel
theorem dL_law_1714 : decode cL_law 1714 = .ok (.aload 11, 2) := by decide +kernel
theorem dL_law_1716 : decode cL_law 1716 = .ok (.iload 18, 2) := by decide +kernel
theorem dL_law_1718 : decode cL_law 1718 = .ok (.bipush 8, 2) := by decide +kernel
theorem dL_law_1720 : decode cL_law 1720 = .ok (.iload 24, 2) := by decide +kernel
theorem dL_law_1722 : decode cL_law 1722 = .ok (.imul, 1) := by decide +kernel
theorem dL_law_1723 : decode cL_law 1723 = .ok (.iadd, 1) := by decide +kernel
theorem dL_law_1724 : decode cL_law 1724 = .ok (.iload 25, 2) := by decide +kernel
theorem dL_law_1726 : decode cL_law 1726 = .ok (.ifCond .eq 10, 3) := by decide +kernel
theorem dL_law_1729 : decode cL_law 1729 = .ok (.iload 23, 2) := by decide +kernel
theorem dL_law_1731 : decode cL_law 1731 = .ok (.iconst 1, 1) := by decide +kernel
theorem dL_law_1732 : decode cL_law 1732 = .ok (.iadd, 1) := by decide +kernel
theorem dL_law_1733 : decode cL_law 1733 = .ok (.goto 14, 3) := by decide +kernel
theorem dL_law_1736 : decode cL_law 1736 = .ok (.aload 11, 2) := by decide +kernel
theorem dL_law_1738 : decode cL_law 1738 = .ok (.iload 18, 2) := by decide +kernel
theorem dL_law_1740 : decode cL_law 1740 = .ok (.bipush 8, 2) := by decide +kernel
theorem dL_law_1742 : decode cL_law 1742 = .ok (.iload 24, 2) := by decide +kernel
theorem dL_law_1744 : decode cL_law 1744 = .ok (.imul, 1) := by decide +kernel
theorem dL_law_1745 : decode cL_law 1745 = .ok (.iadd, 1) := by decide +kernel
theorem dL_law_1746 : decode cL_law 1746 = .ok (.iaload, 1) := by decide +kernel
theorem dL_law_1747 : decode cL_law 1747 = .ok (.iastore, 1) := by decide +kernel
theorem dL_law_1748 : decode cL_law 1748 = .ok (.aload 11, 2) := by decide +kernel
theorem dL_law_1750 : decode cL_law 1750 = .ok (.bipush 16, 2) := by decide +kernel
theorem dL_law_1752 : decode cL_law 1752 = .ok (.iload 18, 2) := by decide +kernel
theorem dL_law_1754 : decode cL_law 1754 = .ok (.iadd, 1) := by decide +kernel
theorem dL_law_1755 : decode cL_law 1755 = .ok (.bipush 8, 2) := by decide +kernel
theorem dL_law_1757 : decode cL_law 1757 = .ok (.iload 24, 2) := by decide +kernel
theorem dL_law_1759 : decode cL_law 1759 = .ok (.imul, 1) := by decide +kernel
theorem dL_law_1760 : decode cL_law 1760 = .ok (.iadd, 1) := by decide +kernel
theorem dL_law_1761 : decode cL_law 1761 = .ok (.iload 25, 2) := by decide +kernel
theorem dL_law_1763 : decode cL_law 1763 = .ok (.ifCond .eq 10, 3) := by decide +kernel
theorem dL_law_1766 : decode cL_law 1766 = .ok (.iload 20, 2) := by decide +kernel
theorem dL_law_1768 : decode cL_law 1768 = .ok (.iconst 1, 1) := by decide +kernel
theorem dL_law_1769 : decode cL_law 1769 = .ok (.iadd, 1) := by decide +kernel
theorem dL_law_1770 : decode cL_law 1770 = .ok (.goto 17, 3) := by decide +kernel
theorem dL_law_1773 : decode cL_law 1773 = .ok (.aload 11, 2) := by decide +kernel
theorem dL_law_1775 : decode cL_law 1775 = .ok (.bipush 16, 2) := by decide +kernel
theorem dL_law_1777 : decode cL_law 1777 = .ok (.iload 18, 2) := by decide +kernel
theorem dL_law_1779 : decode cL_law 1779 = .ok (.iadd, 1) := by decide +kernel
theorem dL_law_1780 : decode cL_law 1780 = .ok (.bipush 8, 2) := by decide +kernel
theorem dL_law_1782 : decode cL_law 1782 = .ok (.iload 24, 2) := by decide +kernel
theorem dL_law_1784 : decode cL_law 1784 = .ok (.imul, 1) := by decide +kernel
theorem dL_law_1785 : decode cL_law 1785 = .ok (.iadd, 1) := by decide +kernel
theorem dL_law_1786 : decode cL_law 1786 = .ok (.iaload, 1) := by decide +kernel
theorem dL_law_1787 : decode cL_law 1787 = .ok (.iastore, 1) := by decide +kernel
