theorem dX10_init_0 : decode cX10_init 0 = .ok (.aload_n 0, 1) := by decide +kernel
theorem dX10_init_1 : decode cX10_init 1 = .ok (.invokespecial 1, 3) := by decide +kernel
theorem dX10_init_4 : decode cX10_init 4 = .ok (.aload_n 0, 1) := by decide +kernel
theorem dX10_init_5 : decode cX10_init 5 = .ok (.bipush 12, 2) := by decide +kernel
theorem dX10_init_7 : decode cX10_init 7 = .ok (.newarray .int, 2) := by decide +kernel
theorem dX10_init_9 : decode cX10_init 9 = .ok (.putfield 7, 3) := by decide +kernel
theorem dX10_init_12 : decode cX10_init 12 = .ok (.aload_n 0, 1) := by decide +kernel
theorem dX10_init_13 : decode cX10_init 13 = .ok (.bipush 12, 2) := by decide +kernel
theorem dX10_init_15 : decode cX10_init 15 = .ok (.newarray .int, 2) := by decide +kernel
theorem dX10_init_17 : decode cX10_init 17 = .ok (.putfield 13, 3) := by decide +kernel
theorem dX10_init_20 : decode cX10_init 20 = .ok (.aload_n 0, 1) := by decide +kernel
theorem dX10_init_21 : decode cX10_init 21 = .ok (.bipush 12, 2) := by decide +kernel
theorem dX10_init_23 : decode cX10_init 23 = .ok (.newarray .int, 2) := by decide +kernel
theorem dX10_init_25 : decode cX10_init 25 = .ok (.putfield 16, 3) := by decide +kernel
theorem dX10_init_28 : decode cX10_init 28 = .ok (.aload_n 0, 1) := by decide +kernel
theorem dX10_init_29 : decode cX10_init 29 = .ok (.sipush 144, 3) := by decide +kernel
theorem dX10_init_32 : decode cX10_init 32 = .ok (.newarray .int, 2) := by decide +kernel
theorem dX10_init_34 : decode cX10_init 34 = .ok (.putfield 19, 3) := by decide +kernel
theorem dX10_init_37 : decode cX10_init 37 = .ok (.aload_n 0, 1) := by decide +kernel
theorem dX10_init_38 : decode cX10_init 38 = .ok (.bipush 10, 2) := by decide +kernel
theorem dX10_init_40 : decode cX10_init 40 = .ok (.newarray .int, 2) := by decide +kernel
theorem dX10_init_42 : decode cX10_init 42 = .ok (.putfield 22, 3) := by decide +kernel
theorem dX10_init_45 : decode cX10_init 45 = .ok (.aload_n 0, 1) := by decide +kernel
theorem dX10_init_46 : decode cX10_init 46 = .ok (.bipush 10, 2) := by decide +kernel
theorem dX10_init_48 : decode cX10_init 48 = .ok (.newarray .int, 2) := by decide +kernel
theorem dX10_init_50 : decode cX10_init 50 = .ok (.putfield 25, 3) := by decide +kernel
theorem dX10_init_53 : decode cX10_init 53 = .ok (.aload_n 0, 1) := by decide +kernel
theorem dX10_init_54 : decode cX10_init 54 = .ok (.bipush 10, 2) := by decide +kernel
theorem dX10_init_56 : decode cX10_init 56 = .ok (.newarray .int, 2) := by decide +kernel
theorem dX10_init_58 : decode cX10_init 58 = .ok (.putfield 28, 3) := by decide +kernel
theorem dX10_init_61 : decode cX10_init 61 = .ok (.aload_n 0, 1) := by decide +kernel
theorem dX10_init_62 : decode cX10_init 62 = .ok (.bipush 10, 2) := by decide +kernel
theorem dX10_init_64 : decode cX10_init 64 = .ok (.newarray .int, 2) := by decide +kernel
theorem dX10_init_66 : decode cX10_init 66 = .ok (.putfield 31, 3) := by decide +kernel
theorem dX10_init_69 : decode cX10_init 69 = .ok (.aload_n 0, 1) := by decide +kernel
theorem dX10_init_70 : decode cX10_init 70 = .ok (.bipush 10, 2) := by decide +kernel
theorem dX10_init_72 : decode cX10_init 72 = .ok (.newarray .int, 2) := by decide +kernel
theorem dX10_init_74 : decode cX10_init 74 = .ok (.putfield 34, 3) := by decide +kernel
theorem dX10_init_77 : decode cX10_init 77 = .ok (.aload_n 0, 1) := by decide +kernel
theorem dX10_init_78 : decode cX10_init 78 = .ok (.bipush 60, 2) := by decide +kernel
theorem dX10_init_80 : decode cX10_init 80 = .ok (.newarray .int, 2) := by decide +kernel
theorem dX10_init_82 : decode cX10_init 82 = .ok (.putfield 37, 3) := by decide +kernel
theorem dX10_init_85 : decode cX10_init 85 = .ok (.aload_n 0, 1) := by decide +kernel
theorem dX10_init_86 : decode cX10_init 86 = .ok (.bipush 60, 2) := by decide +kernel
theorem dX10_init_88 : decode cX10_init 88 = .ok (.newarray .int, 2) := by decide +kernel
theorem dX10_init_90 : decode cX10_init 90 = .ok (.putfield 40, 3) := by decide +kernel
theorem dX10_init_93 : decode cX10_init 93 = .ok (.aload_n 0, 1) := by decide +kernel
theorem dX10_init_94 : decode cX10_init 94 = .ok (.bipush 70, 2) := by decide +kernel
theorem dX10_init_96 : decode cX10_init 96 = .ok (.newarray .int, 2) := by decide +kernel
theorem dX10_init_98 : decode cX10_init 98 = .ok (.putfield 43, 3) := by decide +kernel
theorem dX10_init_101 : decode cX10_init 101 = .ok (.aload_n 0, 1) := by decide +kernel
theorem dX10_init_102 : decode cX10_init 102 = .ok (.bipush 20, 2) := by decide +kernel
theorem dX10_init_104 : decode cX10_init 104 = .ok (.newarray .int, 2) := by decide +kernel
theorem dX10_init_106 : decode cX10_init 106 = .ok (.putfield 46, 3) := by decide +kernel
theorem dX10_init_109 : decode cX10_init 109 = .ok (.aload_n 0, 1) := by decide +kernel
theorem dX10_init_110 : decode cX10_init 110 = .ok (.bipush 20, 2) := by decide +kernel
theorem dX10_init_112 : decode cX10_init 112 = .ok (.newarray .int, 2) := by decide +kernel
theorem dX10_init_114 : decode cX10_init 114 = .ok (.putfield 49, 3) := by decide +kernel
theorem dX10_init_117 : decode cX10_init 117 = .ok (.aload_n 0, 1) := by decide +kernel
theorem dX10_init_118 : decode cX10_init 118 = .ok (.bipush 20, 2) := by decide +kernel
theorem dX10_init_120 : decode cX10_init 120 = .ok (.newarray .int, 2) := by decide +kernel
theorem dX10_init_122 : decode cX10_init 122 = .ok (.putfield 52, 3) := by decide +kernel
theorem dX10_init_125 : decode cX10_init 125 = .ok (.aload_n 0, 1) := by decide +kernel
theorem dX10_init_126 : decode cX10_init 126 = .ok (.bipush 20, 2) := by decide +kernel
theorem dX10_init_128 : decode cX10_init 128 = .ok (.newarray .int, 2) := by decide +kernel
theorem dX10_init_130 : decode cX10_init 130 = .ok (.putfield 55, 3) := by decide +kernel
theorem dX10_init_133 : decode cX10_init 133 = .ok (.aload_n 0, 1) := by decide +kernel
theorem dX10_init_134 : decode cX10_init 134 = .ok (.sipush 200, 3) := by decide +kernel
theorem dX10_init_137 : decode cX10_init 137 = .ok (.newarray .byte, 2) := by decide +kernel
theorem dX10_init_139 : decode cX10_init 139 = .ok (.putfield 58, 3) := by decide +kernel
theorem dX10_init_142 : decode cX10_init 142 = .ok (.aload_n 0, 1) := by decide +kernel
theorem dX10_init_143 : decode cX10_init 143 = .ok (.iconst (-1), 1) := by decide +kernel
theorem dX10_init_144 : decode cX10_init 144 = .ok (.putfield 62, 3) := by decide +kernel
theorem dX10_init_147 : decode cX10_init 147 = .ok (.aload_n 0, 1) := by decide +kernel
theorem dX10_init_148 : decode cX10_init 148 = .ok (.iconst 5, 1) := by decide +kernel
theorem dX10_init_149 : decode cX10_init 149 = .ok (.newarray .int, 2) := by decide +kernel
theorem dX10_init_151 : decode cX10_init 151 = .ok (.putfield 66, 3) := by decide +kernel
theorem dX10_init_154 : decode cX10_init 154 = .ok (.aload_n 0, 1) := by decide +kernel
theorem dX10_init_155 : decode cX10_init 155 = .ok (.iconst 5, 1) := by decide +kernel
theorem dX10_init_156 : decode cX10_init 156 = .ok (.newarray .int, 2) := by decide +kernel
theorem dX10_init_158 : decode cX10_init 158 = .ok (.putfield 69, 3) := by decide +kernel
theorem dX10_init_161 : decode cX10_init 161 = .ok (.aload_n 0, 1) := by decide +kernel
theorem dX10_init_162 : decode cX10_init 162 = .ok (.iconst 5, 1) := by decide +kernel
theorem dX10_init_163 : decode cX10_init 163 = .ok (.newarray .int, 2) := by decide +kernel
theorem dX10_init_165 : decode cX10_init 165 = .ok (.putfield 72, 3) := by decide +kernel
theorem dX10_init_168 : decode cX10_init 168 = .ok (.aload_n 0, 1) := by decide +kernel
theorem dX10_init_169 : decode cX10_init 169 = .ok (.bipush 60, 2) := by decide +kernel
theorem dX10_init_171 : decode cX10_init 171 = .ok (.newarray .int, 2) := by decide +kernel
theorem dX10_init_173 : decode cX10_init 173 = .ok (.putfield 75, 3) := by decide +kernel
theorem dX10_init_176 : decode cX10_init 176 = .ok (.aload_n 0, 1) := by decide +kernel
theorem dX10_init_177 : decode cX10_init 177 = .ok (.bipush 60, 2) := by decide +kernel
theorem dX10_init_179 : decode cX10_init 179 = .ok (.newarray .int, 2) := by decide +kernel
theorem dX10_init_181 : decode cX10_init 181 = .ok (.putfield 78, 3) := by decide +kernel
theorem dX10_init_184 : decode cX10_init 184 = .ok (.aload_n 0, 1) := by decide +kernel
theorem dX10_init_185 : decode cX10_init 185 = .ok (.bipush 60, 2) := by decide +kernel
theorem dX10_init_187 : decode cX10_init 187 = .ok (.newarray .int, 2) := by decide +kernel
theorem dX10_init_189 : decode cX10_init 189 = .ok (.putfield 81, 3) := by decide +kernel
theorem dX10_init_192 : decode cX10_init 192 = .ok (.aload_n 0, 1) := by decide +kernel
theorem dX10_init_193 : decode cX10_init 193 = .ok (.bipush 60, 2) := by decide +kernel
theorem dX10_init_195 : decode cX10_init 195 = .ok (.newarray .int, 2) := by decide +kernel
theorem dX10_init_197 : decode cX10_init 197 = .ok (.putfield 84, 3) := by decide +kernel
theorem dX10_init_200 : decode cX10_init 200 = .ok (.aload_n 0, 1) := by decide +kernel
theorem dX10_init_201 : decode cX10_init 201 = .ok (.sipush 1000, 3) := by decide +kernel
theorem dX10_init_204 : decode cX10_init 204 = .ok (.newarray .int, 2) := by decide +kernel
theorem dX10_init_206 : decode cX10_init 206 = .ok (.putfield 87, 3) := by decide +kernel
theorem dX10_init_209 : decode cX10_init 209 = .ok (.aload_n 0, 1) := by decide +kernel
theorem dX10_init_210 : decode cX10_init 210 = .ok (.sipush 1000, 3) := by decide +kernel
theorem dX10_init_213 : decode cX10_init 213 = .ok (.newarray .int, 2) := by decide +kernel
theorem dX10_init_215 : decode cX10_init 215 = .ok (.putfield 90, 3) := by decide +kernel
theorem dX10_init_218 : decode cX10_init 218 = .ok (.aload_n 0, 1) := by decide +kernel
theorem dX10_init_219 : decode cX10_init 219 = .ok (.sipush 1000, 3) := by decide +kernel
theorem dX10_init_222 : decode cX10_init 222 = .ok (.newarray .int, 2) := by decide +kernel
theorem dX10_init_224 : decode cX10_init 224 = .ok (.putfield 93, 3) := by decide +kernel
theorem dX10_init_227 : decode cX10_init 227 = .ok (.aload_n 0, 1) := by decide +kernel
theorem dX10_init_228 : decode cX10_init 228 = .ok (.sipush 1000, 3) := by decide +kernel
theorem dX10_init_231 : decode cX10_init 231 = .ok (.newarray .int, 2) := by decide +kernel
theorem dX10_init_233 : decode cX10_init 233 = .ok (.putfield 96, 3) := by decide +kernel
theorem dX10_init_236 : decode cX10_init 236 = .ok (.aload_n 0, 1) := by decide +kernel
theorem dX10_init_237 : decode cX10_init 237 = .ok (.sipush 200, 3) := by decide +kernel
theorem dX10_init_240 : decode cX10_init 240 = .ok (.newarray .int, 2) := by decide +kernel
theorem dX10_init_242 : decode cX10_init 242 = .ok (.putfield 99, 3) := by decide +kernel
theorem dX10_init_245 : decode cX10_init 245 = .ok (.aload_n 0, 1) := by decide +kernel
theorem dX10_init_246 : decode cX10_init 246 = .ok (.iconst 5, 1) := by decide +kernel
theorem dX10_init_247 : decode cX10_init 247 = .ok (.newarray .int, 2) := by decide +kernel
theorem dX10_init_249 : decode cX10_init 249 = .ok (.putfield 102, 3) := by decide +kernel
theorem dX10_init_252 : decode cX10_init 252 = .ok (.aload_n 0, 1) := by decide +kernel
theorem dX10_init_253 : decode cX10_init 253 = .ok (.sipush 200, 3) := by decide +kernel
theorem dX10_init_256 : decode cX10_init 256 = .ok (.newarray .boolean, 2) := by decide +kernel
theorem dX10_init_258 : decode cX10_init 258 = .ok (.putfield 105, 3) := by decide +kernel
theorem dX10_init_261 : decode cX10_init 261 = .ok (.aload_n 0, 1) := by decide +kernel
theorem dX10_init_262 : decode cX10_init 262 = .ok (.bipush 70, 2) := by decide +kernel
theorem dX10_init_264 : decode cX10_init 264 = .ok (.newarray .int, 2) := by decide +kernel
theorem dX10_init_266 : decode cX10_init 266 = .ok (.putfield 109, 3) := by decide +kernel
theorem dX10_init_269 : decode cX10_init 269 = .ok (.aload_n 0, 1) := by decide +kernel
theorem dX10_init_270 : decode cX10_init 270 = .ok (.bipush 70, 2) := by decide +kernel
theorem dX10_init_272 : decode cX10_init 272 = .ok (.newarray .int, 2) := by decide +kernel
theorem dX10_init_274 : decode cX10_init 274 = .ok (.putfield 112, 3) := by decide +kernel
theorem dX10_init_277 : decode cX10_init 277 = .ok (.aload_n 0, 1) := by decide +kernel
theorem dX10_init_278 : decode cX10_init 278 = .ok (.bipush 70, 2) := by decide +kernel
theorem dX10_init_280 : decode cX10_init 280 = .ok (.newarray .int, 2) := by decide +kernel
theorem dX10_init_282 : decode cX10_init 282 = .ok (.putfield 115, 3) := by decide +kernel
theorem dX10_init_285 : decode cX10_init 285 = .ok (.aload_n 0, 1) := by decide +kernel
theorem dX10_init_286 : decode cX10_init 286 = .ok (.bipush 70, 2) := by decide +kernel
theorem dX10_init_288 : decode cX10_init 288 = .ok (.newarray .int, 2) := by decide +kernel
theorem dX10_init_290 : decode cX10_init 290 = .ok (.putfield 118, 3) := by decide +kernel
theorem dX10_init_293 : decode cX10_init 293 = .ok (.aload_n 0, 1) := by decide +kernel
theorem dX10_init_294 : decode cX10_init 294 = .ok (.sipush 280, 3) := by decide +kernel
theorem dX10_init_297 : decode cX10_init 297 = .ok (.newarray .int, 2) := by decide +kernel
theorem dX10_init_299 : decode cX10_init 299 = .ok (.putfield 121, 3) := by decide +kernel
theorem dX10_init_302 : decode cX10_init 302 = .ok (.aload_n 0, 1) := by decide +kernel
theorem dX10_init_303 : decode cX10_init 303 = .ok (.bipush 10, 2) := by decide +kernel
theorem dX10_init_305 : decode cX10_init 305 = .ok (.newarray .int, 2) := by decide +kernel
theorem dX10_init_307 : decode cX10_init 307 = .ok (.putfield 124, 3) := by decide +kernel
theorem dX10_init_310 : decode cX10_init 310 = .ok (.aload_n 0, 1) := by decide +kernel
theorem dX10_init_311 : decode cX10_init 311 = .ok (.bipush 10, 2) := by decide +kernel
theorem dX10_init_313 : decode cX10_init 313 = .ok (.newarray .int, 2) := by decide +kernel
theorem dX10_init_315 : decode cX10_init 315 = .ok (.putfield 127, 3) := by decide +kernel
theorem dX10_init_318 : decode cX10_init 318 = .ok (.aload_n 0, 1) := by decide +kernel
theorem dX10_init_319 : decode cX10_init 319 = .ok (.bipush 10, 2) := by decide +kernel
theorem dX10_init_321 : decode cX10_init 321 = .ok (.newarray .int, 2) := by decide +kernel
theorem dX10_init_323 : decode cX10_init 323 = .ok (.putfield 130, 3) := by decide +kernel
theorem dX10_init_326 : decode cX10_init 326 = .ok (.aload_n 0, 1) := by decide +kernel
theorem dX10_init_327 : decode cX10_init 327 = .ok (.bipush 10, 2) := by decide +kernel
theorem dX10_init_329 : decode cX10_init 329 = .ok (.newarray .boolean, 2) := by decide +kernel
theorem dX10_init_331 : decode cX10_init 331 = .ok (.putfield 133, 3) := by decide +kernel
theorem dX10_init_334 : decode cX10_init 334 = .ok (.aload_n 0, 1) := by decide +kernel
theorem dX10_init_335 : decode cX10_init 335 = .ok (.bipush 8, 2) := by decide +kernel
theorem dX10_init_337 : decode cX10_init 337 = .ok (.newarray .int, 2) := by decide +kernel
theorem dX10_init_339 : decode cX10_init 339 = .ok (.putfield 136, 3) := by decide +kernel
theorem dX10_init_342 : decode cX10_init 342 = .ok (.aload_n 0, 1) := by decide +kernel
theorem dX10_init_343 : decode cX10_init 343 = .ok (.bipush 8, 2) := by decide +kernel
theorem dX10_init_345 : decode cX10_init 345 = .ok (.newarray .int, 2) := by decide +kernel
theorem dX10_init_347 : decode cX10_init 347 = .ok (.putfield 139, 3) := by decide +kernel
theorem dX10_init_350 : decode cX10_init 350 = .ok (.aload_n 0, 1) := by decide +kernel
theorem dX10_init_351 : decode cX10_init 351 = .ok (.bipush 8, 2) := by decide +kernel
theorem dX10_init_353 : decode cX10_init 353 = .ok (.newarray .int, 2) := by decide +kernel
theorem dX10_init_355 : decode cX10_init 355 = .ok (.putfield 142, 3) := by decide +kernel
theorem dX10_init_358 : decode cX10_init 358 = .ok (.aload_n 0, 1) := by decide +kernel
theorem dX10_init_359 : decode cX10_init 359 = .ok (.bipush 8, 2) := by decide +kernel
theorem dX10_init_361 : decode cX10_init 361 = .ok (.newarray .int, 2) := by decide +kernel
theorem dX10_init_363 : decode cX10_init 363 = .ok (.putfield 145, 3) := by decide +kernel
theorem dX10_init_366 : decode cX10_init 366 = .ok (.aload_n 0, 1) := by decide +kernel
theorem dX10_init_367 : decode cX10_init 367 = .ok (.bipush 8, 2) := by decide +kernel
theorem dX10_init_369 : decode cX10_init 369 = .ok (.newarray .int, 2) := by decide +kernel
theorem dX10_init_371 : decode cX10_init 371 = .ok (.putfield 148, 3) := by decide +kernel
theorem dX10_init_374 : decode cX10_init 374 = .ok (.return_, 1) := by decide +kernel
theorem dX10_isPort_0 : decode cX10_isPort 0 = .ok (.iload_n 0, 1) := by decide +kernel
theorem dX10_isPort_1 : decode cX10_isPort 1 = .ok (.ifCond .lt 13, 3) := by decide +kernel
theorem dX10_isPort_4 : decode cX10_isPort 4 = .ok (.iload_n 0, 1) := by decide +kernel
theorem dX10_isPort_5 : decode cX10_isPort 5 = .ok (.bipush 8, 2) := by decide +kernel
theorem dX10_isPort_7 : decode cX10_isPort 7 = .ok (.if_icmp .ge 7, 3) := by decide +kernel
theorem dX10_isPort_10 : decode cX10_isPort 10 = .ok (.iconst 1, 1) := by decide +kernel
theorem dX10_isPort_11 : decode cX10_isPort 11 = .ok (.goto 4, 3) := by decide +kernel
theorem dX10_isPort_14 : decode cX10_isPort 14 = .ok (.iconst 0, 1) := by decide +kernel
theorem dX10_isPort_15 : decode cX10_isPort 15 = .ok (.ireturn, 1) := by decide +kernel
theorem dX10_isVoyage_0 : decode cX10_isVoyage 0 = .ok (.iload_n 1, 1) := by decide +kernel
theorem dX10_isVoyage_1 : decode cX10_isVoyage 1 = .ok (.ifCond .lt 15, 3) := by decide +kernel
theorem dX10_isVoyage_4 : decode cX10_isVoyage 4 = .ok (.iload_n 1, 1) := by decide +kernel
theorem dX10_isVoyage_5 : decode cX10_isVoyage 5 = .ok (.aload_n 0, 1) := by decide +kernel
theorem dX10_isVoyage_6 : decode cX10_isVoyage 6 = .ok (.getfield 151, 3) := by decide +kernel
theorem dX10_isVoyage_9 : decode cX10_isVoyage 9 = .ok (.if_icmp .ge 7, 3) := by decide +kernel
theorem dX10_isVoyage_12 : decode cX10_isVoyage 12 = .ok (.iconst 1, 1) := by decide +kernel
theorem dX10_isVoyage_13 : decode cX10_isVoyage 13 = .ok (.goto 4, 3) := by decide +kernel
theorem dX10_isVoyage_16 : decode cX10_isVoyage 16 = .ok (.iconst 0, 1) := by decide +kernel
theorem dX10_isVoyage_17 : decode cX10_isVoyage 17 = .ok (.ireturn, 1) := by decide +kernel
theorem dX10_passage_0 : decode cX10_passage 0 = .ok (.iload_n 1, 1) := by decide +kernel
theorem dX10_passage_1 : decode cX10_passage 1 = .ok (.invokestatic 154, 3) := by decide +kernel
theorem dX10_passage_4 : decode cX10_passage 4 = .ok (.ifCond .eq 36, 3) := by decide +kernel
theorem dX10_passage_7 : decode cX10_passage 7 = .ok (.iload_n 2, 1) := by decide +kernel
theorem dX10_passage_8 : decode cX10_passage 8 = .ok (.invokestatic 154, 3) := by decide +kernel
theorem dX10_passage_11 : decode cX10_passage 11 = .ok (.ifCond .eq 29, 3) := by decide +kernel
theorem dX10_passage_14 : decode cX10_passage 14 = .ok (.iload_n 1, 1) := by decide +kernel
theorem dX10_passage_15 : decode cX10_passage 15 = .ok (.iload_n 2, 1) := by decide +kernel
theorem dX10_passage_16 : decode cX10_passage 16 = .ok (.if_icmp .eq 24, 3) := by decide +kernel
theorem dX10_passage_19 : decode cX10_passage 19 = .ok (.iload_n 3, 1) := by decide +kernel
theorem dX10_passage_20 : decode cX10_passage 20 = .ok (.iconst 1, 1) := by decide +kernel
theorem dX10_passage_21 : decode cX10_passage 21 = .ok (.if_icmp .lt 19, 3) := by decide +kernel
theorem dX10_passage_24 : decode cX10_passage 24 = .ok (.iload_n 3, 1) := by decide +kernel
theorem dX10_passage_25 : decode cX10_passage 25 = .ok (.sipush 9999, 3) := by decide +kernel
theorem dX10_passage_28 : decode cX10_passage 28 = .ok (.if_icmp .gt 12, 3) := by decide +kernel
theorem dX10_passage_31 : decode cX10_passage 31 = .ok (.aload_n 0, 1) := by decide +kernel
theorem dX10_passage_32 : decode cX10_passage 32 = .ok (.getfield 158, 3) := by decide +kernel
theorem dX10_passage_35 : decode cX10_passage 35 = .ok (.bipush 12, 2) := by decide +kernel
theorem dX10_passage_37 : decode cX10_passage 37 = .ok (.if_icmp .ne 5, 3) := by decide +kernel
theorem dX10_passage_40 : decode cX10_passage 40 = .ok (.iconst (-1), 1) := by decide +kernel
theorem dX10_passage_41 : decode cX10_passage 41 = .ok (.ireturn, 1) := by decide +kernel
theorem dX10_passage_42 : decode cX10_passage 42 = .ok (.aload_n 0, 1) := by decide +kernel
theorem dX10_passage_43 : decode cX10_passage 43 = .ok (.getfield 7, 3) := by decide +kernel
theorem dX10_passage_46 : decode cX10_passage 46 = .ok (.aload_n 0, 1) := by decide +kernel
theorem dX10_passage_47 : decode cX10_passage 47 = .ok (.getfield 158, 3) := by decide +kernel
theorem dX10_passage_50 : decode cX10_passage 50 = .ok (.iload_n 1, 1) := by decide +kernel
theorem dX10_passage_51 : decode cX10_passage 51 = .ok (.iastore, 1) := by decide +kernel
theorem dX10_passage_52 : decode cX10_passage 52 = .ok (.aload_n 0, 1) := by decide +kernel
theorem dX10_passage_53 : decode cX10_passage 53 = .ok (.getfield 13, 3) := by decide +kernel
theorem dX10_passage_56 : decode cX10_passage 56 = .ok (.aload_n 0, 1) := by decide +kernel
theorem dX10_passage_57 : decode cX10_passage 57 = .ok (.getfield 158, 3) := by decide +kernel
theorem dX10_passage_60 : decode cX10_passage 60 = .ok (.iload_n 2, 1) := by decide +kernel
theorem dX10_passage_61 : decode cX10_passage 61 = .ok (.iastore, 1) := by decide +kernel
theorem dX10_passage_62 : decode cX10_passage 62 = .ok (.aload_n 0, 1) := by decide +kernel
theorem dX10_passage_63 : decode cX10_passage 63 = .ok (.getfield 16, 3) := by decide +kernel
theorem dX10_passage_66 : decode cX10_passage 66 = .ok (.aload_n 0, 1) := by decide +kernel
theorem dX10_passage_67 : decode cX10_passage 67 = .ok (.getfield 158, 3) := by decide +kernel
theorem dX10_passage_70 : decode cX10_passage 70 = .ok (.iload_n 3, 1) := by decide +kernel
theorem dX10_passage_71 : decode cX10_passage 71 = .ok (.iastore, 1) := by decide +kernel
theorem dX10_passage_72 : decode cX10_passage 72 = .ok (.aload_n 0, 1) := by decide +kernel
theorem dX10_passage_73 : decode cX10_passage 73 = .ok (.aload_n 0, 1) := by decide +kernel
theorem dX10_passage_74 : decode cX10_passage 74 = .ok (.getfield 158, 3) := by decide +kernel
theorem dX10_passage_77 : decode cX10_passage 77 = .ok (.iconst 1, 1) := by decide +kernel
theorem dX10_passage_78 : decode cX10_passage 78 = .ok (.iadd, 1) := by decide +kernel
theorem dX10_passage_79 : decode cX10_passage 79 = .ok (.putfield 158, 3) := by decide +kernel
theorem dX10_passage_82 : decode cX10_passage 82 = .ok (.aload_n 0, 1) := by decide +kernel
theorem dX10_passage_83 : decode cX10_passage 83 = .ok (.getfield 158, 3) := by decide +kernel
theorem dX10_passage_86 : decode cX10_passage 86 = .ok (.iconst 1, 1) := by decide +kernel
theorem dX10_passage_87 : decode cX10_passage 87 = .ok (.isub, 1) := by decide +kernel
theorem dX10_passage_88 : decode cX10_passage 88 = .ok (.ireturn, 1) := by decide +kernel
theorem dX10_wind_0 : decode cX10_wind 0 = .ok (.iload_n 1, 1) := by decide +kernel
theorem dX10_wind_1 : decode cX10_wind 1 = .ok (.ifCond .lt 21, 3) := by decide +kernel
theorem dX10_wind_4 : decode cX10_wind 4 = .ok (.iload_n 1, 1) := by decide +kernel
theorem dX10_wind_5 : decode cX10_wind 5 = .ok (.aload_n 0, 1) := by decide +kernel
theorem dX10_wind_6 : decode cX10_wind 6 = .ok (.getfield 158, 3) := by decide +kernel
theorem dX10_wind_9 : decode cX10_wind 9 = .ok (.if_icmp .ge 13, 3) := by decide +kernel
theorem dX10_wind_12 : decode cX10_wind 12 = .ok (.iload_n 2, 1) := by decide +kernel
theorem dX10_wind_13 : decode cX10_wind 13 = .ok (.ifCond .lt 9, 3) := by decide +kernel
theorem dX10_wind_16 : decode cX10_wind 16 = .ok (.iload_n 2, 1) := by decide +kernel
theorem dX10_wind_17 : decode cX10_wind 17 = .ok (.bipush 11, 2) := by decide +kernel
theorem dX10_wind_19 : decode cX10_wind 19 = .ok (.if_icmp .le 5, 3) := by decide +kernel
theorem dX10_wind_22 : decode cX10_wind 22 = .ok (.iconst 0, 1) := by decide +kernel
theorem dX10_wind_23 : decode cX10_wind 23 = .ok (.ireturn, 1) := by decide +kernel
theorem dX10_wind_24 : decode cX10_wind 24 = .ok (.dload_n 3, 1) := by decide +kernel
theorem dX10_wind_25 : decode cX10_wind 25 = .ok (.ldc2_w 161, 3) := by decide +kernel
theorem dX10_wind_28 : decode cX10_wind 28 = .ok (.dcmp .g, 1) := by decide +kernel
theorem dX10_wind_29 : decode cX10_wind 29 = .ok (.ifCond .lt 11, 3) := by decide +kernel
theorem dX10_wind_32 : decode cX10_wind 32 = .ok (.dload_n 3, 1) := by decide +kernel
theorem dX10_wind_33 : decode cX10_wind 33 = .ok (.ldc2_w 163, 3) := by decide +kernel
theorem dX10_wind_36 : decode cX10_wind 36 = .ok (.dcmp .l, 1) := by decide +kernel
theorem dX10_wind_37 : decode cX10_wind 37 = .ok (.ifCond .lt 5, 3) := by decide +kernel
theorem dX10_wind_40 : decode cX10_wind 40 = .ok (.iconst 0, 1) := by decide +kernel
theorem dX10_wind_41 : decode cX10_wind 41 = .ok (.ireturn, 1) := by decide +kernel
theorem dX10_wind_42 : decode cX10_wind 42 = .ok (.dload_n 3, 1) := by decide +kernel
theorem dX10_wind_43 : decode cX10_wind 43 = .ok (.d2i, 1) := by decide +kernel
theorem dX10_wind_44 : decode cX10_wind 44 = .ok (.istore 5, 2) := by decide +kernel
theorem dX10_wind_46 : decode cX10_wind 46 = .ok (.dload_n 3, 1) := by decide +kernel
theorem dX10_wind_47 : decode cX10_wind 47 = .ok (.iload 5, 2) := by decide +kernel
theorem dX10_wind_49 : decode cX10_wind 49 = .ok (.i2d, 1) := by decide +kernel
theorem dX10_wind_50 : decode cX10_wind 50 = .ok (.dcmp .g, 1) := by decide +kernel
theorem dX10_wind_51 : decode cX10_wind 51 = .ok (.ifCond .ge 9, 3) := by decide +kernel
theorem dX10_wind_54 : decode cX10_wind 54 = .ok (.iload 5, 2) := by decide +kernel
theorem dX10_wind_56 : decode cX10_wind 56 = .ok (.iconst 1, 1) := by decide +kernel
theorem dX10_wind_57 : decode cX10_wind 57 = .ok (.isub, 1) := by decide +kernel
theorem dX10_wind_58 : decode cX10_wind 58 = .ok (.istore 5, 2) := by decide +kernel
theorem dX10_wind_60 : decode cX10_wind 60 = .ok (.aload_n 0, 1) := by decide +kernel
theorem dX10_wind_61 : decode cX10_wind 61 = .ok (.getfield 19, 3) := by decide +kernel
theorem dX10_wind_64 : decode cX10_wind 64 = .ok (.bipush 12, 2) := by decide +kernel
theorem dX10_wind_66 : decode cX10_wind 66 = .ok (.iload_n 1, 1) := by decide +kernel
theorem dX10_wind_67 : decode cX10_wind 67 = .ok (.imul, 1) := by decide +kernel
theorem dX10_wind_68 : decode cX10_wind 68 = .ok (.iload_n 2, 1) := by decide +kernel
theorem dX10_wind_69 : decode cX10_wind 69 = .ok (.iadd, 1) := by decide +kernel
theorem dX10_wind_70 : decode cX10_wind 70 = .ok (.iload 5, 2) := by decide +kernel
theorem dX10_wind_72 : decode cX10_wind 72 = .ok (.iastore, 1) := by decide +kernel
theorem dX10_wind_73 : decode cX10_wind 73 = .ok (.aload_n 0, 1) := by decide +kernel
theorem dX10_wind_74 : decode cX10_wind 74 = .ok (.iconst 0, 1) := by decide +kernel
theorem dX10_wind_75 : decode cX10_wind 75 = .ok (.putfield 165, 3) := by decide +kernel
theorem dX10_wind_78 : decode cX10_wind 78 = .ok (.iconst 1, 1) := by decide +kernel
theorem dX10_wind_79 : decode cX10_wind 79 = .ok (.ireturn, 1) := by decide +kernel
theorem dX10_voyage_0 : decode cX10_voyage 0 = .ok (.iload_n 1, 1) := by decide +kernel
theorem dX10_voyage_1 : decode cX10_voyage 1 = .ok (.ifCond .lt 61, 3) := by decide +kernel
theorem dX10_voyage_4 : decode cX10_voyage 4 = .ok (.iload_n 1, 1) := by decide +kernel
theorem dX10_voyage_5 : decode cX10_voyage 5 = .ok (.iconst 4, 1) := by decide +kernel
theorem dX10_voyage_6 : decode cX10_voyage 6 = .ok (.if_icmp .ge 56, 3) := by decide +kernel
theorem dX10_voyage_9 : decode cX10_voyage 9 = .ok (.iload_n 2, 1) := by decide +kernel
theorem dX10_voyage_10 : decode cX10_voyage 10 = .ok (.invokestatic 154, 3) := by decide +kernel
theorem dX10_voyage_13 : decode cX10_voyage 13 = .ok (.ifCond .eq 49, 3) := by decide +kernel
theorem dX10_voyage_16 : decode cX10_voyage 16 = .ok (.iload_n 3, 1) := by decide +kernel
theorem dX10_voyage_17 : decode cX10_voyage 17 = .ok (.iconst 1, 1) := by decide +kernel
theorem dX10_voyage_18 : decode cX10_voyage 18 = .ok (.if_icmp .lt 44, 3) := by decide +kernel
theorem dX10_voyage_21 : decode cX10_voyage 21 = .ok (.iload_n 3, 1) := by decide +kernel
theorem dX10_voyage_22 : decode cX10_voyage 22 = .ok (.bipush 30, 2) := by decide +kernel
theorem dX10_voyage_24 : decode cX10_voyage 24 = .ok (.if_icmp .gt 38, 3) := by decide +kernel
theorem dX10_voyage_27 : decode cX10_voyage 27 = .ok (.iload 4, 2) := by decide +kernel
theorem dX10_voyage_29 : decode cX10_voyage 29 = .ok (.iconst 1, 1) := by decide +kernel
theorem dX10_voyage_30 : decode cX10_voyage 30 = .ok (.if_icmp .lt 32, 3) := by decide +kernel
theorem dX10_voyage_33 : decode cX10_voyage 33 = .ok (.iload 4, 2) := by decide +kernel
theorem dX10_voyage_35 : decode cX10_voyage 35 = .ok (.bipush 48, 2) := by decide +kernel
theorem dX10_voyage_37 : decode cX10_voyage 37 = .ok (.if_icmp .gt 25, 3) := by decide +kernel
theorem dX10_voyage_40 : decode cX10_voyage 40 = .ok (.iload 5, 2) := by decide +kernel
theorem dX10_voyage_42 : decode cX10_voyage 42 = .ok (.ifCond .lt 20, 3) := by decide +kernel
theorem dX10_voyage_45 : decode cX10_voyage 45 = .ok (.iload 5, 2) := by decide +kernel
theorem dX10_voyage_47 : decode cX10_voyage 47 = .ok (.sipush 5000, 3) := by decide +kernel
theorem dX10_voyage_50 : decode cX10_voyage 50 = .ok (.if_icmp .gt 12, 3) := by decide +kernel
theorem dX10_voyage_53 : decode cX10_voyage 53 = .ok (.aload_n 0, 1) := by decide +kernel
theorem dX10_voyage_54 : decode cX10_voyage 54 = .ok (.getfield 151, 3) := by decide +kernel
theorem dX10_voyage_57 : decode cX10_voyage 57 = .ok (.bipush 10, 2) := by decide +kernel
theorem dX10_voyage_59 : decode cX10_voyage 59 = .ok (.if_icmp .ne 5, 3) := by decide +kernel
theorem dX10_voyage_62 : decode cX10_voyage 62 = .ok (.iconst (-1), 1) := by decide +kernel
theorem dX10_voyage_63 : decode cX10_voyage 63 = .ok (.ireturn, 1) := by decide +kernel
theorem dX10_voyage_64 : decode cX10_voyage 64 = .ok (.aload_n 0, 1) := by decide +kernel
theorem dX10_voyage_65 : decode cX10_voyage 65 = .ok (.getfield 22, 3) := by decide +kernel
theorem dX10_voyage_68 : decode cX10_voyage 68 = .ok (.aload_n 0, 1) := by decide +kernel
theorem dX10_voyage_69 : decode cX10_voyage 69 = .ok (.getfield 151, 3) := by decide +kernel
theorem dX10_voyage_72 : decode cX10_voyage 72 = .ok (.iload_n 1, 1) := by decide +kernel
theorem dX10_voyage_73 : decode cX10_voyage 73 = .ok (.iastore, 1) := by decide +kernel
theorem dX10_voyage_74 : decode cX10_voyage 74 = .ok (.aload_n 0, 1) := by decide +kernel
theorem dX10_voyage_75 : decode cX10_voyage 75 = .ok (.getfield 25, 3) := by decide +kernel
theorem dX10_voyage_78 : decode cX10_voyage 78 = .ok (.aload_n 0, 1) := by decide +kernel
theorem dX10_voyage_79 : decode cX10_voyage 79 = .ok (.getfield 151, 3) := by decide +kernel
theorem dX10_voyage_82 : decode cX10_voyage 82 = .ok (.iload_n 3, 1) := by decide +kernel
theorem dX10_voyage_83 : decode cX10_voyage 83 = .ok (.iastore, 1) := by decide +kernel
theorem dX10_voyage_84 : decode cX10_voyage 84 = .ok (.aload_n 0, 1) := by decide +kernel
theorem dX10_voyage_85 : decode cX10_voyage 85 = .ok (.getfield 28, 3) := by decide +kernel
theorem dX10_voyage_88 : decode cX10_voyage 88 = .ok (.aload_n 0, 1) := by decide +kernel
theorem dX10_voyage_89 : decode cX10_voyage 89 = .ok (.getfield 151, 3) := by decide +kernel
theorem dX10_voyage_92 : decode cX10_voyage 92 = .ok (.iload 4, 2) := by decide +kernel
theorem dX10_voyage_94 : decode cX10_voyage 94 = .ok (.iastore, 1) := by decide +kernel
theorem dX10_voyage_95 : decode cX10_voyage 95 = .ok (.aload_n 0, 1) := by decide +kernel
theorem dX10_voyage_96 : decode cX10_voyage 96 = .ok (.getfield 31, 3) := by decide +kernel
theorem dX10_voyage_99 : decode cX10_voyage 99 = .ok (.aload_n 0, 1) := by decide +kernel
theorem dX10_voyage_100 : decode cX10_voyage 100 = .ok (.getfield 151, 3) := by decide +kernel
theorem dX10_voyage_103 : decode cX10_voyage 103 = .ok (.iload 5, 2) := by decide +kernel
theorem dX10_voyage_105 : decode cX10_voyage 105 = .ok (.iastore, 1) := by decide +kernel
theorem dX10_voyage_106 : decode cX10_voyage 106 = .ok (.aload_n 0, 1) := by decide +kernel
theorem dX10_voyage_107 : decode cX10_voyage 107 = .ok (.getfield 34, 3) := by decide +kernel
theorem dX10_voyage_110 : decode cX10_voyage 110 = .ok (.aload_n 0, 1) := by decide +kernel
theorem dX10_voyage_111 : decode cX10_voyage 111 = .ok (.getfield 151, 3) := by decide +kernel
theorem dX10_voyage_114 : decode cX10_voyage 114 = .ok (.iconst 0, 1) := by decide +kernel
theorem dX10_voyage_115 : decode cX10_voyage 115 = .ok (.iastore, 1) := by decide +kernel
theorem dX10_voyage_116 : decode cX10_voyage 116 = .ok (.aload_n 0, 1) := by decide +kernel
theorem dX10_voyage_117 : decode cX10_voyage 117 = .ok (.getfield 43, 3) := by decide +kernel
theorem dX10_voyage_120 : decode cX10_voyage 120 = .ok (.bipush 7, 2) := by decide +kernel
theorem dX10_voyage_122 : decode cX10_voyage 122 = .ok (.aload_n 0, 1) := by decide +kernel
theorem dX10_voyage_123 : decode cX10_voyage 123 = .ok (.getfield 151, 3) := by decide +kernel
theorem dX10_voyage_126 : decode cX10_voyage 126 = .ok (.imul, 1) := by decide +kernel
theorem dX10_voyage_127 : decode cX10_voyage 127 = .ok (.iload_n 2, 1) := by decide +kernel
theorem dX10_voyage_128 : decode cX10_voyage 128 = .ok (.iastore, 1) := by decide +kernel
theorem dX10_voyage_129 : decode cX10_voyage 129 = .ok (.aload_n 0, 1) := by decide +kernel
theorem dX10_voyage_130 : decode cX10_voyage 130 = .ok (.aload_n 0, 1) := by decide +kernel
theorem dX10_voyage_131 : decode cX10_voyage 131 = .ok (.getfield 151, 3) := by decide +kernel
theorem dX10_voyage_134 : decode cX10_voyage 134 = .ok (.iconst 1, 1) := by decide +kernel
theorem dX10_voyage_135 : decode cX10_voyage 135 = .ok (.iadd, 1) := by decide +kernel
theorem dX10_voyage_136 : decode cX10_voyage 136 = .ok (.putfield 151, 3) := by decide +kernel
theorem dX10_voyage_139 : decode cX10_voyage 139 = .ok (.aload_n 0, 1) := by decide +kernel
theorem dX10_voyage_140 : decode cX10_voyage 140 = .ok (.iconst 0, 1) := by decide +kernel
theorem dX10_voyage_141 : decode cX10_voyage 141 = .ok (.putfield 165, 3) := by decide +kernel
theorem dX10_voyage_144 : decode cX10_voyage 144 = .ok (.aload_n 0, 1) := by decide +kernel
theorem dX10_voyage_145 : decode cX10_voyage 145 = .ok (.getfield 151, 3) := by decide +kernel
theorem dX10_voyage_148 : decode cX10_voyage 148 = .ok (.iconst 1, 1) := by decide +kernel
theorem dX10_voyage_149 : decode cX10_voyage 149 = .ok (.isub, 1) := by decide +kernel
theorem dX10_voyage_150 : decode cX10_voyage 150 = .ok (.ireturn, 1) := by decide +kernel
theorem dX10_leg_0 : decode cX10_leg 0 = .ok (.aload_n 0, 1) := by decide +kernel
theorem dX10_leg_1 : decode cX10_leg 1 = .ok (.iload_n 1, 1) := by decide +kernel
theorem dX10_leg_2 : decode cX10_leg 2 = .ok (.invokevirtual 169, 3) := by decide +kernel
theorem dX10_leg_5 : decode cX10_leg 5 = .ok (.ifCond .eq 26, 3) := by decide +kernel
theorem dX10_leg_8 : decode cX10_leg 8 = .ok (.iload_n 2, 1) := by decide +kernel
theorem dX10_leg_9 : decode cX10_leg 9 = .ok (.ifCond .lt 22, 3) := by decide +kernel
theorem dX10_leg_12 : decode cX10_leg 12 = .ok (.iload_n 2, 1) := by decide +kernel
theorem dX10_leg_13 : decode cX10_leg 13 = .ok (.aload_n 0, 1) := by decide +kernel
theorem dX10_leg_14 : decode cX10_leg 14 = .ok (.getfield 158, 3) := by decide +kernel
theorem dX10_leg_17 : decode cX10_leg 17 = .ok (.if_icmp .ge 14, 3) := by decide +kernel
theorem dX10_leg_20 : decode cX10_leg 20 = .ok (.aload_n 0, 1) := by decide +kernel
theorem dX10_leg_21 : decode cX10_leg 21 = .ok (.getfield 34, 3) := by decide +kernel
theorem dX10_leg_24 : decode cX10_leg 24 = .ok (.iload_n 1, 1) := by decide +kernel
theorem dX10_leg_25 : decode cX10_leg 25 = .ok (.iaload, 1) := by decide +kernel
theorem dX10_leg_26 : decode cX10_leg 26 = .ok (.bipush 6, 2) := by decide +kernel
theorem dX10_leg_28 : decode cX10_leg 28 = .ok (.if_icmp .ne 5, 3) := by decide +kernel
theorem dX10_leg_31 : decode cX10_leg 31 = .ok (.iconst (-1), 1) := by decide +kernel
theorem dX10_leg_32 : decode cX10_leg 32 = .ok (.ireturn, 1) := by decide +kernel
theorem dX10_leg_33 : decode cX10_leg 33 = .ok (.aload_n 0, 1) := by decide +kernel
theorem dX10_leg_34 : decode cX10_leg 34 = .ok (.getfield 43, 3) := by decide +kernel
theorem dX10_leg_37 : decode cX10_leg 37 = .ok (.bipush 7, 2) := by decide +kernel
theorem dX10_leg_39 : decode cX10_leg 39 = .ok (.iload_n 1, 1) := by decide +kernel
theorem dX10_leg_40 : decode cX10_leg 40 = .ok (.imul, 1) := by decide +kernel
theorem dX10_leg_41 : decode cX10_leg 41 = .ok (.aload_n 0, 1) := by decide +kernel
theorem dX10_leg_42 : decode cX10_leg 42 = .ok (.getfield 34, 3) := by decide +kernel
theorem dX10_leg_45 : decode cX10_leg 45 = .ok (.iload_n 1, 1) := by decide +kernel
theorem dX10_leg_46 : decode cX10_leg 46 = .ok (.iaload, 1) := by decide +kernel
theorem dX10_leg_47 : decode cX10_leg 47 = .ok (.iadd, 1) := by decide +kernel
theorem dX10_leg_48 : decode cX10_leg 48 = .ok (.iaload, 1) := by decide +kernel
theorem dX10_leg_49 : decode cX10_leg 49 = .ok (.istore_n 3, 1) := by decide +kernel
theorem dX10_leg_50 : decode cX10_leg 50 = .ok (.aload_n 0, 1) := by decide +kernel
theorem dX10_leg_51 : decode cX10_leg 51 = .ok (.getfield 7, 3) := by decide +kernel
theorem dX10_leg_54 : decode cX10_leg 54 = .ok (.iload_n 2, 1) := by decide +kernel
theorem dX10_leg_55 : decode cX10_leg 55 = .ok (.iaload, 1) := by decide +kernel
theorem dX10_leg_56 : decode cX10_leg 56 = .ok (.iload_n 3, 1) := by decide +kernel
theorem dX10_leg_57 : decode cX10_leg 57 = .ok (.if_icmp .eq 15, 3) := by decide +kernel
theorem dX10_leg_60 : decode cX10_leg 60 = .ok (.aload_n 0, 1) := by decide +kernel
theorem dX10_leg_61 : decode cX10_leg 61 = .ok (.getfield 13, 3) := by decide +kernel
theorem dX10_leg_64 : decode cX10_leg 64 = .ok (.iload_n 2, 1) := by decide +kernel
theorem dX10_leg_65 : decode cX10_leg 65 = .ok (.iaload, 1) := by decide +kernel
theorem dX10_leg_66 : decode cX10_leg 66 = .ok (.iload_n 3, 1) := by decide +kernel
theorem dX10_leg_67 : decode cX10_leg 67 = .ok (.if_icmp .eq 5, 3) := by decide +kernel
theorem dX10_leg_70 : decode cX10_leg 70 = .ok (.iconst (-1), 1) := by decide +kernel
theorem dX10_leg_71 : decode cX10_leg 71 = .ok (.ireturn, 1) := by decide +kernel
theorem dX10_leg_72 : decode cX10_leg 72 = .ok (.aload_n 0, 1) := by decide +kernel
theorem dX10_leg_73 : decode cX10_leg 73 = .ok (.getfield 37, 3) := by decide +kernel
theorem dX10_leg_76 : decode cX10_leg 76 = .ok (.bipush 6, 2) := by decide +kernel
theorem dX10_leg_78 : decode cX10_leg 78 = .ok (.iload_n 1, 1) := by decide +kernel
theorem dX10_leg_79 : decode cX10_leg 79 = .ok (.imul, 1) := by decide +kernel
theorem dX10_leg_80 : decode cX10_leg 80 = .ok (.aload_n 0, 1) := by decide +kernel
theorem dX10_leg_81 : decode cX10_leg 81 = .ok (.getfield 34, 3) := by decide +kernel
theorem dX10_leg_84 : decode cX10_leg 84 = .ok (.iload_n 1, 1) := by decide +kernel
theorem dX10_leg_85 : decode cX10_leg 85 = .ok (.iaload, 1) := by decide +kernel
theorem dX10_leg_86 : decode cX10_leg 86 = .ok (.iadd, 1) := by decide +kernel
theorem dX10_leg_87 : decode cX10_leg 87 = .ok (.iload_n 2, 1) := by decide +kernel
theorem dX10_leg_88 : decode cX10_leg 88 = .ok (.iastore, 1) := by decide +kernel
theorem dX10_leg_89 : decode cX10_leg 89 = .ok (.aload_n 0, 1) := by decide +kernel
theorem dX10_leg_90 : decode cX10_leg 90 = .ok (.getfield 40, 3) := by decide +kernel
theorem dX10_leg_93 : decode cX10_leg 93 = .ok (.bipush 6, 2) := by decide +kernel
theorem dX10_leg_95 : decode cX10_leg 95 = .ok (.iload_n 1, 1) := by decide +kernel
theorem dX10_leg_96 : decode cX10_leg 96 = .ok (.imul, 1) := by decide +kernel
theorem dX10_leg_97 : decode cX10_leg 97 = .ok (.aload_n 0, 1) := by decide +kernel
theorem dX10_leg_98 : decode cX10_leg 98 = .ok (.getfield 34, 3) := by decide +kernel
theorem dX10_leg_101 : decode cX10_leg 101 = .ok (.iload_n 1, 1) := by decide +kernel
theorem dX10_leg_102 : decode cX10_leg 102 = .ok (.iaload, 1) := by decide +kernel
theorem dX10_leg_103 : decode cX10_leg 103 = .ok (.iadd, 1) := by decide +kernel
theorem dX10_leg_104 : decode cX10_leg 104 = .ok (.iconst 0, 1) := by decide +kernel
theorem dX10_leg_105 : decode cX10_leg 105 = .ok (.iastore, 1) := by decide +kernel
theorem dX10_leg_106 : decode cX10_leg 106 = .ok (.aload_n 0, 1) := by decide +kernel
theorem dX10_leg_107 : decode cX10_leg 107 = .ok (.getfield 34, 3) := by decide +kernel
theorem dX10_leg_110 : decode cX10_leg 110 = .ok (.iload_n 1, 1) := by decide +kernel
theorem dX10_leg_111 : decode cX10_leg 111 = .ok (.aload_n 0, 1) := by decide +kernel
theorem dX10_leg_112 : decode cX10_leg 112 = .ok (.getfield 34, 3) := by decide +kernel
theorem dX10_leg_115 : decode cX10_leg 115 = .ok (.iload_n 1, 1) := by decide +kernel
theorem dX10_leg_116 : decode cX10_leg 116 = .ok (.iaload, 1) := by decide +kernel
theorem dX10_leg_117 : decode cX10_leg 117 = .ok (.iconst 1, 1) := by decide +kernel
theorem dX10_leg_118 : decode cX10_leg 118 = .ok (.iadd, 1) := by decide +kernel
theorem dX10_leg_119 : decode cX10_leg 119 = .ok (.iastore, 1) := by decide +kernel
theorem dX10_leg_120 : decode cX10_leg 120 = .ok (.aload_n 0, 1) := by decide +kernel
theorem dX10_leg_121 : decode cX10_leg 121 = .ok (.getfield 43, 3) := by decide +kernel
theorem dX10_leg_124 : decode cX10_leg 124 = .ok (.bipush 7, 2) := by decide +kernel
theorem dX10_leg_126 : decode cX10_leg 126 = .ok (.iload_n 1, 1) := by decide +kernel
theorem dX10_leg_127 : decode cX10_leg 127 = .ok (.imul, 1) := by decide +kernel
theorem dX10_leg_128 : decode cX10_leg 128 = .ok (.aload_n 0, 1) := by decide +kernel
theorem dX10_leg_129 : decode cX10_leg 129 = .ok (.getfield 34, 3) := by decide +kernel
theorem dX10_leg_132 : decode cX10_leg 132 = .ok (.iload_n 1, 1) := by decide +kernel
theorem dX10_leg_133 : decode cX10_leg 133 = .ok (.iaload, 1) := by decide +kernel
theorem dX10_leg_134 : decode cX10_leg 134 = .ok (.iadd, 1) := by decide +kernel
theorem dX10_leg_135 : decode cX10_leg 135 = .ok (.aload_n 0, 1) := by decide +kernel
theorem dX10_leg_136 : decode cX10_leg 136 = .ok (.getfield 7, 3) := by decide +kernel
theorem dX10_leg_139 : decode cX10_leg 139 = .ok (.iload_n 2, 1) := by decide +kernel
theorem dX10_leg_140 : decode cX10_leg 140 = .ok (.iaload, 1) := by decide +kernel
theorem dX10_leg_141 : decode cX10_leg 141 = .ok (.iload_n 3, 1) := by decide +kernel
theorem dX10_leg_142 : decode cX10_leg 142 = .ok (.if_icmp .ne 12, 3) := by decide +kernel
theorem dX10_leg_145 : decode cX10_leg 145 = .ok (.aload_n 0, 1) := by decide +kernel
theorem dX10_leg_146 : decode cX10_leg 146 = .ok (.getfield 13, 3) := by decide +kernel
theorem dX10_leg_149 : decode cX10_leg 149 = .ok (.iload_n 2, 1) := by decide +kernel
theorem dX10_leg_150 : decode cX10_leg 150 = .ok (.iaload, 1) := by decide +kernel
theorem dX10_leg_151 : decode cX10_leg 151 = .ok (.goto 9, 3) := by decide +kernel
theorem dX10_leg_154 : decode cX10_leg 154 = .ok (.aload_n 0, 1) := by decide +kernel
theorem dX10_leg_155 : decode cX10_leg 155 = .ok (.getfield 7, 3) := by decide +kernel
theorem dX10_leg_158 : decode cX10_leg 158 = .ok (.iload_n 2, 1) := by decide +kernel
theorem dX10_leg_159 : decode cX10_leg 159 = .ok (.iaload, 1) := by decide +kernel
theorem dX10_leg_160 : decode cX10_leg 160 = .ok (.iastore, 1) := by decide +kernel
theorem dX10_leg_161 : decode cX10_leg 161 = .ok (.aload_n 0, 1) := by decide +kernel
theorem dX10_leg_162 : decode cX10_leg 162 = .ok (.iconst 0, 1) := by decide +kernel
theorem dX10_leg_163 : decode cX10_leg 163 = .ok (.putfield 165, 3) := by decide +kernel
theorem dX10_leg_166 : decode cX10_leg 166 = .ok (.aload_n 0, 1) := by decide +kernel
theorem dX10_leg_167 : decode cX10_leg 167 = .ok (.getfield 34, 3) := by decide +kernel
theorem dX10_leg_170 : decode cX10_leg 170 = .ok (.iload_n 1, 1) := by decide +kernel
theorem dX10_leg_171 : decode cX10_leg 171 = .ok (.iaload, 1) := by decide +kernel
theorem dX10_leg_172 : decode cX10_leg 172 = .ok (.ireturn, 1) := by decide +kernel
theorem dX10_broken_0 : decode cX10_broken 0 = .ok (.aload_n 0, 1) := by decide +kernel
theorem dX10_broken_1 : decode cX10_broken 1 = .ok (.iload_n 1, 1) := by decide +kernel
theorem dX10_broken_2 : decode cX10_broken 2 = .ok (.invokevirtual 169, 3) := by decide +kernel
theorem dX10_broken_5 : decode cX10_broken 5 = .ok (.ifCond .eq 28, 3) := by decide +kernel
theorem dX10_broken_8 : decode cX10_broken 8 = .ok (.iload_n 2, 1) := by decide +kernel
theorem dX10_broken_9 : decode cX10_broken 9 = .ok (.ifCond .lt 24, 3) := by decide +kernel
theorem dX10_broken_12 : decode cX10_broken 12 = .ok (.iload_n 2, 1) := by decide +kernel
theorem dX10_broken_13 : decode cX10_broken 13 = .ok (.aload_n 0, 1) := by decide +kernel
theorem dX10_broken_14 : decode cX10_broken 14 = .ok (.getfield 34, 3) := by decide +kernel
theorem dX10_broken_17 : decode cX10_broken 17 = .ok (.iload_n 1, 1) := by decide +kernel
theorem dX10_broken_18 : decode cX10_broken 18 = .ok (.iaload, 1) := by decide +kernel
theorem dX10_broken_19 : decode cX10_broken 19 = .ok (.if_icmp .ge 14, 3) := by decide +kernel
theorem dX10_broken_22 : decode cX10_broken 22 = .ok (.iload_n 3, 1) := by decide +kernel
theorem dX10_broken_23 : decode cX10_broken 23 = .ok (.ifCond .lt 10, 3) := by decide +kernel
theorem dX10_broken_26 : decode cX10_broken 26 = .ok (.iload_n 3, 1) := by decide +kernel
theorem dX10_broken_27 : decode cX10_broken 27 = .ok (.sipush 500, 3) := by decide +kernel
theorem dX10_broken_30 : decode cX10_broken 30 = .ok (.if_icmp .le 5, 3) := by decide +kernel
theorem dX10_broken_33 : decode cX10_broken 33 = .ok (.iconst 0, 1) := by decide +kernel
theorem dX10_broken_34 : decode cX10_broken 34 = .ok (.ireturn, 1) := by decide +kernel
theorem dX10_broken_35 : decode cX10_broken 35 = .ok (.aload_n 0, 1) := by decide +kernel
theorem dX10_broken_36 : decode cX10_broken 36 = .ok (.getfield 40, 3) := by decide +kernel
theorem dX10_broken_39 : decode cX10_broken 39 = .ok (.bipush 6, 2) := by decide +kernel
theorem dX10_broken_41 : decode cX10_broken 41 = .ok (.iload_n 1, 1) := by decide +kernel
theorem dX10_broken_42 : decode cX10_broken 42 = .ok (.imul, 1) := by decide +kernel
theorem dX10_broken_43 : decode cX10_broken 43 = .ok (.iload_n 2, 1) := by decide +kernel
theorem dX10_broken_44 : decode cX10_broken 44 = .ok (.iadd, 1) := by decide +kernel
theorem dX10_broken_45 : decode cX10_broken 45 = .ok (.iload_n 3, 1) := by decide +kernel
theorem dX10_broken_46 : decode cX10_broken 46 = .ok (.iastore, 1) := by decide +kernel
theorem dX10_broken_47 : decode cX10_broken 47 = .ok (.aload_n 0, 1) := by decide +kernel
theorem dX10_broken_48 : decode cX10_broken 48 = .ok (.iconst 0, 1) := by decide +kernel
theorem dX10_broken_49 : decode cX10_broken 49 = .ok (.putfield 165, 3) := by decide +kernel
theorem dX10_broken_52 : decode cX10_broken 52 = .ok (.iconst 1, 1) := by decide +kernel
theorem dX10_broken_53 : decode cX10_broken 53 = .ok (.ireturn, 1) := by decide +kernel
theorem dX10_meeting_0 : decode cX10_meeting 0 = .ok (.iconst 0, 1) := by decide +kernel
theorem dX10_meeting_1 : decode cX10_meeting 1 = .ok (.istore_n 3, 1) := by decide +kernel
theorem dX10_meeting_2 : decode cX10_meeting 2 = .ok (.iload_n 3, 1) := by decide +kernel
theorem dX10_meeting_3 : decode cX10_meeting 3 = .ok (.aload_n 0, 1) := by decide +kernel
theorem dX10_meeting_4 : decode cX10_meeting 4 = .ok (.getfield 172, 3) := by decide +kernel
theorem dX10_meeting_7 : decode cX10_meeting 7 = .ok (.if_icmp .ge 31, 3) := by decide +kernel
theorem dX10_meeting_10 : decode cX10_meeting 10 = .ok (.aload_n 0, 1) := by decide +kernel
theorem dX10_meeting_11 : decode cX10_meeting 11 = .ok (.getfield 46, 3) := by decide +kernel
theorem dX10_meeting_14 : decode cX10_meeting 14 = .ok (.iload_n 3, 1) := by decide +kernel
theorem dX10_meeting_15 : decode cX10_meeting 15 = .ok (.iaload, 1) := by decide +kernel
theorem dX10_meeting_16 : decode cX10_meeting 16 = .ok (.iload_n 1, 1) := by decide +kernel
theorem dX10_meeting_17 : decode cX10_meeting 17 = .ok (.if_icmp .ne 15, 3) := by decide +kernel
theorem dX10_meeting_20 : decode cX10_meeting 20 = .ok (.aload_n 0, 1) := by decide +kernel
theorem dX10_meeting_21 : decode cX10_meeting 21 = .ok (.getfield 49, 3) := by decide +kernel
theorem dX10_meeting_24 : decode cX10_meeting 24 = .ok (.iload_n 3, 1) := by decide +kernel
theorem dX10_meeting_25 : decode cX10_meeting 25 = .ok (.iaload, 1) := by decide +kernel
theorem dX10_meeting_26 : decode cX10_meeting 26 = .ok (.iload_n 2, 1) := by decide +kernel
theorem dX10_meeting_27 : decode cX10_meeting 27 = .ok (.if_icmp .ne 5, 3) := by decide +kernel
theorem dX10_meeting_30 : decode cX10_meeting 30 = .ok (.iload_n 3, 1) := by decide +kernel
theorem dX10_meeting_31 : decode cX10_meeting 31 = .ok (.ireturn, 1) := by decide +kernel
theorem dX10_meeting_32 : decode cX10_meeting 32 = .ok (.iinc 3 1, 3) := by decide +kernel
theorem dX10_meeting_35 : decode cX10_meeting 35 = .ok (.goto (-33), 3) := by decide +kernel
theorem dX10_meeting_38 : decode cX10_meeting 38 = .ok (.iconst (-1), 1) := by decide +kernel
theorem dX10_meeting_39 : decode cX10_meeting 39 = .ok (.ireturn, 1) := by decide +kernel
theorem dX10_meet_0 : decode cX10_meet 0 = .ok (.aload_n 0, 1) := by decide +kernel
theorem dX10_meet_1 : decode cX10_meet 1 = .ok (.iload_n 1, 1) := by decide +kernel
theorem dX10_meet_2 : decode cX10_meet 2 = .ok (.invokevirtual 169, 3) := by decide +kernel
theorem dX10_meet_5 : decode cX10_meet 5 = .ok (.ifCond .eq 56, 3) := by decide +kernel
theorem dX10_meet_8 : decode cX10_meet 8 = .ok (.aload_n 0, 1) := by decide +kernel
theorem dX10_meet_9 : decode cX10_meet 9 = .ok (.iload_n 3, 1) := by decide +kernel
theorem dX10_meet_10 : decode cX10_meet 10 = .ok (.invokevirtual 169, 3) := by decide +kernel
theorem dX10_meet_13 : decode cX10_meet 13 = .ok (.ifCond .eq 48, 3) := by decide +kernel
theorem dX10_meet_16 : decode cX10_meet 16 = .ok (.iload_n 1, 1) := by decide +kernel
theorem dX10_meet_17 : decode cX10_meet 17 = .ok (.iload_n 3, 1) := by decide +kernel
theorem dX10_meet_18 : decode cX10_meet 18 = .ok (.if_icmp .eq 43, 3) := by decide +kernel
theorem dX10_meet_21 : decode cX10_meet 21 = .ok (.iload_n 2, 1) := by decide +kernel
theorem dX10_meet_22 : decode cX10_meet 22 = .ok (.ifCond .lt 39, 3) := by decide +kernel
theorem dX10_meet_25 : decode cX10_meet 25 = .ok (.iload_n 2, 1) := by decide +kernel
theorem dX10_meet_26 : decode cX10_meet 26 = .ok (.aload_n 0, 1) := by decide +kernel
theorem dX10_meet_27 : decode cX10_meet 27 = .ok (.getfield 34, 3) := by decide +kernel
theorem dX10_meet_30 : decode cX10_meet 30 = .ok (.iload_n 1, 1) := by decide +kernel
theorem dX10_meet_31 : decode cX10_meet 31 = .ok (.iaload, 1) := by decide +kernel
theorem dX10_meet_32 : decode cX10_meet 32 = .ok (.if_icmp .ge 29, 3) := by decide +kernel
theorem dX10_meet_35 : decode cX10_meet 35 = .ok (.iload 4, 2) := by decide +kernel
theorem dX10_meet_37 : decode cX10_meet 37 = .ok (.iconst 1, 1) := by decide +kernel
theorem dX10_meet_38 : decode cX10_meet 38 = .ok (.if_icmp .lt 23, 3) := by decide +kernel
theorem dX10_meet_41 : decode cX10_meet 41 = .ok (.iload 4, 2) := by decide +kernel
theorem dX10_meet_43 : decode cX10_meet 43 = .ok (.aload_n 0, 1) := by decide +kernel
theorem dX10_meet_44 : decode cX10_meet 44 = .ok (.getfield 34, 3) := by decide +kernel
theorem dX10_meet_47 : decode cX10_meet 47 = .ok (.iload_n 3, 1) := by decide +kernel
theorem dX10_meet_48 : decode cX10_meet 48 = .ok (.iaload, 1) := by decide +kernel
theorem dX10_meet_49 : decode cX10_meet 49 = .ok (.if_icmp .gt 12, 3) := by decide +kernel
theorem dX10_meet_52 : decode cX10_meet 52 = .ok (.aload_n 0, 1) := by decide +kernel
theorem dX10_meet_53 : decode cX10_meet 53 = .ok (.getfield 172, 3) := by decide +kernel
theorem dX10_meet_56 : decode cX10_meet 56 = .ok (.bipush 20, 2) := by decide +kernel
theorem dX10_meet_58 : decode cX10_meet 58 = .ok (.if_icmp .ne 5, 3) := by decide +kernel
theorem dX10_meet_61 : decode cX10_meet 61 = .ok (.iconst 0, 1) := by decide +kernel
theorem dX10_meet_62 : decode cX10_meet 62 = .ok (.ireturn, 1) := by decide +kernel
theorem dX10_meet_63 : decode cX10_meet 63 = .ok (.aload_n 0, 1) := by decide +kernel
theorem dX10_meet_64 : decode cX10_meet 64 = .ok (.getfield 43, 3) := by decide +kernel
theorem dX10_meet_67 : decode cX10_meet 67 = .ok (.bipush 7, 2) := by decide +kernel
theorem dX10_meet_69 : decode cX10_meet 69 = .ok (.iload_n 1, 1) := by decide +kernel
theorem dX10_meet_70 : decode cX10_meet 70 = .ok (.imul, 1) := by decide +kernel
theorem dX10_meet_71 : decode cX10_meet 71 = .ok (.iload_n 2, 1) := by decide +kernel
theorem dX10_meet_72 : decode cX10_meet 72 = .ok (.iadd, 1) := by decide +kernel
theorem dX10_meet_73 : decode cX10_meet 73 = .ok (.iaload, 1) := by decide +kernel
theorem dX10_meet_74 : decode cX10_meet 74 = .ok (.aload_n 0, 1) := by decide +kernel
theorem dX10_meet_75 : decode cX10_meet 75 = .ok (.getfield 43, 3) := by decide +kernel
theorem dX10_meet_78 : decode cX10_meet 78 = .ok (.bipush 7, 2) := by decide +kernel
theorem dX10_meet_80 : decode cX10_meet 80 = .ok (.iload_n 3, 1) := by decide +kernel
theorem dX10_meet_81 : decode cX10_meet 81 = .ok (.imul, 1) := by decide +kernel
theorem dX10_meet_82 : decode cX10_meet 82 = .ok (.iload 4, 2) := by decide +kernel
theorem dX10_meet_84 : decode cX10_meet 84 = .ok (.iadd, 1) := by decide +kernel
theorem dX10_meet_85 : decode cX10_meet 85 = .ok (.iaload, 1) := by decide +kernel
theorem dX10_meet_86 : decode cX10_meet 86 = .ok (.if_icmp .ne 13, 3) := by decide +kernel
theorem dX10_meet_89 : decode cX10_meet 89 = .ok (.aload_n 0, 1) := by decide +kernel
theorem dX10_meet_90 : decode cX10_meet 90 = .ok (.iload_n 1, 1) := by decide +kernel
theorem dX10_meet_91 : decode cX10_meet 91 = .ok (.iload_n 2, 1) := by decide +kernel
theorem dX10_meet_92 : decode cX10_meet 92 = .ok (.invokevirtual 175, 3) := by decide +kernel
theorem dX10_meet_95 : decode cX10_meet 95 = .ok (.iconst (-1), 1) := by decide +kernel
theorem dX10_meet_96 : decode cX10_meet 96 = .ok (.if_icmp .eq 5, 3) := by decide +kernel
theorem dX10_meet_99 : decode cX10_meet 99 = .ok (.iconst 0, 1) := by decide +kernel
theorem dX10_meet_100 : decode cX10_meet 100 = .ok (.ireturn, 1) := by decide +kernel
theorem dX10_meet_101 : decode cX10_meet 101 = .ok (.aload_n 0, 1) := by decide +kernel
theorem dX10_meet_102 : decode cX10_meet 102 = .ok (.getfield 46, 3) := by decide +kernel
theorem dX10_meet_105 : decode cX10_meet 105 = .ok (.aload_n 0, 1) := by decide +kernel
theorem dX10_meet_106 : decode cX10_meet 106 = .ok (.getfield 172, 3) := by decide +kernel
theorem dX10_meet_109 : decode cX10_meet 109 = .ok (.iload_n 1, 1) := by decide +kernel
theorem dX10_meet_110 : decode cX10_meet 110 = .ok (.iastore, 1) := by decide +kernel
theorem dX10_meet_111 : decode cX10_meet 111 = .ok (.aload_n 0, 1) := by decide +kernel
theorem dX10_meet_112 : decode cX10_meet 112 = .ok (.getfield 49, 3) := by decide +kernel
theorem dX10_meet_115 : decode cX10_meet 115 = .ok (.aload_n 0, 1) := by decide +kernel
theorem dX10_meet_116 : decode cX10_meet 116 = .ok (.getfield 172, 3) := by decide +kernel
theorem dX10_meet_119 : decode cX10_meet 119 = .ok (.iload_n 2, 1) := by decide +kernel
theorem dX10_meet_120 : decode cX10_meet 120 = .ok (.iastore, 1) := by decide +kernel
theorem dX10_meet_121 : decode cX10_meet 121 = .ok (.aload_n 0, 1) := by decide +kernel
theorem dX10_meet_122 : decode cX10_meet 122 = .ok (.getfield 52, 3) := by decide +kernel
theorem dX10_meet_125 : decode cX10_meet 125 = .ok (.aload_n 0, 1) := by decide +kernel
theorem dX10_meet_126 : decode cX10_meet 126 = .ok (.getfield 172, 3) := by decide +kernel
theorem dX10_meet_129 : decode cX10_meet 129 = .ok (.iload_n 3, 1) := by decide +kernel
theorem dX10_meet_130 : decode cX10_meet 130 = .ok (.iastore, 1) := by decide +kernel
theorem dX10_meet_131 : decode cX10_meet 131 = .ok (.aload_n 0, 1) := by decide +kernel
theorem dX10_meet_132 : decode cX10_meet 132 = .ok (.getfield 55, 3) := by decide +kernel
theorem dX10_meet_135 : decode cX10_meet 135 = .ok (.aload_n 0, 1) := by decide +kernel
theorem dX10_meet_136 : decode cX10_meet 136 = .ok (.getfield 172, 3) := by decide +kernel
theorem dX10_meet_139 : decode cX10_meet 139 = .ok (.iload 4, 2) := by decide +kernel
theorem dX10_meet_141 : decode cX10_meet 141 = .ok (.iastore, 1) := by decide +kernel
theorem dX10_meet_142 : decode cX10_meet 142 = .ok (.aload_n 0, 1) := by decide +kernel
theorem dX10_meet_143 : decode cX10_meet 143 = .ok (.aload_n 0, 1) := by decide +kernel
theorem dX10_meet_144 : decode cX10_meet 144 = .ok (.getfield 172, 3) := by decide +kernel
theorem dX10_meet_147 : decode cX10_meet 147 = .ok (.iconst 1, 1) := by decide +kernel
theorem dX10_meet_148 : decode cX10_meet 148 = .ok (.iadd, 1) := by decide +kernel
theorem dX10_meet_149 : decode cX10_meet 149 = .ok (.putfield 172, 3) := by decide +kernel
theorem dX10_meet_152 : decode cX10_meet 152 = .ok (.aload_n 0, 1) := by decide +kernel
theorem dX10_meet_153 : decode cX10_meet 153 = .ok (.iconst 0, 1) := by decide +kernel
theorem dX10_meet_154 : decode cX10_meet 154 = .ok (.putfield 165, 3) := by decide +kernel
theorem dX10_meet_157 : decode cX10_meet 157 = .ok (.iconst 1, 1) := by decide +kernel
theorem dX10_meet_158 : decode cX10_meet 158 = .ok (.ireturn, 1) := by decide +kernel
theorem dX10_types_0 : decode cX10_types 0 = .ok (.iconst 3, 1) := by decide +kernel
theorem dX10_types_1 : decode cX10_types 1 = .ok (.istore_n 2, 1) := by decide +kernel
theorem dX10_types_2 : decode cX10_types 2 = .ok (.iload_n 2, 1) := by decide +kernel
theorem dX10_types_3 : decode cX10_types 3 = .ok (.ifCond .lt 35, 3) := by decide +kernel
theorem dX10_types_6 : decode cX10_types 6 = .ok (.aload_n 0, 1) := by decide +kernel
theorem dX10_types_7 : decode cX10_types 7 = .ok (.getfield 58, 3) := by decide +kernel
theorem dX10_types_10 : decode cX10_types 10 = .ok (.aload_n 0, 1) := by decide +kernel
theorem dX10_types_11 : decode cX10_types 11 = .ok (.getfield 179, 3) := by decide +kernel
theorem dX10_types_14 : decode cX10_types 14 = .ok (.iload_n 1, 1) := by decide +kernel
theorem dX10_types_15 : decode cX10_types 15 = .ok (.bipush 8, 2) := by decide +kernel
theorem dX10_types_17 : decode cX10_types 17 = .ok (.iload_n 2, 1) := by decide +kernel
theorem dX10_types_18 : decode cX10_types 18 = .ok (.imul, 1) := by decide +kernel
theorem dX10_types_19 : decode cX10_types 19 = .ok (.ishr, 1) := by decide +kernel
theorem dX10_types_20 : decode cX10_types 20 = .ok (.i2b, 1) := by decide +kernel
theorem dX10_types_21 : decode cX10_types 21 = .ok (.bastore, 1) := by decide +kernel
theorem dX10_types_22 : decode cX10_types 22 = .ok (.aload_n 0, 1) := by decide +kernel
theorem dX10_types_23 : decode cX10_types 23 = .ok (.aload_n 0, 1) := by decide +kernel
theorem dX10_types_24 : decode cX10_types 24 = .ok (.getfield 179, 3) := by decide +kernel
theorem dX10_types_27 : decode cX10_types 27 = .ok (.iconst 1, 1) := by decide +kernel
theorem dX10_types_28 : decode cX10_types 28 = .ok (.iadd, 1) := by decide +kernel
theorem dX10_types_29 : decode cX10_types 29 = .ok (.putfield 179, 3) := by decide +kernel
theorem dX10_types_32 : decode cX10_types 32 = .ok (.iinc 2 (-1), 3) := by decide +kernel
theorem dX10_types_35 : decode cX10_types 35 = .ok (.goto (-33), 3) := by decide +kernel
theorem dX10_types_38 : decode cX10_types 38 = .ok (.return_, 1) := by decide +kernel
theorem dX10_feed_0 : decode cX10_feed 0 = .ok (.aload_n 0, 1) := by decide +kernel
theorem dX10_feed_1 : decode cX10_feed 1 = .ok (.getfield 179, 3) := by decide +kernel
theorem dX10_feed_4 : decode cX10_feed 4 = .ok (.bipush 20, 2) := by decide +kernel
theorem dX10_feed_6 : decode cX10_feed 6 = .ok (.iadd, 1) := by decide +kernel
theorem dX10_feed_7 : decode cX10_feed 7 = .ok (.sipush 200, 3) := by decide +kernel
theorem dX10_feed_10 : decode cX10_feed 10 = .ok (.if_icmp .le 5, 3) := by decide +kernel
theorem dX10_feed_13 : decode cX10_feed 13 = .ok (.iconst (-1), 1) := by decide +kernel
theorem dX10_feed_14 : decode cX10_feed 14 = .ok (.ireturn, 1) := by decide +kernel
theorem dX10_feed_15 : decode cX10_feed 15 = .ok (.aload_n 0, 1) := by decide +kernel
theorem dX10_feed_16 : decode cX10_feed 16 = .ok (.iload_n 1, 1) := by decide +kernel
theorem dX10_feed_17 : decode cX10_feed 17 = .ok (.invokevirtual 182, 3) := by decide +kernel
theorem dX10_feed_20 : decode cX10_feed 20 = .ok (.aload_n 0, 1) := by decide +kernel
theorem dX10_feed_21 : decode cX10_feed 21 = .ok (.iload_n 2, 1) := by decide +kernel
theorem dX10_feed_22 : decode cX10_feed 22 = .ok (.invokevirtual 182, 3) := by decide +kernel
theorem dX10_feed_25 : decode cX10_feed 25 = .ok (.aload_n 0, 1) := by decide +kernel
theorem dX10_feed_26 : decode cX10_feed 26 = .ok (.iload_n 3, 1) := by decide +kernel
theorem dX10_feed_27 : decode cX10_feed 27 = .ok (.invokevirtual 182, 3) := by decide +kernel
theorem dX10_feed_30 : decode cX10_feed 30 = .ok (.aload_n 0, 1) := by decide +kernel
theorem dX10_feed_31 : decode cX10_feed 31 = .ok (.iload 4, 2) := by decide +kernel
theorem dX10_feed_33 : decode cX10_feed 33 = .ok (.invokevirtual 182, 3) := by decide +kernel
theorem dX10_feed_36 : decode cX10_feed 36 = .ok (.aload_n 0, 1) := by decide +kernel
theorem dX10_feed_37 : decode cX10_feed 37 = .ok (.iload 5, 2) := by decide +kernel
theorem dX10_feed_39 : decode cX10_feed 39 = .ok (.invokevirtual 182, 3) := by decide +kernel
theorem dX10_feed_42 : decode cX10_feed 42 = .ok (.aload_n 0, 1) := by decide +kernel
theorem dX10_feed_43 : decode cX10_feed 43 = .ok (.getfield 179, 3) := by decide +kernel
theorem dX10_feed_46 : decode cX10_feed 46 = .ok (.ireturn, 1) := by decide +kernel
theorem dX10_here_0 : decode cX10_here 0 = .ok (.aload_n 0, 1) := by decide +kernel
theorem dX10_here_1 : decode cX10_here 1 = .ok (.getfield 186, 3) := by decide +kernel
theorem dX10_here_4 : decode cX10_here 4 = .ok (.aload_n 0, 1) := by decide +kernel
theorem dX10_here_5 : decode cX10_here 5 = .ok (.getfield 189, 3) := by decide +kernel
theorem dX10_here_8 : decode cX10_here 8 = .ok (.if_icmp .ge 19, 3) := by decide +kernel
theorem dX10_here_11 : decode cX10_here 11 = .ok (.aload_n 0, 1) := by decide +kernel
theorem dX10_here_12 : decode cX10_here 12 = .ok (.getfield 58, 3) := by decide +kernel
theorem dX10_here_15 : decode cX10_here 15 = .ok (.aload_n 0, 1) := by decide +kernel
theorem dX10_here_16 : decode cX10_here 16 = .ok (.getfield 186, 3) := by decide +kernel
theorem dX10_here_19 : decode cX10_here 19 = .ok (.baload, 1) := by decide +kernel
theorem dX10_here_20 : decode cX10_here 20 = .ok (.sipush 255, 3) := by decide +kernel
theorem dX10_here_23 : decode cX10_here 23 = .ok (.iand, 1) := by decide +kernel
theorem dX10_here_24 : decode cX10_here 24 = .ok (.goto 4, 3) := by decide +kernel
theorem dX10_here_27 : decode cX10_here 27 = .ok (.iconst 0, 1) := by decide +kernel
theorem dX10_here_28 : decode cX10_here 28 = .ok (.ireturn, 1) := by decide +kernel
theorem dX10_wrong_0 : decode cX10_wrong 0 = .ok (.aload_n 0, 1) := by decide +kernel
theorem dX10_wrong_1 : decode cX10_wrong 1 = .ok (.iload_n 1, 1) := by decide +kernel
theorem dX10_wrong_2 : decode cX10_wrong 2 = .ok (.putfield 192, 3) := by decide +kernel
theorem dX10_wrong_5 : decode cX10_wrong 5 = .ok (.aload_n 0, 1) := by decide +kernel
theorem dX10_wrong_6 : decode cX10_wrong 6 = .ok (.aload_n 0, 1) := by decide +kernel
theorem dX10_wrong_7 : decode cX10_wrong 7 = .ok (.getfield 186, 3) := by decide +kernel
theorem dX10_wrong_10 : decode cX10_wrong 10 = .ok (.putfield 62, 3) := by decide +kernel
theorem dX10_wrong_13 : decode cX10_wrong 13 = .ok (.iconst 0, 1) := by decide +kernel
theorem dX10_wrong_14 : decode cX10_wrong 14 = .ok (.ireturn, 1) := by decide +kernel
theorem dX10_reads_0 : decode cX10_reads 0 = .ok (.aload_n 0, 1) := by decide +kernel
theorem dX10_reads_1 : decode cX10_reads 1 = .ok (.getfield 186, 3) := by decide +kernel
theorem dX10_reads_4 : decode cX10_reads 4 = .ok (.istore_n 1, 1) := by decide +kernel
theorem dX10_reads_5 : decode cX10_reads 5 = .ok (.aload_n 0, 1) := by decide +kernel
theorem dX10_reads_6 : decode cX10_reads 6 = .ok (.iconst 0, 1) := by decide +kernel
theorem dX10_reads_7 : decode cX10_reads 7 = .ok (.putfield 195, 3) := by decide +kernel
theorem dX10_reads_10 : decode cX10_reads 10 = .ok (.aload_n 0, 1) := by decide +kernel
theorem dX10_reads_11 : decode cX10_reads 11 = .ok (.invokevirtual 198, 3) := by decide +kernel
theorem dX10_reads_14 : decode cX10_reads 14 = .ok (.bipush 48, 2) := by decide +kernel
theorem dX10_reads_16 : decode cX10_reads 16 = .ok (.if_icmp .lt 60, 3) := by decide +kernel
theorem dX10_reads_19 : decode cX10_reads 19 = .ok (.aload_n 0, 1) := by decide +kernel
theorem dX10_reads_20 : decode cX10_reads 20 = .ok (.invokevirtual 198, 3) := by decide +kernel
theorem dX10_reads_23 : decode cX10_reads 23 = .ok (.bipush 57, 2) := by decide +kernel
theorem dX10_reads_25 : decode cX10_reads 25 = .ok (.if_icmp .gt 51, 3) := by decide +kernel
theorem dX10_reads_28 : decode cX10_reads 28 = .ok (.aload_n 0, 1) := by decide +kernel
theorem dX10_reads_29 : decode cX10_reads 29 = .ok (.getfield 186, 3) := by decide +kernel
theorem dX10_reads_32 : decode cX10_reads 32 = .ok (.iload_n 1, 1) := by decide +kernel
theorem dX10_reads_33 : decode cX10_reads 33 = .ok (.iconst 4, 1) := by decide +kernel
theorem dX10_reads_34 : decode cX10_reads 34 = .ok (.iadd, 1) := by decide +kernel
theorem dX10_reads_35 : decode cX10_reads 35 = .ok (.if_icmp .ne 9, 3) := by decide +kernel
theorem dX10_reads_38 : decode cX10_reads 38 = .ok (.aload_n 0, 1) := by decide +kernel
theorem dX10_reads_39 : decode cX10_reads 39 = .ok (.iconst 1, 1) := by decide +kernel
theorem dX10_reads_40 : decode cX10_reads 40 = .ok (.invokevirtual 202, 3) := by decide +kernel
theorem dX10_reads_43 : decode cX10_reads 43 = .ok (.ireturn, 1) := by decide +kernel
theorem dX10_reads_44 : decode cX10_reads 44 = .ok (.aload_n 0, 1) := by decide +kernel
theorem dX10_reads_45 : decode cX10_reads 45 = .ok (.bipush 10, 2) := by decide +kernel
theorem dX10_reads_47 : decode cX10_reads 47 = .ok (.aload_n 0, 1) := by decide +kernel
theorem dX10_reads_48 : decode cX10_reads 48 = .ok (.getfield 195, 3) := by decide +kernel
theorem dX10_reads_51 : decode cX10_reads 51 = .ok (.imul, 1) := by decide +kernel
theorem dX10_reads_52 : decode cX10_reads 52 = .ok (.aload_n 0, 1) := by decide +kernel
theorem dX10_reads_53 : decode cX10_reads 53 = .ok (.invokevirtual 198, 3) := by decide +kernel
theorem dX10_reads_56 : decode cX10_reads 56 = .ok (.iadd, 1) := by decide +kernel
theorem dX10_reads_57 : decode cX10_reads 57 = .ok (.bipush 48, 2) := by decide +kernel
theorem dX10_reads_59 : decode cX10_reads 59 = .ok (.isub, 1) := by decide +kernel
theorem dX10_reads_60 : decode cX10_reads 60 = .ok (.putfield 195, 3) := by decide +kernel
theorem dX10_reads_63 : decode cX10_reads 63 = .ok (.aload_n 0, 1) := by decide +kernel
theorem dX10_reads_64 : decode cX10_reads 64 = .ok (.aload_n 0, 1) := by decide +kernel
theorem dX10_reads_65 : decode cX10_reads 65 = .ok (.getfield 186, 3) := by decide +kernel
theorem dX10_reads_68 : decode cX10_reads 68 = .ok (.iconst 1, 1) := by decide +kernel
theorem dX10_reads_69 : decode cX10_reads 69 = .ok (.iadd, 1) := by decide +kernel
theorem dX10_reads_70 : decode cX10_reads 70 = .ok (.putfield 186, 3) := by decide +kernel
theorem dX10_reads_73 : decode cX10_reads 73 = .ok (.goto (-63), 3) := by decide +kernel
theorem dX10_reads_76 : decode cX10_reads 76 = .ok (.aload_n 0, 1) := by decide +kernel
theorem dX10_reads_77 : decode cX10_reads 77 = .ok (.getfield 186, 3) := by decide +kernel
theorem dX10_reads_80 : decode cX10_reads 80 = .ok (.iload_n 1, 1) := by decide +kernel
theorem dX10_reads_81 : decode cX10_reads 81 = .ok (.if_icmp .gt 11, 3) := by decide +kernel
theorem dX10_reads_84 : decode cX10_reads 84 = .ok (.aload_n 0, 1) := by decide +kernel
theorem dX10_reads_85 : decode cX10_reads 85 = .ok (.iconst 1, 1) := by decide +kernel
theorem dX10_reads_86 : decode cX10_reads 86 = .ok (.invokevirtual 202, 3) := by decide +kernel
theorem dX10_reads_89 : decode cX10_reads 89 = .ok (.ifCond .eq 7, 3) := by decide +kernel
theorem dX10_reads_92 : decode cX10_reads 92 = .ok (.iconst 1, 1) := by decide +kernel
theorem dX10_reads_93 : decode cX10_reads 93 = .ok (.goto 4, 3) := by decide +kernel
theorem dX10_reads_96 : decode cX10_reads 96 = .ok (.iconst 0, 1) := by decide +kernel
theorem dX10_reads_97 : decode cX10_reads 97 = .ok (.ireturn, 1) := by decide +kernel
theorem dX10_code_0 : decode cX10_code 0 = .ok (.sipush 800, 3) := by decide +kernel
theorem dX10_code_3 : decode cX10_code 3 = .ok (.aload_n 0, 1) := by decide +kernel
theorem dX10_code_4 : decode cX10_code 4 = .ok (.getfield 69, 3) := by decide +kernel
theorem dX10_code_7 : decode cX10_code 7 = .ok (.iconst 4, 1) := by decide +kernel
theorem dX10_code_8 : decode cX10_code 8 = .ok (.iaload, 1) := by decide +kernel
theorem dX10_code_9 : decode cX10_code 9 = .ok (.iadd, 1) := by decide +kernel
theorem dX10_code_10 : decode cX10_code 10 = .ok (.istore 5, 2) := by decide +kernel
theorem dX10_code_12 : decode cX10_code 12 = .ok (.aload_n 0, 1) := by decide +kernel
theorem dX10_code_13 : decode cX10_code 13 = .ok (.getfield 87, 3) := by decide +kernel
theorem dX10_code_16 : decode cX10_code 16 = .ok (.iload 5, 2) := by decide +kernel
theorem dX10_code_18 : decode cX10_code 18 = .ok (.iload_n 1, 1) := by decide +kernel
theorem dX10_code_19 : decode cX10_code 19 = .ok (.iastore, 1) := by decide +kernel
theorem dX10_code_20 : decode cX10_code 20 = .ok (.aload_n 0, 1) := by decide +kernel
theorem dX10_code_21 : decode cX10_code 21 = .ok (.getfield 90, 3) := by decide +kernel
theorem dX10_code_24 : decode cX10_code 24 = .ok (.iload 5, 2) := by decide +kernel
theorem dX10_code_26 : decode cX10_code 26 = .ok (.iload_n 2, 1) := by decide +kernel
theorem dX10_code_27 : decode cX10_code 27 = .ok (.iastore, 1) := by decide +kernel
theorem dX10_code_28 : decode cX10_code 28 = .ok (.aload_n 0, 1) := by decide +kernel
theorem dX10_code_29 : decode cX10_code 29 = .ok (.getfield 93, 3) := by decide +kernel
theorem dX10_code_32 : decode cX10_code 32 = .ok (.iload 5, 2) := by decide +kernel
theorem dX10_code_34 : decode cX10_code 34 = .ok (.iload_n 3, 1) := by decide +kernel
theorem dX10_code_35 : decode cX10_code 35 = .ok (.iastore, 1) := by decide +kernel
theorem dX10_code_36 : decode cX10_code 36 = .ok (.aload_n 0, 1) := by decide +kernel
theorem dX10_code_37 : decode cX10_code 37 = .ok (.getfield 96, 3) := by decide +kernel
theorem dX10_code_40 : decode cX10_code 40 = .ok (.iload 5, 2) := by decide +kernel
theorem dX10_code_42 : decode cX10_code 42 = .ok (.iload 4, 2) := by decide +kernel
theorem dX10_code_44 : decode cX10_code 44 = .ok (.iastore, 1) := by decide +kernel
theorem dX10_code_45 : decode cX10_code 45 = .ok (.aload_n 0, 1) := by decide +kernel
theorem dX10_code_46 : decode cX10_code 46 = .ok (.getfield 69, 3) := by decide +kernel
theorem dX10_code_49 : decode cX10_code 49 = .ok (.iconst 4, 1) := by decide +kernel
theorem dX10_code_50 : decode cX10_code 50 = .ok (.aload_n 0, 1) := by decide +kernel
theorem dX10_code_51 : decode cX10_code 51 = .ok (.getfield 69, 3) := by decide +kernel
theorem dX10_code_54 : decode cX10_code 54 = .ok (.iconst 4, 1) := by decide +kernel
theorem dX10_code_55 : decode cX10_code 55 = .ok (.iaload, 1) := by decide +kernel
theorem dX10_code_56 : decode cX10_code 56 = .ok (.iconst 1, 1) := by decide +kernel
theorem dX10_code_57 : decode cX10_code 57 = .ok (.iadd, 1) := by decide +kernel
theorem dX10_code_58 : decode cX10_code 58 = .ok (.iastore, 1) := by decide +kernel
theorem dX10_code_59 : decode cX10_code 59 = .ok (.return_, 1) := by decide +kernel
theorem dX10_isTop_0 : decode cX10_isTop 0 = .ok (.aload_n 0, 1) := by decide +kernel
theorem dX10_isTop_1 : decode cX10_isTop 1 = .ok (.getfield 205, 3) := by decide +kernel
theorem dX10_isTop_4 : decode cX10_isTop 4 = .ok (.ifCond .le 22, 3) := by decide +kernel
theorem dX10_isTop_7 : decode cX10_isTop 7 = .ok (.aload_n 0, 1) := by decide +kernel
theorem dX10_isTop_8 : decode cX10_isTop 8 = .ok (.getfield 99, 3) := by decide +kernel
theorem dX10_isTop_11 : decode cX10_isTop 11 = .ok (.aload_n 0, 1) := by decide +kernel
theorem dX10_isTop_12 : decode cX10_isTop 12 = .ok (.getfield 205, 3) := by decide +kernel
theorem dX10_isTop_15 : decode cX10_isTop 15 = .ok (.iconst 1, 1) := by decide +kernel
theorem dX10_isTop_16 : decode cX10_isTop 16 = .ok (.isub, 1) := by decide +kernel
theorem dX10_isTop_17 : decode cX10_isTop 17 = .ok (.iaload, 1) := by decide +kernel
theorem dX10_isTop_18 : decode cX10_isTop 18 = .ok (.iload_n 1, 1) := by decide +kernel
theorem dX10_isTop_19 : decode cX10_isTop 19 = .ok (.if_icmp .ne 7, 3) := by decide +kernel
theorem dX10_isTop_22 : decode cX10_isTop 22 = .ok (.iconst 1, 1) := by decide +kernel
theorem dX10_isTop_23 : decode cX10_isTop 23 = .ok (.goto 4, 3) := by decide +kernel
theorem dX10_isTop_26 : decode cX10_isTop 26 = .ok (.iconst 0, 1) := by decide +kernel
theorem dX10_isTop_27 : decode cX10_isTop 27 = .ok (.ireturn, 1) := by decide +kernel
theorem dX10_pops_0 : decode cX10_pops 0 = .ok (.aload_n 0, 1) := by decide +kernel
theorem dX10_pops_1 : decode cX10_pops 1 = .ok (.aload_n 0, 1) := by decide +kernel
theorem dX10_pops_2 : decode cX10_pops 2 = .ok (.getfield 205, 3) := by decide +kernel
theorem dX10_pops_5 : decode cX10_pops 5 = .ok (.iconst 1, 1) := by decide +kernel
theorem dX10_pops_6 : decode cX10_pops 6 = .ok (.isub, 1) := by decide +kernel
theorem dX10_pops_7 : decode cX10_pops 7 = .ok (.putfield 205, 3) := by decide +kernel
theorem dX10_pops_10 : decode cX10_pops 10 = .ok (.aload_n 0, 1) := by decide +kernel
theorem dX10_pops_11 : decode cX10_pops 11 = .ok (.getfield 99, 3) := by decide +kernel
theorem dX10_pops_14 : decode cX10_pops 14 = .ok (.aload_n 0, 1) := by decide +kernel
theorem dX10_pops_15 : decode cX10_pops 15 = .ok (.getfield 205, 3) := by decide +kernel
theorem dX10_pops_18 : decode cX10_pops 18 = .ok (.iaload, 1) := by decide +kernel
theorem dX10_pops_19 : decode cX10_pops 19 = .ok (.istore_n 1, 1) := by decide +kernel
theorem dX10_pops_20 : decode cX10_pops 20 = .ok (.aload_n 0, 1) := by decide +kernel
theorem dX10_pops_21 : decode cX10_pops 21 = .ok (.iload_n 1, 1) := by decide +kernel
theorem dX10_pops_22 : decode cX10_pops 22 = .ok (.bipush 33, 2) := by decide +kernel
theorem dX10_pops_24 : decode cX10_pops 24 = .ok (.if_icmp .ne 7, 3) := by decide +kernel
theorem dX10_pops_27 : decode cX10_pops 27 = .ok (.iconst 1, 1) := by decide +kernel
theorem dX10_pops_28 : decode cX10_pops 28 = .ok (.goto 14, 3) := by decide +kernel
theorem dX10_pops_31 : decode cX10_pops 31 = .ok (.iload_n 1, 1) := by decide +kernel
theorem dX10_pops_32 : decode cX10_pops 32 = .ok (.bipush 38, 2) := by decide +kernel
theorem dX10_pops_34 : decode cX10_pops 34 = .ok (.if_icmp .ne 7, 3) := by decide +kernel
theorem dX10_pops_37 : decode cX10_pops 37 = .ok (.iconst 2, 1) := by decide +kernel
theorem dX10_pops_38 : decode cX10_pops 38 = .ok (.goto 4, 3) := by decide +kernel
theorem dX10_pops_41 : decode cX10_pops 41 = .ok (.iconst 3, 1) := by decide +kernel
theorem dX10_pops_42 : decode cX10_pops 42 = .ok (.iconst 0, 1) := by decide +kernel
theorem dX10_pops_43 : decode cX10_pops 43 = .ok (.iconst 0, 1) := by decide +kernel
theorem dX10_pops_44 : decode cX10_pops 44 = .ok (.iconst 0, 1) := by decide +kernel
theorem dX10_pops_45 : decode cX10_pops 45 = .ok (.invokevirtual 208, 3) := by decide +kernel
theorem dX10_pops_48 : decode cX10_pops 48 = .ok (.return_, 1) := by decide +kernel
theorem dX10_pushes_0 : decode cX10_pushes 0 = .ok (.aload_n 0, 1) := by decide +kernel
theorem dX10_pushes_1 : decode cX10_pushes 1 = .ok (.getfield 99, 3) := by decide +kernel
theorem dX10_pushes_4 : decode cX10_pushes 4 = .ok (.aload_n 0, 1) := by decide +kernel
theorem dX10_pushes_5 : decode cX10_pushes 5 = .ok (.getfield 205, 3) := by decide +kernel
theorem dX10_pushes_8 : decode cX10_pushes 8 = .ok (.iload_n 1, 1) := by decide +kernel
theorem dX10_pushes_9 : decode cX10_pushes 9 = .ok (.iastore, 1) := by decide +kernel
theorem dX10_pushes_10 : decode cX10_pushes 10 = .ok (.aload_n 0, 1) := by decide +kernel
theorem dX10_pushes_11 : decode cX10_pushes 11 = .ok (.aload_n 0, 1) := by decide +kernel
theorem dX10_pushes_12 : decode cX10_pushes 12 = .ok (.getfield 205, 3) := by decide +kernel
theorem dX10_pushes_15 : decode cX10_pushes 15 = .ok (.iconst 1, 1) := by decide +kernel
theorem dX10_pushes_16 : decode cX10_pushes 16 = .ok (.iadd, 1) := by decide +kernel
theorem dX10_pushes_17 : decode cX10_pushes 17 = .ok (.putfield 205, 3) := by decide +kernel
theorem dX10_pushes_20 : decode cX10_pushes 20 = .ok (.return_, 1) := by decide +kernel
theorem dX10_ends_0 : decode cX10_ends 0 = .ok (.aload_n 0, 1) := by decide +kernel
theorem dX10_ends_1 : decode cX10_ends 1 = .ok (.bipush 33, 2) := by decide +kernel
theorem dX10_ends_3 : decode cX10_ends 3 = .ok (.invokevirtual 212, 3) := by decide +kernel
theorem dX10_ends_6 : decode cX10_ends 6 = .ok (.ifCond .eq 20, 3) := by decide +kernel
theorem dX10_ends_9 : decode cX10_ends 9 = .ok (.aload_n 0, 1) := by decide +kernel
theorem dX10_ends_10 : decode cX10_ends 10 = .ok (.invokevirtual 215, 3) := by decide +kernel
theorem dX10_ends_13 : decode cX10_ends 13 = .ok (.aload_n 0, 1) := by decide +kernel
theorem dX10_ends_14 : decode cX10_ends 14 = .ok (.aload_n 0, 1) := by decide +kernel
theorem dX10_ends_15 : decode cX10_ends 15 = .ok (.getfield 218, 3) := by decide +kernel
theorem dX10_ends_18 : decode cX10_ends 18 = .ok (.iconst 1, 1) := by decide +kernel
theorem dX10_ends_19 : decode cX10_ends 19 = .ok (.isub, 1) := by decide +kernel
theorem dX10_ends_20 : decode cX10_ends 20 = .ok (.putfield 218, 3) := by decide +kernel
theorem dX10_ends_23 : decode cX10_ends 23 = .ok (.goto (-23), 3) := by decide +kernel
theorem dX10_ends_26 : decode cX10_ends 26 = .ok (.return_, 1) := by decide +kernel
theorem dX10_hasOpen_0 : decode cX10_hasOpen 0 = .ok (.iconst 0, 1) := by decide +kernel
theorem dX10_hasOpen_1 : decode cX10_hasOpen 1 = .ok (.istore_n 1, 1) := by decide +kernel
theorem dX10_hasOpen_2 : decode cX10_hasOpen 2 = .ok (.iconst 0, 1) := by decide +kernel
theorem dX10_hasOpen_3 : decode cX10_hasOpen 3 = .ok (.istore_n 2, 1) := by decide +kernel
theorem dX10_hasOpen_4 : decode cX10_hasOpen 4 = .ok (.iload_n 2, 1) := by decide +kernel
theorem dX10_hasOpen_5 : decode cX10_hasOpen 5 = .ok (.aload_n 0, 1) := by decide +kernel
theorem dX10_hasOpen_6 : decode cX10_hasOpen 6 = .ok (.getfield 205, 3) := by decide +kernel
theorem dX10_hasOpen_9 : decode cX10_hasOpen 9 = .ok (.if_icmp .ge 30, 3) := by decide +kernel
theorem dX10_hasOpen_12 : decode cX10_hasOpen 12 = .ok (.iload_n 1, 1) := by decide +kernel
theorem dX10_hasOpen_13 : decode cX10_hasOpen 13 = .ok (.ifCond .ne 14, 3) := by decide +kernel
theorem dX10_hasOpen_16 : decode cX10_hasOpen 16 = .ok (.aload_n 0, 1) := by decide +kernel
theorem dX10_hasOpen_17 : decode cX10_hasOpen 17 = .ok (.getfield 99, 3) := by decide +kernel
theorem dX10_hasOpen_20 : decode cX10_hasOpen 20 = .ok (.iload_n 2, 1) := by decide +kernel
theorem dX10_hasOpen_21 : decode cX10_hasOpen 21 = .ok (.iaload, 1) := by decide +kernel
theorem dX10_hasOpen_22 : decode cX10_hasOpen 22 = .ok (.bipush 40, 2) := by decide +kernel
theorem dX10_hasOpen_24 : decode cX10_hasOpen 24 = .ok (.if_icmp .ne 7, 3) := by decide +kernel
theorem dX10_hasOpen_27 : decode cX10_hasOpen 27 = .ok (.iconst 1, 1) := by decide +kernel
theorem dX10_hasOpen_28 : decode cX10_hasOpen 28 = .ok (.goto 4, 3) := by decide +kernel
theorem dX10_hasOpen_31 : decode cX10_hasOpen 31 = .ok (.iconst 0, 1) := by decide +kernel
theorem dX10_hasOpen_32 : decode cX10_hasOpen 32 = .ok (.istore_n 1, 1) := by decide +kernel
theorem dX10_hasOpen_33 : decode cX10_hasOpen 33 = .ok (.iinc 2 1, 3) := by decide +kernel
theorem dX10_hasOpen_36 : decode cX10_hasOpen 36 = .ok (.goto (-32), 3) := by decide +kernel
theorem dX10_hasOpen_39 : decode cX10_hasOpen 39 = .ok (.iload_n 1, 1) := by decide +kernel
theorem dX10_hasOpen_40 : decode cX10_hasOpen 40 = .ok (.ireturn, 1) := by decide +kernel
theorem dX10_letterOf_0 : decode cX10_letterOf 0 = .ok (.iload_n 0, 1) := by decide +kernel
theorem dX10_letterOf_1 : decode cX10_letterOf 1 = .ok (.bipush 108, 2) := by decide +kernel
theorem dX10_letterOf_3 : decode cX10_letterOf 3 = .ok (.if_icmp .ne 7, 3) := by decide +kernel
theorem dX10_letterOf_6 : decode cX10_letterOf 6 = .ok (.iconst 0, 1) := by decide +kernel
theorem dX10_letterOf_7 : decode cX10_letterOf 7 = .ok (.goto 44, 3) := by decide +kernel
theorem dX10_letterOf_10 : decode cX10_letterOf 10 = .ok (.iload_n 0, 1) := by decide +kernel
theorem dX10_letterOf_11 : decode cX10_letterOf 11 = .ok (.bipush 116, 2) := by decide +kernel
theorem dX10_letterOf_13 : decode cX10_letterOf 13 = .ok (.if_icmp .ne 7, 3) := by decide +kernel
theorem dX10_letterOf_16 : decode cX10_letterOf 16 = .ok (.iconst 1, 1) := by decide +kernel
theorem dX10_letterOf_17 : decode cX10_letterOf 17 = .ok (.goto 34, 3) := by decide +kernel
theorem dX10_letterOf_20 : decode cX10_letterOf 20 = .ok (.iload_n 0, 1) := by decide +kernel
theorem dX10_letterOf_21 : decode cX10_letterOf 21 = .ok (.bipush 119, 2) := by decide +kernel
theorem dX10_letterOf_23 : decode cX10_letterOf 23 = .ok (.if_icmp .ne 7, 3) := by decide +kernel
theorem dX10_letterOf_26 : decode cX10_letterOf 26 = .ok (.iconst 2, 1) := by decide +kernel
theorem dX10_letterOf_27 : decode cX10_letterOf 27 = .ok (.goto 24, 3) := by decide +kernel
theorem dX10_letterOf_30 : decode cX10_letterOf 30 = .ok (.iload_n 0, 1) := by decide +kernel
theorem dX10_letterOf_31 : decode cX10_letterOf 31 = .ok (.bipush 107, 2) := by decide +kernel
theorem dX10_letterOf_33 : decode cX10_letterOf 33 = .ok (.if_icmp .ne 7, 3) := by decide +kernel
theorem dX10_letterOf_36 : decode cX10_letterOf 36 = .ok (.iconst 3, 1) := by decide +kernel
theorem dX10_letterOf_37 : decode cX10_letterOf 37 = .ok (.goto 14, 3) := by decide +kernel
theorem dX10_letterOf_40 : decode cX10_letterOf 40 = .ok (.iload_n 0, 1) := by decide +kernel
theorem dX10_letterOf_41 : decode cX10_letterOf 41 = .ok (.bipush 109, 2) := by decide +kernel
theorem dX10_letterOf_43 : decode cX10_letterOf 43 = .ok (.if_icmp .ne 7, 3) := by decide +kernel
theorem dX10_letterOf_46 : decode cX10_letterOf 46 = .ok (.iconst 4, 1) := by decide +kernel
theorem dX10_letterOf_47 : decode cX10_letterOf 47 = .ok (.goto 4, 3) := by decide +kernel
theorem dX10_letterOf_50 : decode cX10_letterOf 50 = .ok (.iconst (-1), 1) := by decide +kernel
theorem dX10_letterOf_51 : decode cX10_letterOf 51 = .ok (.ireturn, 1) := by decide +kernel
theorem dX10_readsFactor_0 : decode cX10_readsFactor 0 = .ok (.aload_n 0, 1) := by decide +kernel
theorem dX10_readsFactor_1 : decode cX10_readsFactor 1 = .ok (.invokevirtual 198, 3) := by decide +kernel
theorem dX10_readsFactor_4 : decode cX10_readsFactor 4 = .ok (.bipush 33, 2) := by decide +kernel
theorem dX10_readsFactor_6 : decode cX10_readsFactor 6 = .ok (.if_icmp .eq 12, 3) := by decide +kernel
theorem dX10_readsFactor_9 : decode cX10_readsFactor 9 = .ok (.aload_n 0, 1) := by decide +kernel
theorem dX10_readsFactor_10 : decode cX10_readsFactor 10 = .ok (.invokevirtual 198, 3) := by decide +kernel
theorem dX10_readsFactor_13 : decode cX10_readsFactor 13 = .ok (.bipush 40, 2) := by decide +kernel
theorem dX10_readsFactor_15 : decode cX10_readsFactor 15 = .ok (.if_icmp .ne 49, 3) := by decide +kernel
theorem dX10_readsFactor_18 : decode cX10_readsFactor 18 = .ok (.aload_n 0, 1) := by decide +kernel
theorem dX10_readsFactor_19 : decode cX10_readsFactor 19 = .ok (.getfield 218, 3) := by decide +kernel
theorem dX10_readsFactor_22 : decode cX10_readsFactor 22 = .ok (.bipush 8, 2) := by decide +kernel
theorem dX10_readsFactor_24 : decode cX10_readsFactor 24 = .ok (.if_icmp .ne 9, 3) := by decide +kernel
theorem dX10_readsFactor_27 : decode cX10_readsFactor 27 = .ok (.aload_n 0, 1) := by decide +kernel
theorem dX10_readsFactor_28 : decode cX10_readsFactor 28 = .ok (.iconst 3, 1) := by decide +kernel
theorem dX10_readsFactor_29 : decode cX10_readsFactor 29 = .ok (.invokevirtual 202, 3) := by decide +kernel
theorem dX10_readsFactor_32 : decode cX10_readsFactor 32 = .ok (.ireturn, 1) := by decide +kernel
theorem dX10_readsFactor_33 : decode cX10_readsFactor 33 = .ok (.aload_n 0, 1) := by decide +kernel
theorem dX10_readsFactor_34 : decode cX10_readsFactor 34 = .ok (.aload_n 0, 1) := by decide +kernel
theorem dX10_readsFactor_35 : decode cX10_readsFactor 35 = .ok (.getfield 218, 3) := by decide +kernel
theorem dX10_readsFactor_38 : decode cX10_readsFactor 38 = .ok (.iconst 1, 1) := by decide +kernel
theorem dX10_readsFactor_39 : decode cX10_readsFactor 39 = .ok (.iadd, 1) := by decide +kernel
theorem dX10_readsFactor_40 : decode cX10_readsFactor 40 = .ok (.putfield 218, 3) := by decide +kernel
theorem dX10_readsFactor_43 : decode cX10_readsFactor 43 = .ok (.aload_n 0, 1) := by decide +kernel
theorem dX10_readsFactor_44 : decode cX10_readsFactor 44 = .ok (.aload_n 0, 1) := by decide +kernel
theorem dX10_readsFactor_45 : decode cX10_readsFactor 45 = .ok (.invokevirtual 198, 3) := by decide +kernel
theorem dX10_readsFactor_48 : decode cX10_readsFactor 48 = .ok (.invokevirtual 221, 3) := by decide +kernel
theorem dX10_readsFactor_51 : decode cX10_readsFactor 51 = .ok (.aload_n 0, 1) := by decide +kernel
theorem dX10_readsFactor_52 : decode cX10_readsFactor 52 = .ok (.aload_n 0, 1) := by decide +kernel
theorem dX10_readsFactor_53 : decode cX10_readsFactor 53 = .ok (.getfield 186, 3) := by decide +kernel
theorem dX10_readsFactor_56 : decode cX10_readsFactor 56 = .ok (.iconst 1, 1) := by decide +kernel
theorem dX10_readsFactor_57 : decode cX10_readsFactor 57 = .ok (.iadd, 1) := by decide +kernel
theorem dX10_readsFactor_58 : decode cX10_readsFactor 58 = .ok (.putfield 186, 3) := by decide +kernel
theorem dX10_readsFactor_61 : decode cX10_readsFactor 61 = .ok (.goto (-61), 3) := by decide +kernel
theorem dX10_readsFactor_64 : decode cX10_readsFactor 64 = .ok (.aload_n 0, 1) := by decide +kernel
theorem dX10_readsFactor_65 : decode cX10_readsFactor 65 = .ok (.invokevirtual 198, 3) := by decide +kernel
theorem dX10_readsFactor_68 : decode cX10_readsFactor 68 = .ok (.invokestatic 224, 3) := by decide +kernel
theorem dX10_readsFactor_71 : decode cX10_readsFactor 71 = .ok (.istore_n 1, 1) := by decide +kernel
theorem dX10_readsFactor_72 : decode cX10_readsFactor 72 = .ok (.iload_n 1, 1) := by decide +kernel
theorem dX10_readsFactor_73 : decode cX10_readsFactor 73 = .ok (.iconst (-1), 1) := by decide +kernel
theorem dX10_readsFactor_74 : decode cX10_readsFactor 74 = .ok (.if_icmp .ne 9, 3) := by decide +kernel
theorem dX10_readsFactor_77 : decode cX10_readsFactor 77 = .ok (.aload_n 0, 1) := by decide +kernel
theorem dX10_readsFactor_78 : decode cX10_readsFactor 78 = .ok (.iconst 1, 1) := by decide +kernel
theorem dX10_readsFactor_79 : decode cX10_readsFactor 79 = .ok (.invokevirtual 202, 3) := by decide +kernel
theorem dX10_readsFactor_82 : decode cX10_readsFactor 82 = .ok (.ireturn, 1) := by decide +kernel
theorem dX10_readsFactor_83 : decode cX10_readsFactor 83 = .ok (.aload_n 0, 1) := by decide +kernel
theorem dX10_readsFactor_84 : decode cX10_readsFactor 84 = .ok (.aload_n 0, 1) := by decide +kernel
theorem dX10_readsFactor_85 : decode cX10_readsFactor 85 = .ok (.getfield 186, 3) := by decide +kernel
theorem dX10_readsFactor_88 : decode cX10_readsFactor 88 = .ok (.iconst 1, 1) := by decide +kernel
theorem dX10_readsFactor_89 : decode cX10_readsFactor 89 = .ok (.iadd, 1) := by decide +kernel
theorem dX10_readsFactor_90 : decode cX10_readsFactor 90 = .ok (.putfield 186, 3) := by decide +kernel
theorem dX10_readsFactor_93 : decode cX10_readsFactor 93 = .ok (.aload_n 0, 1) := by decide +kernel
theorem dX10_readsFactor_94 : decode cX10_readsFactor 94 = .ok (.invokevirtual 198, 3) := by decide +kernel
theorem dX10_readsFactor_97 : decode cX10_readsFactor 97 = .ok (.istore_n 2, 1) := by decide +kernel
theorem dX10_readsFactor_98 : decode cX10_readsFactor 98 = .ok (.iload_n 2, 1) := by decide +kernel
theorem dX10_readsFactor_99 : decode cX10_readsFactor 99 = .ok (.bipush 60, 2) := by decide +kernel
theorem dX10_readsFactor_101 : decode cX10_readsFactor 101 = .ok (.if_icmp .eq 21, 3) := by decide +kernel
theorem dX10_readsFactor_104 : decode cX10_readsFactor 104 = .ok (.iload_n 2, 1) := by decide +kernel
theorem dX10_readsFactor_105 : decode cX10_readsFactor 105 = .ok (.bipush 61, 2) := by decide +kernel
theorem dX10_readsFactor_107 : decode cX10_readsFactor 107 = .ok (.if_icmp .eq 15, 3) := by decide +kernel
theorem dX10_readsFactor_110 : decode cX10_readsFactor 110 = .ok (.iload_n 2, 1) := by decide +kernel
theorem dX10_readsFactor_111 : decode cX10_readsFactor 111 = .ok (.bipush 62, 2) := by decide +kernel
theorem dX10_readsFactor_113 : decode cX10_readsFactor 113 = .ok (.if_icmp .eq 9, 3) := by decide +kernel
theorem dX10_readsFactor_116 : decode cX10_readsFactor 116 = .ok (.aload_n 0, 1) := by decide +kernel
theorem dX10_readsFactor_117 : decode cX10_readsFactor 117 = .ok (.iconst 1, 1) := by decide +kernel
theorem dX10_readsFactor_118 : decode cX10_readsFactor 118 = .ok (.invokevirtual 202, 3) := by decide +kernel
theorem dX10_readsFactor_121 : decode cX10_readsFactor 121 = .ok (.ireturn, 1) := by decide +kernel
theorem dX10_readsFactor_122 : decode cX10_readsFactor 122 = .ok (.aload_n 0, 1) := by decide +kernel
theorem dX10_readsFactor_123 : decode cX10_readsFactor 123 = .ok (.aload_n 0, 1) := by decide +kernel
theorem dX10_readsFactor_124 : decode cX10_readsFactor 124 = .ok (.getfield 186, 3) := by decide +kernel
theorem dX10_readsFactor_127 : decode cX10_readsFactor 127 = .ok (.iconst 1, 1) := by decide +kernel
theorem dX10_readsFactor_128 : decode cX10_readsFactor 128 = .ok (.iadd, 1) := by decide +kernel
theorem dX10_readsFactor_129 : decode cX10_readsFactor 129 = .ok (.putfield 186, 3) := by decide +kernel
theorem dX10_readsFactor_132 : decode cX10_readsFactor 132 = .ok (.aload_n 0, 1) := by decide +kernel
theorem dX10_readsFactor_133 : decode cX10_readsFactor 133 = .ok (.invokevirtual 198, 3) := by decide +kernel
theorem dX10_readsFactor_136 : decode cX10_readsFactor 136 = .ok (.bipush 45, 2) := by decide +kernel
theorem dX10_readsFactor_138 : decode cX10_readsFactor 138 = .ok (.if_icmp .ne 7, 3) := by decide +kernel
theorem dX10_readsFactor_141 : decode cX10_readsFactor 141 = .ok (.iconst 1, 1) := by decide +kernel
theorem dX10_readsFactor_142 : decode cX10_readsFactor 142 = .ok (.goto 4, 3) := by decide +kernel
theorem dX10_readsFactor_145 : decode cX10_readsFactor 145 = .ok (.iconst 0, 1) := by decide +kernel
theorem dX10_readsFactor_146 : decode cX10_readsFactor 146 = .ok (.istore_n 3, 1) := by decide +kernel
theorem dX10_readsFactor_147 : decode cX10_readsFactor 147 = .ok (.iload_n 3, 1) := by decide +kernel
theorem dX10_readsFactor_148 : decode cX10_readsFactor 148 = .ok (.ifCond .eq 13, 3) := by decide +kernel
theorem dX10_readsFactor_151 : decode cX10_readsFactor 151 = .ok (.aload_n 0, 1) := by decide +kernel
theorem dX10_readsFactor_152 : decode cX10_readsFactor 152 = .ok (.aload_n 0, 1) := by decide +kernel
theorem dX10_readsFactor_153 : decode cX10_readsFactor 153 = .ok (.getfield 186, 3) := by decide +kernel
theorem dX10_readsFactor_156 : decode cX10_readsFactor 156 = .ok (.iconst 1, 1) := by decide +kernel
theorem dX10_readsFactor_157 : decode cX10_readsFactor 157 = .ok (.iadd, 1) := by decide +kernel
theorem dX10_readsFactor_158 : decode cX10_readsFactor 158 = .ok (.putfield 186, 3) := by decide +kernel
theorem dX10_readsFactor_161 : decode cX10_readsFactor 161 = .ok (.aload_n 0, 1) := by decide +kernel
theorem dX10_readsFactor_162 : decode cX10_readsFactor 162 = .ok (.invokevirtual 228, 3) := by decide +kernel
theorem dX10_readsFactor_165 : decode cX10_readsFactor 165 = .ok (.ifCond .ne 5, 3) := by decide +kernel
theorem dX10_readsFactor_168 : decode cX10_readsFactor 168 = .ok (.iconst 0, 1) := by decide +kernel
theorem dX10_readsFactor_169 : decode cX10_readsFactor 169 = .ok (.ireturn, 1) := by decide +kernel
theorem dX10_readsFactor_170 : decode cX10_readsFactor 170 = .ok (.aload_n 0, 1) := by decide +kernel
theorem dX10_readsFactor_171 : decode cX10_readsFactor 171 = .ok (.iconst 0, 1) := by decide +kernel
theorem dX10_readsFactor_172 : decode cX10_readsFactor 172 = .ok (.iload_n 1, 1) := by decide +kernel
theorem dX10_readsFactor_173 : decode cX10_readsFactor 173 = .ok (.iload_n 2, 1) := by decide +kernel
theorem dX10_readsFactor_174 : decode cX10_readsFactor 174 = .ok (.iload_n 3, 1) := by decide +kernel
theorem dX10_readsFactor_175 : decode cX10_readsFactor 175 = .ok (.ifCond .eq 11, 3) := by decide +kernel
theorem dX10_readsFactor_178 : decode cX10_readsFactor 178 = .ok (.aload_n 0, 1) := by decide +kernel
theorem dX10_readsFactor_179 : decode cX10_readsFactor 179 = .ok (.getfield 195, 3) := by decide +kernel
theorem dX10_readsFactor_182 : decode cX10_readsFactor 182 = .ok (.ineg, 1) := by decide +kernel
theorem dX10_readsFactor_183 : decode cX10_readsFactor 183 = .ok (.goto 7, 3) := by decide +kernel
theorem dX10_readsFactor_186 : decode cX10_readsFactor 186 = .ok (.aload_n 0, 1) := by decide +kernel
theorem dX10_readsFactor_187 : decode cX10_readsFactor 187 = .ok (.getfield 195, 3) := by decide +kernel
theorem dX10_readsFactor_190 : decode cX10_readsFactor 190 = .ok (.invokevirtual 208, 3) := by decide +kernel
theorem dX10_readsFactor_193 : decode cX10_readsFactor 193 = .ok (.aload_n 0, 1) := by decide +kernel
theorem dX10_readsFactor_194 : decode cX10_readsFactor 194 = .ok (.invokevirtual 232, 3) := by decide +kernel
theorem dX10_readsFactor_197 : decode cX10_readsFactor 197 = .ok (.iconst 1, 1) := by decide +kernel
theorem dX10_readsFactor_198 : decode cX10_readsFactor 198 = .ok (.ireturn, 1) := by decide +kernel
theorem dX10_readsTest_0 : decode cX10_readsTest 0 = .ok (.aload_n 0, 1) := by decide +kernel
theorem dX10_readsTest_1 : decode cX10_readsTest 1 = .ok (.iconst 0, 1) := by decide +kernel
theorem dX10_readsTest_2 : decode cX10_readsTest 2 = .ok (.putfield 205, 3) := by decide +kernel
theorem dX10_readsTest_5 : decode cX10_readsTest 5 = .ok (.aload_n 0, 1) := by decide +kernel
theorem dX10_readsTest_6 : decode cX10_readsTest 6 = .ok (.iconst 0, 1) := by decide +kernel
theorem dX10_readsTest_7 : decode cX10_readsTest 7 = .ok (.putfield 218, 3) := by decide +kernel
theorem dX10_readsTest_10 : decode cX10_readsTest 10 = .ok (.iconst 1, 1) := by decide +kernel
theorem dX10_readsTest_11 : decode cX10_readsTest 11 = .ok (.istore_n 1, 1) := by decide +kernel
theorem dX10_readsTest_12 : decode cX10_readsTest 12 = .ok (.iload_n 1, 1) := by decide +kernel
theorem dX10_readsTest_13 : decode cX10_readsTest 13 = .ok (.ifCond .eq 167, 3) := by decide +kernel
theorem dX10_readsTest_16 : decode cX10_readsTest 16 = .ok (.aload_n 0, 1) := by decide +kernel
theorem dX10_readsTest_17 : decode cX10_readsTest 17 = .ok (.invokevirtual 235, 3) := by decide +kernel
theorem dX10_readsTest_20 : decode cX10_readsTest 20 = .ok (.ifCond .ne 5, 3) := by decide +kernel
theorem dX10_readsTest_23 : decode cX10_readsTest 23 = .ok (.iconst 0, 1) := by decide +kernel
theorem dX10_readsTest_24 : decode cX10_readsTest 24 = .ok (.ireturn, 1) := by decide +kernel
theorem dX10_readsTest_25 : decode cX10_readsTest 25 = .ok (.aload_n 0, 1) := by decide +kernel
theorem dX10_readsTest_26 : decode cX10_readsTest 26 = .ok (.invokevirtual 198, 3) := by decide +kernel
theorem dX10_readsTest_29 : decode cX10_readsTest 29 = .ok (.bipush 41, 2) := by decide +kernel
theorem dX10_readsTest_31 : decode cX10_readsTest 31 = .ok (.if_icmp .ne 63, 3) := by decide +kernel
theorem dX10_readsTest_34 : decode cX10_readsTest 34 = .ok (.aload_n 0, 1) := by decide +kernel
theorem dX10_readsTest_35 : decode cX10_readsTest 35 = .ok (.invokevirtual 238, 3) := by decide +kernel
theorem dX10_readsTest_38 : decode cX10_readsTest 38 = .ok (.ifCond .eq 56, 3) := by decide +kernel
theorem dX10_readsTest_41 : decode cX10_readsTest 41 = .ok (.aload_n 0, 1) := by decide +kernel
theorem dX10_readsTest_42 : decode cX10_readsTest 42 = .ok (.bipush 40, 2) := by decide +kernel
theorem dX10_readsTest_44 : decode cX10_readsTest 44 = .ok (.invokevirtual 212, 3) := by decide +kernel
theorem dX10_readsTest_47 : decode cX10_readsTest 47 = .ok (.ifCond .ne 10, 3) := by decide +kernel
theorem dX10_readsTest_50 : decode cX10_readsTest 50 = .ok (.aload_n 0, 1) := by decide +kernel
theorem dX10_readsTest_51 : decode cX10_readsTest 51 = .ok (.invokevirtual 215, 3) := by decide +kernel
theorem dX10_readsTest_54 : decode cX10_readsTest 54 = .ok (.goto (-13), 3) := by decide +kernel
theorem dX10_readsTest_57 : decode cX10_readsTest 57 = .ok (.aload_n 0, 1) := by decide +kernel
theorem dX10_readsTest_58 : decode cX10_readsTest 58 = .ok (.aload_n 0, 1) := by decide +kernel
theorem dX10_readsTest_59 : decode cX10_readsTest 59 = .ok (.getfield 205, 3) := by decide +kernel
theorem dX10_readsTest_62 : decode cX10_readsTest 62 = .ok (.iconst 1, 1) := by decide +kernel
theorem dX10_readsTest_63 : decode cX10_readsTest 63 = .ok (.isub, 1) := by decide +kernel
theorem dX10_readsTest_64 : decode cX10_readsTest 64 = .ok (.putfield 205, 3) := by decide +kernel
theorem dX10_readsTest_67 : decode cX10_readsTest 67 = .ok (.aload_n 0, 1) := by decide +kernel
theorem dX10_readsTest_68 : decode cX10_readsTest 68 = .ok (.aload_n 0, 1) := by decide +kernel
theorem dX10_readsTest_69 : decode cX10_readsTest 69 = .ok (.getfield 218, 3) := by decide +kernel
theorem dX10_readsTest_72 : decode cX10_readsTest 72 = .ok (.iconst 1, 1) := by decide +kernel
theorem dX10_readsTest_73 : decode cX10_readsTest 73 = .ok (.isub, 1) := by decide +kernel
theorem dX10_readsTest_74 : decode cX10_readsTest 74 = .ok (.putfield 218, 3) := by decide +kernel
theorem dX10_readsTest_77 : decode cX10_readsTest 77 = .ok (.aload_n 0, 1) := by decide +kernel
theorem dX10_readsTest_78 : decode cX10_readsTest 78 = .ok (.aload_n 0, 1) := by decide +kernel
theorem dX10_readsTest_79 : decode cX10_readsTest 79 = .ok (.getfield 186, 3) := by decide +kernel
theorem dX10_readsTest_82 : decode cX10_readsTest 82 = .ok (.iconst 1, 1) := by decide +kernel
theorem dX10_readsTest_83 : decode cX10_readsTest 83 = .ok (.iadd, 1) := by decide +kernel
theorem dX10_readsTest_84 : decode cX10_readsTest 84 = .ok (.putfield 186, 3) := by decide +kernel
theorem dX10_readsTest_87 : decode cX10_readsTest 87 = .ok (.aload_n 0, 1) := by decide +kernel
theorem dX10_readsTest_88 : decode cX10_readsTest 88 = .ok (.invokevirtual 232, 3) := by decide +kernel
theorem dX10_readsTest_91 : decode cX10_readsTest 91 = .ok (.goto (-66), 3) := by decide +kernel
theorem dX10_readsTest_94 : decode cX10_readsTest 94 = .ok (.aload_n 0, 1) := by decide +kernel
theorem dX10_readsTest_95 : decode cX10_readsTest 95 = .ok (.invokevirtual 198, 3) := by decide +kernel
theorem dX10_readsTest_98 : decode cX10_readsTest 98 = .ok (.bipush 38, 2) := by decide +kernel
theorem dX10_readsTest_100 : decode cX10_readsTest 100 = .ok (.if_icmp .eq 12, 3) := by decide +kernel
theorem dX10_readsTest_103 : decode cX10_readsTest 103 = .ok (.aload_n 0, 1) := by decide +kernel
theorem dX10_readsTest_104 : decode cX10_readsTest 104 = .ok (.invokevirtual 198, 3) := by decide +kernel
theorem dX10_readsTest_107 : decode cX10_readsTest 107 = .ok (.bipush 124, 2) := by decide +kernel
theorem dX10_readsTest_109 : decode cX10_readsTest 109 = .ok (.if_icmp .ne 7, 3) := by decide +kernel
theorem dX10_readsTest_112 : decode cX10_readsTest 112 = .ok (.iconst 1, 1) := by decide +kernel
theorem dX10_readsTest_113 : decode cX10_readsTest 113 = .ok (.goto 4, 3) := by decide +kernel
theorem dX10_readsTest_116 : decode cX10_readsTest 116 = .ok (.iconst 0, 1) := by decide +kernel
theorem dX10_readsTest_117 : decode cX10_readsTest 117 = .ok (.istore_n 1, 1) := by decide +kernel
theorem dX10_readsTest_118 : decode cX10_readsTest 118 = .ok (.iload_n 1, 1) := by decide +kernel
theorem dX10_readsTest_119 : decode cX10_readsTest 119 = .ok (.ifCond .ne 6, 3) := by decide +kernel
theorem dX10_readsTest_122 : decode cX10_readsTest 122 = .ok (.goto (-110), 3) := by decide +kernel
theorem dX10_readsTest_125 : decode cX10_readsTest 125 = .ok (.aload_n 0, 1) := by decide +kernel
theorem dX10_readsTest_126 : decode cX10_readsTest 126 = .ok (.bipush 38, 2) := by decide +kernel
theorem dX10_readsTest_128 : decode cX10_readsTest 128 = .ok (.invokevirtual 212, 3) := by decide +kernel
theorem dX10_readsTest_131 : decode cX10_readsTest 131 = .ok (.ifCond .ne 21, 3) := by decide +kernel
theorem dX10_readsTest_134 : decode cX10_readsTest 134 = .ok (.aload_n 0, 1) := by decide +kernel
theorem dX10_readsTest_135 : decode cX10_readsTest 135 = .ok (.invokevirtual 198, 3) := by decide +kernel
theorem dX10_readsTest_138 : decode cX10_readsTest 138 = .ok (.bipush 124, 2) := by decide +kernel
theorem dX10_readsTest_140 : decode cX10_readsTest 140 = .ok (.if_icmp .ne 19, 3) := by decide +kernel
theorem dX10_readsTest_143 : decode cX10_readsTest 143 = .ok (.aload_n 0, 1) := by decide +kernel
theorem dX10_readsTest_144 : decode cX10_readsTest 144 = .ok (.bipush 124, 2) := by decide +kernel
theorem dX10_readsTest_146 : decode cX10_readsTest 146 = .ok (.invokevirtual 212, 3) := by decide +kernel
theorem dX10_readsTest_149 : decode cX10_readsTest 149 = .ok (.ifCond .eq 10, 3) := by decide +kernel
theorem dX10_readsTest_152 : decode cX10_readsTest 152 = .ok (.aload_n 0, 1) := by decide +kernel
theorem dX10_readsTest_153 : decode cX10_readsTest 153 = .ok (.invokevirtual 215, 3) := by decide +kernel
theorem dX10_readsTest_156 : decode cX10_readsTest 156 = .ok (.goto (-31), 3) := by decide +kernel
theorem dX10_readsTest_159 : decode cX10_readsTest 159 = .ok (.aload_n 0, 1) := by decide +kernel
theorem dX10_readsTest_160 : decode cX10_readsTest 160 = .ok (.aload_n 0, 1) := by decide +kernel
theorem dX10_readsTest_161 : decode cX10_readsTest 161 = .ok (.invokevirtual 198, 3) := by decide +kernel
theorem dX10_readsTest_164 : decode cX10_readsTest 164 = .ok (.invokevirtual 221, 3) := by decide +kernel
theorem dX10_readsTest_167 : decode cX10_readsTest 167 = .ok (.aload_n 0, 1) := by decide +kernel
theorem dX10_readsTest_168 : decode cX10_readsTest 168 = .ok (.aload_n 0, 1) := by decide +kernel
theorem dX10_readsTest_169 : decode cX10_readsTest 169 = .ok (.getfield 186, 3) := by decide +kernel
theorem dX10_readsTest_172 : decode cX10_readsTest 172 = .ok (.iconst 1, 1) := by decide +kernel
theorem dX10_readsTest_173 : decode cX10_readsTest 173 = .ok (.iadd, 1) := by decide +kernel
theorem dX10_readsTest_174 : decode cX10_readsTest 174 = .ok (.putfield 186, 3) := by decide +kernel
theorem dX10_readsTest_177 : decode cX10_readsTest 177 = .ok (.goto (-165), 3) := by decide +kernel
theorem dX10_readsTest_180 : decode cX10_readsTest 180 = .ok (.aload_n 0, 1) := by decide +kernel
theorem dX10_readsTest_181 : decode cX10_readsTest 181 = .ok (.invokevirtual 238, 3) := by decide +kernel
theorem dX10_readsTest_184 : decode cX10_readsTest 184 = .ok (.ifCond .eq 9, 3) := by decide +kernel
theorem dX10_readsTest_187 : decode cX10_readsTest 187 = .ok (.aload_n 0, 1) := by decide +kernel
theorem dX10_readsTest_188 : decode cX10_readsTest 188 = .ok (.iconst 1, 1) := by decide +kernel
theorem dX10_readsTest_189 : decode cX10_readsTest 189 = .ok (.invokevirtual 202, 3) := by decide +kernel
theorem dX10_readsTest_192 : decode cX10_readsTest 192 = .ok (.ireturn, 1) := by decide +kernel
theorem dX10_readsTest_193 : decode cX10_readsTest 193 = .ok (.aload_n 0, 1) := by decide +kernel
theorem dX10_readsTest_194 : decode cX10_readsTest 194 = .ok (.getfield 205, 3) := by decide +kernel
theorem dX10_readsTest_197 : decode cX10_readsTest 197 = .ok (.ifCond .le 10, 3) := by decide +kernel
theorem dX10_readsTest_200 : decode cX10_readsTest 200 = .ok (.aload_n 0, 1) := by decide +kernel
theorem dX10_readsTest_201 : decode cX10_readsTest 201 = .ok (.invokevirtual 215, 3) := by decide +kernel
theorem dX10_readsTest_204 : decode cX10_readsTest 204 = .ok (.goto (-11), 3) := by decide +kernel
theorem dX10_readsTest_207 : decode cX10_readsTest 207 = .ok (.iconst 1, 1) := by decide +kernel
theorem dX10_readsTest_208 : decode cX10_readsTest 208 = .ok (.ireturn, 1) := by decide +kernel
theorem dX10_readsClause_0 : decode cX10_readsClause 0 = .ok (.aload_n 0, 1) := by decide +kernel
theorem dX10_readsClause_1 : decode cX10_readsClause 1 = .ok (.invokevirtual 198, 3) := by decide +kernel
theorem dX10_readsClause_4 : decode cX10_readsClause 4 = .ok (.istore_n 1, 1) := by decide +kernel
theorem dX10_readsClause_5 : decode cX10_readsClause 5 = .ok (.iload_n 1, 1) := by decide +kernel
theorem dX10_readsClause_6 : decode cX10_readsClause 6 = .ok (.bipush 87, 2) := by decide +kernel
theorem dX10_readsClause_8 : decode cX10_readsClause 8 = .ok (.if_icmp .eq 21, 3) := by decide +kernel
theorem dX10_readsClause_11 : decode cX10_readsClause 11 = .ok (.iload_n 1, 1) := by decide +kernel
theorem dX10_readsClause_12 : decode cX10_readsClause 12 = .ok (.bipush 88, 2) := by decide +kernel
theorem dX10_readsClause_14 : decode cX10_readsClause 14 = .ok (.if_icmp .eq 15, 3) := by decide +kernel
theorem dX10_readsClause_17 : decode cX10_readsClause 17 = .ok (.iload_n 1, 1) := by decide +kernel
theorem dX10_readsClause_18 : decode cX10_readsClause 18 = .ok (.bipush 80, 2) := by decide +kernel
theorem dX10_readsClause_20 : decode cX10_readsClause 20 = .ok (.if_icmp .eq 9, 3) := by decide +kernel
theorem dX10_readsClause_23 : decode cX10_readsClause 23 = .ok (.aload_n 0, 1) := by decide +kernel
theorem dX10_readsClause_24 : decode cX10_readsClause 24 = .ok (.iconst 1, 1) := by decide +kernel
theorem dX10_readsClause_25 : decode cX10_readsClause 25 = .ok (.invokevirtual 202, 3) := by decide +kernel
theorem dX10_readsClause_28 : decode cX10_readsClause 28 = .ok (.ireturn, 1) := by decide +kernel
theorem dX10_readsClause_29 : decode cX10_readsClause 29 = .ok (.aload_n 0, 1) := by decide +kernel
theorem dX10_readsClause_30 : decode cX10_readsClause 30 = .ok (.getfield 66, 3) := by decide +kernel
theorem dX10_readsClause_33 : decode cX10_readsClause 33 = .ok (.iconst 4, 1) := by decide +kernel
theorem dX10_readsClause_34 : decode cX10_readsClause 34 = .ok (.iaload, 1) := by decide +kernel
theorem dX10_readsClause_35 : decode cX10_readsClause 35 = .ok (.bipush 12, 2) := by decide +kernel
theorem dX10_readsClause_37 : decode cX10_readsClause 37 = .ok (.if_icmp .ne 9, 3) := by decide +kernel
theorem dX10_readsClause_40 : decode cX10_readsClause 40 = .ok (.aload_n 0, 1) := by decide +kernel
theorem dX10_readsClause_41 : decode cX10_readsClause 41 = .ok (.iconst 2, 1) := by decide +kernel
theorem dX10_readsClause_42 : decode cX10_readsClause 42 = .ok (.invokevirtual 202, 3) := by decide +kernel
theorem dX10_readsClause_45 : decode cX10_readsClause 45 = .ok (.ireturn, 1) := by decide +kernel
theorem dX10_readsClause_46 : decode cX10_readsClause 46 = .ok (.aload_n 0, 1) := by decide +kernel
theorem dX10_readsClause_47 : decode cX10_readsClause 47 = .ok (.aload_n 0, 1) := by decide +kernel
theorem dX10_readsClause_48 : decode cX10_readsClause 48 = .ok (.getfield 186, 3) := by decide +kernel
theorem dX10_readsClause_51 : decode cX10_readsClause 51 = .ok (.iconst 1, 1) := by decide +kernel
theorem dX10_readsClause_52 : decode cX10_readsClause 52 = .ok (.iadd, 1) := by decide +kernel
theorem dX10_readsClause_53 : decode cX10_readsClause 53 = .ok (.putfield 186, 3) := by decide +kernel
theorem dX10_readsClause_56 : decode cX10_readsClause 56 = .ok (.aload_n 0, 1) := by decide +kernel
theorem dX10_readsClause_57 : decode cX10_readsClause 57 = .ok (.iconst 0, 1) := by decide +kernel
theorem dX10_readsClause_58 : decode cX10_readsClause 58 = .ok (.putfield 195, 3) := by decide +kernel
theorem dX10_readsClause_61 : decode cX10_readsClause 61 = .ok (.iload_n 1, 1) := by decide +kernel
theorem dX10_readsClause_62 : decode cX10_readsClause 62 = .ok (.bipush 88, 2) := by decide +kernel
theorem dX10_readsClause_64 : decode cX10_readsClause 64 = .ok (.if_icmp .eq 12, 3) := by decide +kernel
theorem dX10_readsClause_67 : decode cX10_readsClause 67 = .ok (.aload_n 0, 1) := by decide +kernel
theorem dX10_readsClause_68 : decode cX10_readsClause 68 = .ok (.invokevirtual 228, 3) := by decide +kernel
theorem dX10_readsClause_71 : decode cX10_readsClause 71 = .ok (.ifCond .ne 5, 3) := by decide +kernel
theorem dX10_readsClause_74 : decode cX10_readsClause 74 = .ok (.iconst 0, 1) := by decide +kernel
theorem dX10_readsClause_75 : decode cX10_readsClause 75 = .ok (.ireturn, 1) := by decide +kernel
theorem dX10_readsClause_76 : decode cX10_readsClause 76 = .ok (.aload_n 0, 1) := by decide +kernel
theorem dX10_readsClause_77 : decode cX10_readsClause 77 = .ok (.getfield 195, 3) := by decide +kernel
theorem dX10_readsClause_80 : decode cX10_readsClause 80 = .ok (.istore_n 2, 1) := by decide +kernel
theorem dX10_readsClause_81 : decode cX10_readsClause 81 = .ok (.aload_n 0, 1) := by decide +kernel
theorem dX10_readsClause_82 : decode cX10_readsClause 82 = .ok (.getfield 69, 3) := by decide +kernel
theorem dX10_readsClause_85 : decode cX10_readsClause 85 = .ok (.iconst 4, 1) := by decide +kernel
theorem dX10_readsClause_86 : decode cX10_readsClause 86 = .ok (.iaload, 1) := by decide +kernel
theorem dX10_readsClause_87 : decode cX10_readsClause 87 = .ok (.istore_n 3, 1) := by decide +kernel
theorem dX10_readsClause_88 : decode cX10_readsClause 88 = .ok (.iload_n 1, 1) := by decide +kernel
theorem dX10_readsClause_89 : decode cX10_readsClause 89 = .ok (.bipush 80, 2) := by decide +kernel
theorem dX10_readsClause_91 : decode cX10_readsClause 91 = .ok (.if_icmp .eq 37, 3) := by decide +kernel
theorem dX10_readsClause_94 : decode cX10_readsClause 94 = .ok (.aload_n 0, 1) := by decide +kernel
theorem dX10_readsClause_95 : decode cX10_readsClause 95 = .ok (.invokevirtual 198, 3) := by decide +kernel
theorem dX10_readsClause_98 : decode cX10_readsClause 98 = .ok (.bipush 58, 2) := by decide +kernel
theorem dX10_readsClause_100 : decode cX10_readsClause 100 = .ok (.if_icmp .eq 9, 3) := by decide +kernel
theorem dX10_readsClause_103 : decode cX10_readsClause 103 = .ok (.aload_n 0, 1) := by decide +kernel
theorem dX10_readsClause_104 : decode cX10_readsClause 104 = .ok (.iconst 1, 1) := by decide +kernel
theorem dX10_readsClause_105 : decode cX10_readsClause 105 = .ok (.invokevirtual 202, 3) := by decide +kernel
theorem dX10_readsClause_108 : decode cX10_readsClause 108 = .ok (.ireturn, 1) := by decide +kernel
theorem dX10_readsClause_109 : decode cX10_readsClause 109 = .ok (.aload_n 0, 1) := by decide +kernel
theorem dX10_readsClause_110 : decode cX10_readsClause 110 = .ok (.aload_n 0, 1) := by decide +kernel
theorem dX10_readsClause_111 : decode cX10_readsClause 111 = .ok (.getfield 186, 3) := by decide +kernel
theorem dX10_readsClause_114 : decode cX10_readsClause 114 = .ok (.iconst 1, 1) := by decide +kernel
theorem dX10_readsClause_115 : decode cX10_readsClause 115 = .ok (.iadd, 1) := by decide +kernel
theorem dX10_readsClause_116 : decode cX10_readsClause 116 = .ok (.putfield 186, 3) := by decide +kernel
theorem dX10_readsClause_119 : decode cX10_readsClause 119 = .ok (.aload_n 0, 1) := by decide +kernel
theorem dX10_readsClause_120 : decode cX10_readsClause 120 = .ok (.invokevirtual 241, 3) := by decide +kernel
theorem dX10_readsClause_123 : decode cX10_readsClause 123 = .ok (.ifCond .ne 12, 3) := by decide +kernel
theorem dX10_readsClause_126 : decode cX10_readsClause 126 = .ok (.iconst 0, 1) := by decide +kernel
theorem dX10_readsClause_127 : decode cX10_readsClause 127 = .ok (.ireturn, 1) := by decide +kernel
theorem dX10_readsClause_128 : decode cX10_readsClause 128 = .ok (.aload_n 0, 1) := by decide +kernel
theorem dX10_readsClause_129 : decode cX10_readsClause 129 = .ok (.getfield 72, 3) := by decide +kernel
theorem dX10_readsClause_132 : decode cX10_readsClause 132 = .ok (.iconst 4, 1) := by decide +kernel
theorem dX10_readsClause_133 : decode cX10_readsClause 133 = .ok (.iload_n 2, 1) := by decide +kernel
theorem dX10_readsClause_134 : decode cX10_readsClause 134 = .ok (.iastore, 1) := by decide +kernel
theorem dX10_readsClause_135 : decode cX10_readsClause 135 = .ok (.bipush 48, 2) := by decide +kernel
theorem dX10_readsClause_137 : decode cX10_readsClause 137 = .ok (.aload_n 0, 1) := by decide +kernel
theorem dX10_readsClause_138 : decode cX10_readsClause 138 = .ok (.getfield 66, 3) := by decide +kernel
theorem dX10_readsClause_141 : decode cX10_readsClause 141 = .ok (.iconst 4, 1) := by decide +kernel
theorem dX10_readsClause_142 : decode cX10_readsClause 142 = .ok (.iaload, 1) := by decide +kernel
theorem dX10_readsClause_143 : decode cX10_readsClause 143 = .ok (.iadd, 1) := by decide +kernel
theorem dX10_readsClause_144 : decode cX10_readsClause 144 = .ok (.istore 4, 2) := by decide +kernel
theorem dX10_readsClause_146 : decode cX10_readsClause 146 = .ok (.aload_n 0, 1) := by decide +kernel
theorem dX10_readsClause_147 : decode cX10_readsClause 147 = .ok (.getfield 75, 3) := by decide +kernel
theorem dX10_readsClause_150 : decode cX10_readsClause 150 = .ok (.iload 4, 2) := by decide +kernel
theorem dX10_readsClause_152 : decode cX10_readsClause 152 = .ok (.iload_n 1, 1) := by decide +kernel
theorem dX10_readsClause_153 : decode cX10_readsClause 153 = .ok (.iastore, 1) := by decide +kernel
theorem dX10_readsClause_154 : decode cX10_readsClause 154 = .ok (.aload_n 0, 1) := by decide +kernel
theorem dX10_readsClause_155 : decode cX10_readsClause 155 = .ok (.getfield 78, 3) := by decide +kernel
theorem dX10_readsClause_158 : decode cX10_readsClause 158 = .ok (.iload 4, 2) := by decide +kernel
theorem dX10_readsClause_160 : decode cX10_readsClause 160 = .ok (.iload_n 2, 1) := by decide +kernel
theorem dX10_readsClause_161 : decode cX10_readsClause 161 = .ok (.iastore, 1) := by decide +kernel
theorem dX10_readsClause_162 : decode cX10_readsClause 162 = .ok (.aload_n 0, 1) := by decide +kernel
theorem dX10_readsClause_163 : decode cX10_readsClause 163 = .ok (.getfield 81, 3) := by decide +kernel
theorem dX10_readsClause_166 : decode cX10_readsClause 166 = .ok (.iload 4, 2) := by decide +kernel
theorem dX10_readsClause_168 : decode cX10_readsClause 168 = .ok (.iload_n 3, 1) := by decide +kernel
theorem dX10_readsClause_169 : decode cX10_readsClause 169 = .ok (.iastore, 1) := by decide +kernel
theorem dX10_readsClause_170 : decode cX10_readsClause 170 = .ok (.aload_n 0, 1) := by decide +kernel
theorem dX10_readsClause_171 : decode cX10_readsClause 171 = .ok (.getfield 84, 3) := by decide +kernel
theorem dX10_readsClause_174 : decode cX10_readsClause 174 = .ok (.iload 4, 2) := by decide +kernel
theorem dX10_readsClause_176 : decode cX10_readsClause 176 = .ok (.aload_n 0, 1) := by decide +kernel
theorem dX10_readsClause_177 : decode cX10_readsClause 177 = .ok (.getfield 69, 3) := by decide +kernel
theorem dX10_readsClause_180 : decode cX10_readsClause 180 = .ok (.iconst 4, 1) := by decide +kernel
theorem dX10_readsClause_181 : decode cX10_readsClause 181 = .ok (.iaload, 1) := by decide +kernel
theorem dX10_readsClause_182 : decode cX10_readsClause 182 = .ok (.iastore, 1) := by decide +kernel
theorem dX10_readsClause_183 : decode cX10_readsClause 183 = .ok (.aload_n 0, 1) := by decide +kernel
theorem dX10_readsClause_184 : decode cX10_readsClause 184 = .ok (.getfield 66, 3) := by decide +kernel
theorem dX10_readsClause_187 : decode cX10_readsClause 187 = .ok (.iconst 4, 1) := by decide +kernel
theorem dX10_readsClause_188 : decode cX10_readsClause 188 = .ok (.aload_n 0, 1) := by decide +kernel
theorem dX10_readsClause_189 : decode cX10_readsClause 189 = .ok (.getfield 66, 3) := by decide +kernel
theorem dX10_readsClause_192 : decode cX10_readsClause 192 = .ok (.iconst 4, 1) := by decide +kernel
theorem dX10_readsClause_193 : decode cX10_readsClause 193 = .ok (.iaload, 1) := by decide +kernel
theorem dX10_readsClause_194 : decode cX10_readsClause 194 = .ok (.iconst 1, 1) := by decide +kernel
theorem dX10_readsClause_195 : decode cX10_readsClause 195 = .ok (.iadd, 1) := by decide +kernel
theorem dX10_readsClause_196 : decode cX10_readsClause 196 = .ok (.iastore, 1) := by decide +kernel
theorem dX10_readsClause_197 : decode cX10_readsClause 197 = .ok (.iconst 1, 1) := by decide +kernel
theorem dX10_readsClause_198 : decode cX10_readsClause 198 = .ok (.ireturn, 1) := by decide +kernel
theorem dX10_readsText_0 : decode cX10_readsText 0 = .ok (.aload_n 0, 1) := by decide +kernel
theorem dX10_readsText_1 : decode cX10_readsText 1 = .ok (.iconst 0, 1) := by decide +kernel
theorem dX10_readsText_2 : decode cX10_readsText 2 = .ok (.putfield 186, 3) := by decide +kernel
theorem dX10_readsText_5 : decode cX10_readsText 5 = .ok (.aload_n 0, 1) := by decide +kernel
theorem dX10_readsText_6 : decode cX10_readsText 6 = .ok (.iload_n 1, 1) := by decide +kernel
theorem dX10_readsText_7 : decode cX10_readsText 7 = .ok (.putfield 189, 3) := by decide +kernel
theorem dX10_readsText_10 : decode cX10_readsText 10 = .ok (.aload_n 0, 1) := by decide +kernel
theorem dX10_readsText_11 : decode cX10_readsText 11 = .ok (.getfield 66, 3) := by decide +kernel
theorem dX10_readsText_14 : decode cX10_readsText 14 = .ok (.iconst 4, 1) := by decide +kernel
theorem dX10_readsText_15 : decode cX10_readsText 15 = .ok (.iconst 0, 1) := by decide +kernel
theorem dX10_readsText_16 : decode cX10_readsText 16 = .ok (.iastore, 1) := by decide +kernel
theorem dX10_readsText_17 : decode cX10_readsText 17 = .ok (.aload_n 0, 1) := by decide +kernel
theorem dX10_readsText_18 : decode cX10_readsText 18 = .ok (.getfield 69, 3) := by decide +kernel
theorem dX10_readsText_21 : decode cX10_readsText 21 = .ok (.iconst 4, 1) := by decide +kernel
theorem dX10_readsText_22 : decode cX10_readsText 22 = .ok (.iconst 0, 1) := by decide +kernel
theorem dX10_readsText_23 : decode cX10_readsText 23 = .ok (.iastore, 1) := by decide +kernel
theorem dX10_readsText_24 : decode cX10_readsText 24 = .ok (.aload_n 0, 1) := by decide +kernel
theorem dX10_readsText_25 : decode cX10_readsText 25 = .ok (.getfield 72, 3) := by decide +kernel
theorem dX10_readsText_28 : decode cX10_readsText 28 = .ok (.iconst 4, 1) := by decide +kernel
theorem dX10_readsText_29 : decode cX10_readsText 29 = .ok (.iconst 0, 1) := by decide +kernel
theorem dX10_readsText_30 : decode cX10_readsText 30 = .ok (.iastore, 1) := by decide +kernel
theorem dX10_readsText_31 : decode cX10_readsText 31 = .ok (.iload_n 1, 1) := by decide +kernel
theorem dX10_readsText_32 : decode cX10_readsText 32 = .ok (.ifCond .ne 5, 3) := by decide +kernel
theorem dX10_readsText_35 : decode cX10_readsText 35 = .ok (.iconst 1, 1) := by decide +kernel
theorem dX10_readsText_36 : decode cX10_readsText 36 = .ok (.ireturn, 1) := by decide +kernel
theorem dX10_readsText_37 : decode cX10_readsText 37 = .ok (.iconst 1, 1) := by decide +kernel
theorem dX10_readsText_38 : decode cX10_readsText 38 = .ok (.istore_n 2, 1) := by decide +kernel
theorem dX10_readsText_39 : decode cX10_readsText 39 = .ok (.iload_n 2, 1) := by decide +kernel
theorem dX10_readsText_40 : decode cX10_readsText 40 = .ok (.ifCond .eq 61, 3) := by decide +kernel
theorem dX10_readsText_43 : decode cX10_readsText 43 = .ok (.aload_n 0, 1) := by decide +kernel
theorem dX10_readsText_44 : decode cX10_readsText 44 = .ok (.invokevirtual 244, 3) := by decide +kernel
theorem dX10_readsText_47 : decode cX10_readsText 47 = .ok (.ifCond .ne 5, 3) := by decide +kernel
theorem dX10_readsText_50 : decode cX10_readsText 50 = .ok (.iconst 0, 1) := by decide +kernel
theorem dX10_readsText_51 : decode cX10_readsText 51 = .ok (.ireturn, 1) := by decide +kernel
theorem dX10_readsText_52 : decode cX10_readsText 52 = .ok (.aload_n 0, 1) := by decide +kernel
theorem dX10_readsText_53 : decode cX10_readsText 53 = .ok (.getfield 186, 3) := by decide +kernel
theorem dX10_readsText_56 : decode cX10_readsText 56 = .ok (.aload_n 0, 1) := by decide +kernel
theorem dX10_readsText_57 : decode cX10_readsText 57 = .ok (.getfield 189, 3) := by decide +kernel
theorem dX10_readsText_60 : decode cX10_readsText 60 = .ok (.if_icmp .ge 7, 3) := by decide +kernel
theorem dX10_readsText_63 : decode cX10_readsText 63 = .ok (.iconst 1, 1) := by decide +kernel
theorem dX10_readsText_64 : decode cX10_readsText 64 = .ok (.goto 4, 3) := by decide +kernel
theorem dX10_readsText_67 : decode cX10_readsText 67 = .ok (.iconst 0, 1) := by decide +kernel
theorem dX10_readsText_68 : decode cX10_readsText 68 = .ok (.istore_n 2, 1) := by decide +kernel
theorem dX10_readsText_69 : decode cX10_readsText 69 = .ok (.iload_n 2, 1) := by decide +kernel
theorem dX10_readsText_70 : decode cX10_readsText 70 = .ok (.ifCond .eq 18, 3) := by decide +kernel
theorem dX10_readsText_73 : decode cX10_readsText 73 = .ok (.aload_n 0, 1) := by decide +kernel
theorem dX10_readsText_74 : decode cX10_readsText 74 = .ok (.invokevirtual 198, 3) := by decide +kernel
theorem dX10_readsText_77 : decode cX10_readsText 77 = .ok (.bipush 59, 2) := by decide +kernel
theorem dX10_readsText_79 : decode cX10_readsText 79 = .ok (.if_icmp .eq 9, 3) := by decide +kernel
theorem dX10_readsText_82 : decode cX10_readsText 82 = .ok (.aload_n 0, 1) := by decide +kernel
theorem dX10_readsText_83 : decode cX10_readsText 83 = .ok (.iconst 1, 1) := by decide +kernel
theorem dX10_readsText_84 : decode cX10_readsText 84 = .ok (.invokevirtual 202, 3) := by decide +kernel
theorem dX10_readsText_87 : decode cX10_readsText 87 = .ok (.ireturn, 1) := by decide +kernel
theorem dX10_readsText_88 : decode cX10_readsText 88 = .ok (.aload_n 0, 1) := by decide +kernel
theorem dX10_readsText_89 : decode cX10_readsText 89 = .ok (.aload_n 0, 1) := by decide +kernel
theorem dX10_readsText_90 : decode cX10_readsText 90 = .ok (.getfield 186, 3) := by decide +kernel
theorem dX10_readsText_93 : decode cX10_readsText 93 = .ok (.iconst 1, 1) := by decide +kernel
theorem dX10_readsText_94 : decode cX10_readsText 94 = .ok (.iadd, 1) := by decide +kernel
theorem dX10_readsText_95 : decode cX10_readsText 95 = .ok (.putfield 186, 3) := by decide +kernel
theorem dX10_readsText_98 : decode cX10_readsText 98 = .ok (.goto (-59), 3) := by decide +kernel
theorem dX10_readsText_101 : decode cX10_readsText 101 = .ok (.iconst 1, 1) := by decide +kernel
theorem dX10_readsText_102 : decode cX10_readsText 102 = .ok (.ireturn, 1) := by decide +kernel
theorem dX10_contract_0 : decode cX10_contract 0 = .ok (.iload_n 1, 1) := by decide +kernel
theorem dX10_contract_1 : decode cX10_contract 1 = .ok (.ifCond .lt 20, 3) := by decide +kernel
theorem dX10_contract_4 : decode cX10_contract 4 = .ok (.iload_n 1, 1) := by decide +kernel
theorem dX10_contract_5 : decode cX10_contract 5 = .ok (.iconst 4, 1) := by decide +kernel
theorem dX10_contract_6 : decode cX10_contract 6 = .ok (.if_icmp .ge 15, 3) := by decide +kernel
theorem dX10_contract_9 : decode cX10_contract 9 = .ok (.iload_n 2, 1) := by decide +kernel
theorem dX10_contract_10 : decode cX10_contract 10 = .ok (.ifCond .lt 11, 3) := by decide +kernel
theorem dX10_contract_13 : decode cX10_contract 13 = .ok (.iload_n 2, 1) := by decide +kernel
theorem dX10_contract_14 : decode cX10_contract 14 = .ok (.aload_n 0, 1) := by decide +kernel
theorem dX10_contract_15 : decode cX10_contract 15 = .ok (.getfield 179, 3) := by decide +kernel
theorem dX10_contract_18 : decode cX10_contract 18 = .ok (.if_icmp .le 5, 3) := by decide +kernel
theorem dX10_contract_21 : decode cX10_contract 21 = .ok (.iconst (-1), 1) := by decide +kernel
theorem dX10_contract_22 : decode cX10_contract 22 = .ok (.ireturn, 1) := by decide +kernel
theorem dX10_contract_23 : decode cX10_contract 23 = .ok (.aload_n 0, 1) := by decide +kernel
theorem dX10_contract_24 : decode cX10_contract 24 = .ok (.iconst 0, 1) := by decide +kernel
theorem dX10_contract_25 : decode cX10_contract 25 = .ok (.putfield 192, 3) := by decide +kernel
theorem dX10_contract_28 : decode cX10_contract 28 = .ok (.aload_n 0, 1) := by decide +kernel
theorem dX10_contract_29 : decode cX10_contract 29 = .ok (.iconst (-1), 1) := by decide +kernel
theorem dX10_contract_30 : decode cX10_contract 30 = .ok (.putfield 62, 3) := by decide +kernel
theorem dX10_contract_33 : decode cX10_contract 33 = .ok (.aload_n 0, 1) := by decide +kernel
theorem dX10_contract_34 : decode cX10_contract 34 = .ok (.iload_n 2, 1) := by decide +kernel
theorem dX10_contract_35 : decode cX10_contract 35 = .ok (.invokevirtual 247, 3) := by decide +kernel
theorem dX10_contract_38 : decode cX10_contract 38 = .ok (.istore_n 3, 1) := by decide +kernel
theorem dX10_contract_39 : decode cX10_contract 39 = .ok (.aload_n 0, 1) := by decide +kernel
theorem dX10_contract_40 : decode cX10_contract 40 = .ok (.iconst 0, 1) := by decide +kernel
theorem dX10_contract_41 : decode cX10_contract 41 = .ok (.putfield 179, 3) := by decide +kernel
theorem dX10_contract_44 : decode cX10_contract 44 = .ok (.iload_n 3, 1) := by decide +kernel
theorem dX10_contract_45 : decode cX10_contract 45 = .ok (.ifCond .ne 6, 3) := by decide +kernel
theorem dX10_contract_48 : decode cX10_contract 48 = .ok (.bipush (-2), 2) := by decide +kernel
theorem dX10_contract_50 : decode cX10_contract 50 = .ok (.ireturn, 1) := by decide +kernel
theorem dX10_contract_51 : decode cX10_contract 51 = .ok (.aload_n 0, 1) := by decide +kernel
theorem dX10_contract_52 : decode cX10_contract 52 = .ok (.getfield 66, 3) := by decide +kernel
theorem dX10_contract_55 : decode cX10_contract 55 = .ok (.iload_n 1, 1) := by decide +kernel
theorem dX10_contract_56 : decode cX10_contract 56 = .ok (.aload_n 0, 1) := by decide +kernel
theorem dX10_contract_57 : decode cX10_contract 57 = .ok (.getfield 66, 3) := by decide +kernel
theorem dX10_contract_60 : decode cX10_contract 60 = .ok (.iconst 4, 1) := by decide +kernel
theorem dX10_contract_61 : decode cX10_contract 61 = .ok (.iaload, 1) := by decide +kernel
theorem dX10_contract_62 : decode cX10_contract 62 = .ok (.iastore, 1) := by decide +kernel
theorem dX10_contract_63 : decode cX10_contract 63 = .ok (.aload_n 0, 1) := by decide +kernel
theorem dX10_contract_64 : decode cX10_contract 64 = .ok (.getfield 69, 3) := by decide +kernel
theorem dX10_contract_67 : decode cX10_contract 67 = .ok (.iload_n 1, 1) := by decide +kernel
theorem dX10_contract_68 : decode cX10_contract 68 = .ok (.aload_n 0, 1) := by decide +kernel
theorem dX10_contract_69 : decode cX10_contract 69 = .ok (.getfield 69, 3) := by decide +kernel
theorem dX10_contract_72 : decode cX10_contract 72 = .ok (.iconst 4, 1) := by decide +kernel
theorem dX10_contract_73 : decode cX10_contract 73 = .ok (.iaload, 1) := by decide +kernel
theorem dX10_contract_74 : decode cX10_contract 74 = .ok (.iastore, 1) := by decide +kernel
theorem dX10_contract_75 : decode cX10_contract 75 = .ok (.aload_n 0, 1) := by decide +kernel
theorem dX10_contract_76 : decode cX10_contract 76 = .ok (.getfield 72, 3) := by decide +kernel
theorem dX10_contract_79 : decode cX10_contract 79 = .ok (.iload_n 1, 1) := by decide +kernel
theorem dX10_contract_80 : decode cX10_contract 80 = .ok (.aload_n 0, 1) := by decide +kernel
theorem dX10_contract_81 : decode cX10_contract 81 = .ok (.getfield 72, 3) := by decide +kernel
theorem dX10_contract_84 : decode cX10_contract 84 = .ok (.iconst 4, 1) := by decide +kernel
theorem dX10_contract_85 : decode cX10_contract 85 = .ok (.iaload, 1) := by decide +kernel
theorem dX10_contract_86 : decode cX10_contract 86 = .ok (.iastore, 1) := by decide +kernel
theorem dX10_contract_87 : decode cX10_contract 87 = .ok (.iconst 0, 1) := by decide +kernel
theorem dX10_contract_88 : decode cX10_contract 88 = .ok (.istore 4, 2) := by decide +kernel
theorem dX10_contract_90 : decode cX10_contract 90 = .ok (.iload 4, 2) := by decide +kernel
theorem dX10_contract_92 : decode cX10_contract 92 = .ok (.bipush 12, 2) := by decide +kernel
theorem dX10_contract_94 : decode cX10_contract 94 = .ok (.if_icmp .ge 97, 3) := by decide +kernel
theorem dX10_contract_97 : decode cX10_contract 97 = .ok (.aload_n 0, 1) := by decide +kernel
theorem dX10_contract_98 : decode cX10_contract 98 = .ok (.getfield 75, 3) := by decide +kernel
theorem dX10_contract_101 : decode cX10_contract 101 = .ok (.bipush 12, 2) := by decide +kernel
theorem dX10_contract_103 : decode cX10_contract 103 = .ok (.iload_n 1, 1) := by decide +kernel
theorem dX10_contract_104 : decode cX10_contract 104 = .ok (.imul, 1) := by decide +kernel
theorem dX10_contract_105 : decode cX10_contract 105 = .ok (.iload 4, 2) := by decide +kernel
theorem dX10_contract_107 : decode cX10_contract 107 = .ok (.iadd, 1) := by decide +kernel
theorem dX10_contract_108 : decode cX10_contract 108 = .ok (.aload_n 0, 1) := by decide +kernel
theorem dX10_contract_109 : decode cX10_contract 109 = .ok (.getfield 75, 3) := by decide +kernel
theorem dX10_contract_112 : decode cX10_contract 112 = .ok (.bipush 48, 2) := by decide +kernel
theorem dX10_contract_114 : decode cX10_contract 114 = .ok (.iload 4, 2) := by decide +kernel
theorem dX10_contract_116 : decode cX10_contract 116 = .ok (.iadd, 1) := by decide +kernel
theorem dX10_contract_117 : decode cX10_contract 117 = .ok (.iaload, 1) := by decide +kernel
theorem dX10_contract_118 : decode cX10_contract 118 = .ok (.iastore, 1) := by decide +kernel
theorem dX10_contract_119 : decode cX10_contract 119 = .ok (.aload_n 0, 1) := by decide +kernel
theorem dX10_contract_120 : decode cX10_contract 120 = .ok (.getfield 78, 3) := by decide +kernel
theorem dX10_contract_123 : decode cX10_contract 123 = .ok (.bipush 12, 2) := by decide +kernel
theorem dX10_contract_125 : decode cX10_contract 125 = .ok (.iload_n 1, 1) := by decide +kernel
theorem dX10_contract_126 : decode cX10_contract 126 = .ok (.imul, 1) := by decide +kernel
theorem dX10_contract_127 : decode cX10_contract 127 = .ok (.iload 4, 2) := by decide +kernel
theorem dX10_contract_129 : decode cX10_contract 129 = .ok (.iadd, 1) := by decide +kernel
theorem dX10_contract_130 : decode cX10_contract 130 = .ok (.aload_n 0, 1) := by decide +kernel
theorem dX10_contract_131 : decode cX10_contract 131 = .ok (.getfield 78, 3) := by decide +kernel
theorem dX10_contract_134 : decode cX10_contract 134 = .ok (.bipush 48, 2) := by decide +kernel
theorem dX10_contract_136 : decode cX10_contract 136 = .ok (.iload 4, 2) := by decide +kernel
theorem dX10_contract_138 : decode cX10_contract 138 = .ok (.iadd, 1) := by decide +kernel
theorem dX10_contract_139 : decode cX10_contract 139 = .ok (.iaload, 1) := by decide +kernel
theorem dX10_contract_140 : decode cX10_contract 140 = .ok (.iastore, 1) := by decide +kernel
theorem dX10_contract_141 : decode cX10_contract 141 = .ok (.aload_n 0, 1) := by decide +kernel
theorem dX10_contract_142 : decode cX10_contract 142 = .ok (.getfield 81, 3) := by decide +kernel
theorem dX10_contract_145 : decode cX10_contract 145 = .ok (.bipush 12, 2) := by decide +kernel
theorem dX10_contract_147 : decode cX10_contract 147 = .ok (.iload_n 1, 1) := by decide +kernel
theorem dX10_contract_148 : decode cX10_contract 148 = .ok (.imul, 1) := by decide +kernel
theorem dX10_contract_149 : decode cX10_contract 149 = .ok (.iload 4, 2) := by decide +kernel
theorem dX10_contract_151 : decode cX10_contract 151 = .ok (.iadd, 1) := by decide +kernel
theorem dX10_contract_152 : decode cX10_contract 152 = .ok (.aload_n 0, 1) := by decide +kernel
theorem dX10_contract_153 : decode cX10_contract 153 = .ok (.getfield 81, 3) := by decide +kernel
theorem dX10_contract_156 : decode cX10_contract 156 = .ok (.bipush 48, 2) := by decide +kernel
theorem dX10_contract_158 : decode cX10_contract 158 = .ok (.iload 4, 2) := by decide +kernel
theorem dX10_contract_160 : decode cX10_contract 160 = .ok (.iadd, 1) := by decide +kernel
theorem dX10_contract_161 : decode cX10_contract 161 = .ok (.iaload, 1) := by decide +kernel
theorem dX10_contract_162 : decode cX10_contract 162 = .ok (.iastore, 1) := by decide +kernel
theorem dX10_contract_163 : decode cX10_contract 163 = .ok (.aload_n 0, 1) := by decide +kernel
theorem dX10_contract_164 : decode cX10_contract 164 = .ok (.getfield 84, 3) := by decide +kernel
theorem dX10_contract_167 : decode cX10_contract 167 = .ok (.bipush 12, 2) := by decide +kernel
theorem dX10_contract_169 : decode cX10_contract 169 = .ok (.iload_n 1, 1) := by decide +kernel
theorem dX10_contract_170 : decode cX10_contract 170 = .ok (.imul, 1) := by decide +kernel
theorem dX10_contract_171 : decode cX10_contract 171 = .ok (.iload 4, 2) := by decide +kernel
theorem dX10_contract_173 : decode cX10_contract 173 = .ok (.iadd, 1) := by decide +kernel
theorem dX10_contract_174 : decode cX10_contract 174 = .ok (.aload_n 0, 1) := by decide +kernel
theorem dX10_contract_175 : decode cX10_contract 175 = .ok (.getfield 84, 3) := by decide +kernel
theorem dX10_contract_178 : decode cX10_contract 178 = .ok (.bipush 48, 2) := by decide +kernel
theorem dX10_contract_180 : decode cX10_contract 180 = .ok (.iload 4, 2) := by decide +kernel
theorem dX10_contract_182 : decode cX10_contract 182 = .ok (.iadd, 1) := by decide +kernel
theorem dX10_contract_183 : decode cX10_contract 183 = .ok (.iaload, 1) := by decide +kernel
theorem dX10_contract_184 : decode cX10_contract 184 = .ok (.iastore, 1) := by decide +kernel
theorem dX10_contract_185 : decode cX10_contract 185 = .ok (.iinc 4 1, 3) := by decide +kernel
theorem dX10_contract_188 : decode cX10_contract 188 = .ok (.goto (-98), 3) := by decide +kernel
theorem dX10_contract_191 : decode cX10_contract 191 = .ok (.iconst 0, 1) := by decide +kernel
theorem dX10_contract_192 : decode cX10_contract 192 = .ok (.istore 4, 2) := by decide +kernel
theorem dX10_contract_194 : decode cX10_contract 194 = .ok (.iload 4, 2) := by decide +kernel
theorem dX10_contract_196 : decode cX10_contract 196 = .ok (.sipush 200, 3) := by decide +kernel
theorem dX10_contract_199 : decode cX10_contract 199 = .ok (.if_icmp .ge 105, 3) := by decide +kernel
theorem dX10_contract_202 : decode cX10_contract 202 = .ok (.aload_n 0, 1) := by decide +kernel
theorem dX10_contract_203 : decode cX10_contract 203 = .ok (.getfield 87, 3) := by decide +kernel
theorem dX10_contract_206 : decode cX10_contract 206 = .ok (.sipush 200, 3) := by decide +kernel
theorem dX10_contract_209 : decode cX10_contract 209 = .ok (.iload_n 1, 1) := by decide +kernel
theorem dX10_contract_210 : decode cX10_contract 210 = .ok (.imul, 1) := by decide +kernel
theorem dX10_contract_211 : decode cX10_contract 211 = .ok (.iload 4, 2) := by decide +kernel
theorem dX10_contract_213 : decode cX10_contract 213 = .ok (.iadd, 1) := by decide +kernel
theorem dX10_contract_214 : decode cX10_contract 214 = .ok (.aload_n 0, 1) := by decide +kernel
theorem dX10_contract_215 : decode cX10_contract 215 = .ok (.getfield 87, 3) := by decide +kernel
theorem dX10_contract_218 : decode cX10_contract 218 = .ok (.sipush 800, 3) := by decide +kernel
theorem dX10_contract_221 : decode cX10_contract 221 = .ok (.iload 4, 2) := by decide +kernel
theorem dX10_contract_223 : decode cX10_contract 223 = .ok (.iadd, 1) := by decide +kernel
theorem dX10_contract_224 : decode cX10_contract 224 = .ok (.iaload, 1) := by decide +kernel
theorem dX10_contract_225 : decode cX10_contract 225 = .ok (.iastore, 1) := by decide +kernel
theorem dX10_contract_226 : decode cX10_contract 226 = .ok (.aload_n 0, 1) := by decide +kernel
theorem dX10_contract_227 : decode cX10_contract 227 = .ok (.getfield 90, 3) := by decide +kernel
theorem dX10_contract_230 : decode cX10_contract 230 = .ok (.sipush 200, 3) := by decide +kernel
theorem dX10_contract_233 : decode cX10_contract 233 = .ok (.iload_n 1, 1) := by decide +kernel
theorem dX10_contract_234 : decode cX10_contract 234 = .ok (.imul, 1) := by decide +kernel
theorem dX10_contract_235 : decode cX10_contract 235 = .ok (.iload 4, 2) := by decide +kernel
theorem dX10_contract_237 : decode cX10_contract 237 = .ok (.iadd, 1) := by decide +kernel
theorem dX10_contract_238 : decode cX10_contract 238 = .ok (.aload_n 0, 1) := by decide +kernel
theorem dX10_contract_239 : decode cX10_contract 239 = .ok (.getfield 90, 3) := by decide +kernel
theorem dX10_contract_242 : decode cX10_contract 242 = .ok (.sipush 800, 3) := by decide +kernel
theorem dX10_contract_245 : decode cX10_contract 245 = .ok (.iload 4, 2) := by decide +kernel
theorem dX10_contract_247 : decode cX10_contract 247 = .ok (.iadd, 1) := by decide +kernel
theorem dX10_contract_248 : decode cX10_contract 248 = .ok (.iaload, 1) := by decide +kernel
theorem dX10_contract_249 : decode cX10_contract 249 = .ok (.iastore, 1) := by decide +kernel
theorem dX10_contract_250 : decode cX10_contract 250 = .ok (.aload_n 0, 1) := by decide +kernel
theorem dX10_contract_251 : decode cX10_contract 251 = .ok (.getfield 93, 3) := by decide +kernel
theorem dX10_contract_254 : decode cX10_contract 254 = .ok (.sipush 200, 3) := by decide +kernel
theorem dX10_contract_257 : decode cX10_contract 257 = .ok (.iload_n 1, 1) := by decide +kernel
theorem dX10_contract_258 : decode cX10_contract 258 = .ok (.imul, 1) := by decide +kernel
theorem dX10_contract_259 : decode cX10_contract 259 = .ok (.iload 4, 2) := by decide +kernel
theorem dX10_contract_261 : decode cX10_contract 261 = .ok (.iadd, 1) := by decide +kernel
theorem dX10_contract_262 : decode cX10_contract 262 = .ok (.aload_n 0, 1) := by decide +kernel
theorem dX10_contract_263 : decode cX10_contract 263 = .ok (.getfield 93, 3) := by decide +kernel
theorem dX10_contract_266 : decode cX10_contract 266 = .ok (.sipush 800, 3) := by decide +kernel
theorem dX10_contract_269 : decode cX10_contract 269 = .ok (.iload 4, 2) := by decide +kernel
theorem dX10_contract_271 : decode cX10_contract 271 = .ok (.iadd, 1) := by decide +kernel
theorem dX10_contract_272 : decode cX10_contract 272 = .ok (.iaload, 1) := by decide +kernel
theorem dX10_contract_273 : decode cX10_contract 273 = .ok (.iastore, 1) := by decide +kernel
theorem dX10_contract_274 : decode cX10_contract 274 = .ok (.aload_n 0, 1) := by decide +kernel
theorem dX10_contract_275 : decode cX10_contract 275 = .ok (.getfield 96, 3) := by decide +kernel
theorem dX10_contract_278 : decode cX10_contract 278 = .ok (.sipush 200, 3) := by decide +kernel
theorem dX10_contract_281 : decode cX10_contract 281 = .ok (.iload_n 1, 1) := by decide +kernel
theorem dX10_contract_282 : decode cX10_contract 282 = .ok (.imul, 1) := by decide +kernel
theorem dX10_contract_283 : decode cX10_contract 283 = .ok (.iload 4, 2) := by decide +kernel
theorem dX10_contract_285 : decode cX10_contract 285 = .ok (.iadd, 1) := by decide +kernel
theorem dX10_contract_286 : decode cX10_contract 286 = .ok (.aload_n 0, 1) := by decide +kernel
theorem dX10_contract_287 : decode cX10_contract 287 = .ok (.getfield 96, 3) := by decide +kernel
theorem dX10_contract_290 : decode cX10_contract 290 = .ok (.sipush 800, 3) := by decide +kernel
theorem dX10_contract_293 : decode cX10_contract 293 = .ok (.iload 4, 2) := by decide +kernel
theorem dX10_contract_295 : decode cX10_contract 295 = .ok (.iadd, 1) := by decide +kernel
theorem dX10_contract_296 : decode cX10_contract 296 = .ok (.iaload, 1) := by decide +kernel
theorem dX10_contract_297 : decode cX10_contract 297 = .ok (.iastore, 1) := by decide +kernel
theorem dX10_contract_298 : decode cX10_contract 298 = .ok (.iinc 4 1, 3) := by decide +kernel
theorem dX10_contract_301 : decode cX10_contract 301 = .ok (.goto (-107), 3) := by decide +kernel
theorem dX10_contract_304 : decode cX10_contract 304 = .ok (.aload_n 0, 1) := by decide +kernel
theorem dX10_contract_305 : decode cX10_contract 305 = .ok (.iconst 0, 1) := by decide +kernel
theorem dX10_contract_306 : decode cX10_contract 306 = .ok (.putfield 165, 3) := by decide +kernel
theorem dX10_contract_309 : decode cX10_contract 309 = .ok (.aload_n 0, 1) := by decide +kernel
theorem dX10_contract_310 : decode cX10_contract 310 = .ok (.getfield 66, 3) := by decide +kernel
theorem dX10_contract_313 : decode cX10_contract 313 = .ok (.iload_n 1, 1) := by decide +kernel
theorem dX10_contract_314 : decode cX10_contract 314 = .ok (.iaload, 1) := by decide +kernel
theorem dX10_contract_315 : decode cX10_contract 315 = .ok (.ireturn, 1) := by decide +kernel
theorem dX10_fault_0 : decode cX10_fault 0 = .ok (.iload_n 1, 1) := by decide +kernel
theorem dX10_fault_1 : decode cX10_fault 1 = .ok (.ifCond .ne 10, 3) := by decide +kernel
theorem dX10_fault_4 : decode cX10_fault 4 = .ok (.aload_n 0, 1) := by decide +kernel
theorem dX10_fault_5 : decode cX10_fault 5 = .ok (.getfield 192, 3) := by decide +kernel
theorem dX10_fault_8 : decode cX10_fault 8 = .ok (.goto 16, 3) := by decide +kernel
theorem dX10_fault_11 : decode cX10_fault 11 = .ok (.iload_n 1, 1) := by decide +kernel
theorem dX10_fault_12 : decode cX10_fault 12 = .ok (.iconst 1, 1) := by decide +kernel
theorem dX10_fault_13 : decode cX10_fault 13 = .ok (.if_icmp .ne 10, 3) := by decide +kernel
theorem dX10_fault_16 : decode cX10_fault 16 = .ok (.aload_n 0, 1) := by decide +kernel
theorem dX10_fault_17 : decode cX10_fault 17 = .ok (.getfield 62, 3) := by decide +kernel
theorem dX10_fault_20 : decode cX10_fault 20 = .ok (.goto 4, 3) := by decide +kernel
theorem dX10_fault_23 : decode cX10_fault 23 = .ok (.iconst (-1), 1) := by decide +kernel
theorem dX10_fault_24 : decode cX10_fault 24 = .ok (.ireturn, 1) := by decide +kernel
theorem dX10_holds_0 : decode cX10_holds 0 = .ok (.iconst 0, 1) := by decide +kernel
theorem dX10_holds_1 : decode cX10_holds 1 = .ok (.istore 4, 2) := by decide +kernel
theorem dX10_holds_3 : decode cX10_holds 3 = .ok (.sipush 200, 3) := by decide +kernel
theorem dX10_holds_6 : decode cX10_holds 6 = .ok (.iload_n 1, 1) := by decide +kernel
theorem dX10_holds_7 : decode cX10_holds 7 = .ok (.imul, 1) := by decide +kernel
theorem dX10_holds_8 : decode cX10_holds 8 = .ok (.iload_n 2, 1) := by decide +kernel
theorem dX10_holds_9 : decode cX10_holds 9 = .ok (.iadd, 1) := by decide +kernel
theorem dX10_holds_10 : decode cX10_holds 10 = .ok (.istore 5, 2) := by decide +kernel
theorem dX10_holds_12 : decode cX10_holds 12 = .ok (.iload 5, 2) := by decide +kernel
theorem dX10_holds_14 : decode cX10_holds 14 = .ok (.sipush 200, 3) := by decide +kernel
theorem dX10_holds_17 : decode cX10_holds 17 = .ok (.iload_n 1, 1) := by decide +kernel
theorem dX10_holds_18 : decode cX10_holds 18 = .ok (.imul, 1) := by decide +kernel
theorem dX10_holds_19 : decode cX10_holds 19 = .ok (.iload_n 3, 1) := by decide +kernel
theorem dX10_holds_20 : decode cX10_holds 20 = .ok (.iadd, 1) := by decide +kernel
theorem dX10_holds_21 : decode cX10_holds 21 = .ok (.if_icmp .ge 268, 3) := by decide +kernel
theorem dX10_holds_24 : decode cX10_holds 24 = .ok (.aload_n 0, 1) := by decide +kernel
theorem dX10_holds_25 : decode cX10_holds 25 = .ok (.getfield 87, 3) := by decide +kernel
theorem dX10_holds_28 : decode cX10_holds 28 = .ok (.iload 5, 2) := by decide +kernel
theorem dX10_holds_30 : decode cX10_holds 30 = .ok (.iaload, 1) := by decide +kernel
theorem dX10_holds_31 : decode cX10_holds 31 = .ok (.tableswitch 210 0 2 #[25, 136, 165], 25) := by decide +kernel
theorem dX10_holds_56 : decode cX10_holds 56 = .ok (.aload_n 0, 1) := by decide +kernel
theorem dX10_holds_57 : decode cX10_holds 57 = .ok (.getfield 102, 3) := by decide +kernel
theorem dX10_holds_60 : decode cX10_holds 60 = .ok (.aload_n 0, 1) := by decide +kernel
theorem dX10_holds_61 : decode cX10_holds 61 = .ok (.getfield 90, 3) := by decide +kernel
theorem dX10_holds_64 : decode cX10_holds 64 = .ok (.iload 5, 2) := by decide +kernel
theorem dX10_holds_66 : decode cX10_holds 66 = .ok (.iaload, 1) := by decide +kernel
theorem dX10_holds_67 : decode cX10_holds 67 = .ok (.iaload, 1) := by decide +kernel
theorem dX10_holds_68 : decode cX10_holds 68 = .ok (.istore 6, 2) := by decide +kernel
theorem dX10_holds_70 : decode cX10_holds 70 = .ok (.aload_n 0, 1) := by decide +kernel
theorem dX10_holds_71 : decode cX10_holds 71 = .ok (.getfield 105, 3) := by decide +kernel
theorem dX10_holds_74 : decode cX10_holds 74 = .ok (.iload 4, 2) := by decide +kernel
theorem dX10_holds_76 : decode cX10_holds 76 = .ok (.aload_n 0, 1) := by decide +kernel
theorem dX10_holds_77 : decode cX10_holds 77 = .ok (.getfield 93, 3) := by decide +kernel
theorem dX10_holds_80 : decode cX10_holds 80 = .ok (.iload 5, 2) := by decide +kernel
theorem dX10_holds_82 : decode cX10_holds 82 = .ok (.iaload, 1) := by decide +kernel
theorem dX10_holds_83 : decode cX10_holds 83 = .ok (.bipush 60, 2) := by decide +kernel
theorem dX10_holds_85 : decode cX10_holds 85 = .ok (.if_icmp .ne 23, 3) := by decide +kernel
theorem dX10_holds_88 : decode cX10_holds 88 = .ok (.iload 6, 2) := by decide +kernel
theorem dX10_holds_90 : decode cX10_holds 90 = .ok (.aload_n 0, 1) := by decide +kernel
theorem dX10_holds_91 : decode cX10_holds 91 = .ok (.getfield 96, 3) := by decide +kernel
theorem dX10_holds_94 : decode cX10_holds 94 = .ok (.iload 5, 2) := by decide +kernel
theorem dX10_holds_96 : decode cX10_holds 96 = .ok (.iaload, 1) := by decide +kernel
theorem dX10_holds_97 : decode cX10_holds 97 = .ok (.if_icmp .ge 7, 3) := by decide +kernel
theorem dX10_holds_100 : decode cX10_holds 100 = .ok (.iconst 1, 1) := by decide +kernel
theorem dX10_holds_101 : decode cX10_holds 101 = .ok (.goto 56, 3) := by decide +kernel
theorem dX10_holds_104 : decode cX10_holds 104 = .ok (.iconst 0, 1) := by decide +kernel
theorem dX10_holds_105 : decode cX10_holds 105 = .ok (.goto 52, 3) := by decide +kernel
theorem dX10_holds_108 : decode cX10_holds 108 = .ok (.aload_n 0, 1) := by decide +kernel
theorem dX10_holds_109 : decode cX10_holds 109 = .ok (.getfield 93, 3) := by decide +kernel
theorem dX10_holds_112 : decode cX10_holds 112 = .ok (.iload 5, 2) := by decide +kernel
theorem dX10_holds_114 : decode cX10_holds 114 = .ok (.iaload, 1) := by decide +kernel
theorem dX10_holds_115 : decode cX10_holds 115 = .ok (.bipush 62, 2) := by decide +kernel
theorem dX10_holds_117 : decode cX10_holds 117 = .ok (.if_icmp .ne 23, 3) := by decide +kernel
theorem dX10_holds_120 : decode cX10_holds 120 = .ok (.iload 6, 2) := by decide +kernel
theorem dX10_holds_122 : decode cX10_holds 122 = .ok (.aload_n 0, 1) := by decide +kernel
theorem dX10_holds_123 : decode cX10_holds 123 = .ok (.getfield 96, 3) := by decide +kernel
theorem dX10_holds_126 : decode cX10_holds 126 = .ok (.iload 5, 2) := by decide +kernel
theorem dX10_holds_128 : decode cX10_holds 128 = .ok (.iaload, 1) := by decide +kernel
theorem dX10_holds_129 : decode cX10_holds 129 = .ok (.if_icmp .le 7, 3) := by decide +kernel
theorem dX10_holds_132 : decode cX10_holds 132 = .ok (.iconst 1, 1) := by decide +kernel
theorem dX10_holds_133 : decode cX10_holds 133 = .ok (.goto 24, 3) := by decide +kernel
theorem dX10_holds_136 : decode cX10_holds 136 = .ok (.iconst 0, 1) := by decide +kernel
theorem dX10_holds_137 : decode cX10_holds 137 = .ok (.goto 20, 3) := by decide +kernel
theorem dX10_holds_140 : decode cX10_holds 140 = .ok (.iload 6, 2) := by decide +kernel
theorem dX10_holds_142 : decode cX10_holds 142 = .ok (.aload_n 0, 1) := by decide +kernel
theorem dX10_holds_143 : decode cX10_holds 143 = .ok (.getfield 96, 3) := by decide +kernel
theorem dX10_holds_146 : decode cX10_holds 146 = .ok (.iload 5, 2) := by decide +kernel
theorem dX10_holds_148 : decode cX10_holds 148 = .ok (.iaload, 1) := by decide +kernel
theorem dX10_holds_149 : decode cX10_holds 149 = .ok (.if_icmp .ne 7, 3) := by decide +kernel
theorem dX10_holds_152 : decode cX10_holds 152 = .ok (.iconst 1, 1) := by decide +kernel
theorem dX10_holds_153 : decode cX10_holds 153 = .ok (.goto 4, 3) := by decide +kernel
theorem dX10_holds_156 : decode cX10_holds 156 = .ok (.iconst 0, 1) := by decide +kernel
theorem dX10_holds_157 : decode cX10_holds 157 = .ok (.bastore, 1) := by decide +kernel
theorem dX10_holds_158 : decode cX10_holds 158 = .ok (.iload 4, 2) := by decide +kernel
theorem dX10_holds_160 : decode cX10_holds 160 = .ok (.iconst 1, 1) := by decide +kernel
theorem dX10_holds_161 : decode cX10_holds 161 = .ok (.iadd, 1) := by decide +kernel
theorem dX10_holds_162 : decode cX10_holds 162 = .ok (.istore 4, 2) := by decide +kernel
theorem dX10_holds_164 : decode cX10_holds 164 = .ok (.goto 119, 3) := by decide +kernel
theorem dX10_holds_167 : decode cX10_holds 167 = .ok (.aload_n 0, 1) := by decide +kernel
theorem dX10_holds_168 : decode cX10_holds 168 = .ok (.getfield 105, 3) := by decide +kernel
theorem dX10_holds_171 : decode cX10_holds 171 = .ok (.iload 4, 2) := by decide +kernel
theorem dX10_holds_173 : decode cX10_holds 173 = .ok (.iconst 1, 1) := by decide +kernel
theorem dX10_holds_174 : decode cX10_holds 174 = .ok (.isub, 1) := by decide +kernel
theorem dX10_holds_175 : decode cX10_holds 175 = .ok (.aload_n 0, 1) := by decide +kernel
theorem dX10_holds_176 : decode cX10_holds 176 = .ok (.getfield 105, 3) := by decide +kernel
theorem dX10_holds_179 : decode cX10_holds 179 = .ok (.iload 4, 2) := by decide +kernel
theorem dX10_holds_181 : decode cX10_holds 181 = .ok (.iconst 1, 1) := by decide +kernel
theorem dX10_holds_182 : decode cX10_holds 182 = .ok (.isub, 1) := by decide +kernel
theorem dX10_holds_183 : decode cX10_holds 183 = .ok (.baload, 1) := by decide +kernel
theorem dX10_holds_184 : decode cX10_holds 184 = .ok (.ifCond .ne 7, 3) := by decide +kernel
theorem dX10_holds_187 : decode cX10_holds 187 = .ok (.iconst 1, 1) := by decide +kernel
theorem dX10_holds_188 : decode cX10_holds 188 = .ok (.goto 4, 3) := by decide +kernel
theorem dX10_holds_191 : decode cX10_holds 191 = .ok (.iconst 0, 1) := by decide +kernel
theorem dX10_holds_192 : decode cX10_holds 192 = .ok (.bastore, 1) := by decide +kernel
theorem dX10_holds_193 : decode cX10_holds 193 = .ok (.goto 90, 3) := by decide +kernel
theorem dX10_holds_196 : decode cX10_holds 196 = .ok (.iload 4, 2) := by decide +kernel
theorem dX10_holds_198 : decode cX10_holds 198 = .ok (.iconst 1, 1) := by decide +kernel
theorem dX10_holds_199 : decode cX10_holds 199 = .ok (.isub, 1) := by decide +kernel
theorem dX10_holds_200 : decode cX10_holds 200 = .ok (.istore 4, 2) := by decide +kernel
theorem dX10_holds_202 : decode cX10_holds 202 = .ok (.aload_n 0, 1) := by decide +kernel
theorem dX10_holds_203 : decode cX10_holds 203 = .ok (.getfield 105, 3) := by decide +kernel
theorem dX10_holds_206 : decode cX10_holds 206 = .ok (.iload 4, 2) := by decide +kernel
theorem dX10_holds_208 : decode cX10_holds 208 = .ok (.iconst 1, 1) := by decide +kernel
theorem dX10_holds_209 : decode cX10_holds 209 = .ok (.isub, 1) := by decide +kernel
theorem dX10_holds_210 : decode cX10_holds 210 = .ok (.aload_n 0, 1) := by decide +kernel
theorem dX10_holds_211 : decode cX10_holds 211 = .ok (.getfield 105, 3) := by decide +kernel
theorem dX10_holds_214 : decode cX10_holds 214 = .ok (.iload 4, 2) := by decide +kernel
theorem dX10_holds_216 : decode cX10_holds 216 = .ok (.iconst 1, 1) := by decide +kernel
theorem dX10_holds_217 : decode cX10_holds 217 = .ok (.isub, 1) := by decide +kernel
theorem dX10_holds_218 : decode cX10_holds 218 = .ok (.baload, 1) := by decide +kernel
theorem dX10_holds_219 : decode cX10_holds 219 = .ok (.ifCond .eq 17, 3) := by decide +kernel
theorem dX10_holds_222 : decode cX10_holds 222 = .ok (.aload_n 0, 1) := by decide +kernel
theorem dX10_holds_223 : decode cX10_holds 223 = .ok (.getfield 105, 3) := by decide +kernel
theorem dX10_holds_226 : decode cX10_holds 226 = .ok (.iload 4, 2) := by decide +kernel
theorem dX10_holds_228 : decode cX10_holds 228 = .ok (.baload, 1) := by decide +kernel
theorem dX10_holds_229 : decode cX10_holds 229 = .ok (.ifCond .eq 7, 3) := by decide +kernel
theorem dX10_holds_232 : decode cX10_holds 232 = .ok (.iconst 1, 1) := by decide +kernel
theorem dX10_holds_233 : decode cX10_holds 233 = .ok (.goto 4, 3) := by decide +kernel
theorem dX10_holds_236 : decode cX10_holds 236 = .ok (.iconst 0, 1) := by decide +kernel
theorem dX10_holds_237 : decode cX10_holds 237 = .ok (.bastore, 1) := by decide +kernel
theorem dX10_holds_238 : decode cX10_holds 238 = .ok (.goto 45, 3) := by decide +kernel
theorem dX10_holds_241 : decode cX10_holds 241 = .ok (.iload 4, 2) := by decide +kernel
theorem dX10_holds_243 : decode cX10_holds 243 = .ok (.iconst 1, 1) := by decide +kernel
theorem dX10_holds_244 : decode cX10_holds 244 = .ok (.isub, 1) := by decide +kernel
theorem dX10_holds_245 : decode cX10_holds 245 = .ok (.istore 4, 2) := by decide +kernel
theorem dX10_holds_247 : decode cX10_holds 247 = .ok (.aload_n 0, 1) := by decide +kernel
theorem dX10_holds_248 : decode cX10_holds 248 = .ok (.getfield 105, 3) := by decide +kernel
theorem dX10_holds_251 : decode cX10_holds 251 = .ok (.iload 4, 2) := by decide +kernel
theorem dX10_holds_253 : decode cX10_holds 253 = .ok (.iconst 1, 1) := by decide +kernel
theorem dX10_holds_254 : decode cX10_holds 254 = .ok (.isub, 1) := by decide +kernel
theorem dX10_holds_255 : decode cX10_holds 255 = .ok (.aload_n 0, 1) := by decide +kernel
theorem dX10_holds_256 : decode cX10_holds 256 = .ok (.getfield 105, 3) := by decide +kernel
theorem dX10_holds_259 : decode cX10_holds 259 = .ok (.iload 4, 2) := by decide +kernel
theorem dX10_holds_261 : decode cX10_holds 261 = .ok (.iconst 1, 1) := by decide +kernel
theorem dX10_holds_262 : decode cX10_holds 262 = .ok (.isub, 1) := by decide +kernel
theorem dX10_holds_263 : decode cX10_holds 263 = .ok (.baload, 1) := by decide +kernel
theorem dX10_holds_264 : decode cX10_holds 264 = .ok (.ifCond .ne 13, 3) := by decide +kernel
theorem dX10_holds_267 : decode cX10_holds 267 = .ok (.aload_n 0, 1) := by decide +kernel
theorem dX10_holds_268 : decode cX10_holds 268 = .ok (.getfield 105, 3) := by decide +kernel
theorem dX10_holds_271 : decode cX10_holds 271 = .ok (.iload 4, 2) := by decide +kernel
theorem dX10_holds_273 : decode cX10_holds 273 = .ok (.baload, 1) := by decide +kernel
theorem dX10_holds_274 : decode cX10_holds 274 = .ok (.ifCond .eq 7, 3) := by decide +kernel
theorem dX10_holds_277 : decode cX10_holds 277 = .ok (.iconst 1, 1) := by decide +kernel
theorem dX10_holds_278 : decode cX10_holds 278 = .ok (.goto 4, 3) := by decide +kernel
theorem dX10_holds_281 : decode cX10_holds 281 = .ok (.iconst 0, 1) := by decide +kernel
theorem dX10_holds_282 : decode cX10_holds 282 = .ok (.bastore, 1) := by decide +kernel
theorem dX10_holds_283 : decode cX10_holds 283 = .ok (.iinc 5 1, 3) := by decide +kernel
theorem dX10_holds_286 : decode cX10_holds 286 = .ok (.goto (-274), 3) := by decide +kernel
theorem dX10_holds_289 : decode cX10_holds 289 = .ok (.aload_n 0, 1) := by decide +kernel
theorem dX10_holds_290 : decode cX10_holds 290 = .ok (.getfield 105, 3) := by decide +kernel
theorem dX10_holds_293 : decode cX10_holds 293 = .ok (.iconst 0, 1) := by decide +kernel
theorem dX10_holds_294 : decode cX10_holds 294 = .ok (.baload, 1) := by decide +kernel
theorem dX10_holds_295 : decode cX10_holds 295 = .ok (.ireturn, 1) := by decide +kernel
theorem dX10_up_0 : decode cX10_up 0 = .ok (.iload_n 0, 1) := by decide +kernel
theorem dX10_up_1 : decode cX10_up 1 = .ok (.iload_n 1, 1) := by decide +kernel
theorem dX10_up_2 : decode cX10_up 2 = .ok (.iadd, 1) := by decide +kernel
theorem dX10_up_3 : decode cX10_up 3 = .ok (.iconst 1, 1) := by decide +kernel
theorem dX10_up_4 : decode cX10_up 4 = .ok (.isub, 1) := by decide +kernel
theorem dX10_up_5 : decode cX10_up 5 = .ok (.iload_n 1, 1) := by decide +kernel
theorem dX10_up_6 : decode cX10_up 6 = .ok (.idiv, 1) := by decide +kernel
theorem dX10_up_7 : decode cX10_up 7 = .ok (.ireturn, 1) := by decide +kernel
theorem dX10_tableHours_0 : decode cX10_tableHours 0 = .ok (.aload_n 0, 1) := by decide +kernel
theorem dX10_tableHours_1 : decode cX10_tableHours 1 = .ok (.getfield 16, 3) := by decide +kernel
theorem dX10_tableHours_4 : decode cX10_tableHours 4 = .ok (.aload_n 0, 1) := by decide +kernel
theorem dX10_tableHours_5 : decode cX10_tableHours 5 = .ok (.getfield 37, 3) := by decide +kernel
theorem dX10_tableHours_8 : decode cX10_tableHours 8 = .ok (.bipush 6, 2) := by decide +kernel
theorem dX10_tableHours_10 : decode cX10_tableHours 10 = .ok (.iload_n 1, 1) := by decide +kernel
theorem dX10_tableHours_11 : decode cX10_tableHours 11 = .ok (.imul, 1) := by decide +kernel
theorem dX10_tableHours_12 : decode cX10_tableHours 12 = .ok (.iload_n 2, 1) := by decide +kernel
theorem dX10_tableHours_13 : decode cX10_tableHours 13 = .ok (.iadd, 1) := by decide +kernel
theorem dX10_tableHours_14 : decode cX10_tableHours 14 = .ok (.iaload, 1) := by decide +kernel
theorem dX10_tableHours_15 : decode cX10_tableHours 15 = .ok (.iaload, 1) := by decide +kernel
theorem dX10_tableHours_16 : decode cX10_tableHours 16 = .ok (.aload_n 0, 1) := by decide +kernel
theorem dX10_tableHours_17 : decode cX10_tableHours 17 = .ok (.getfield 25, 3) := by decide +kernel
theorem dX10_tableHours_20 : decode cX10_tableHours 20 = .ok (.iload_n 1, 1) := by decide +kernel
theorem dX10_tableHours_21 : decode cX10_tableHours 21 = .ok (.iaload, 1) := by decide +kernel
theorem dX10_tableHours_22 : decode cX10_tableHours 22 = .ok (.invokestatic 250, 3) := by decide +kernel
theorem dX10_tableHours_25 : decode cX10_tableHours 25 = .ok (.ireturn, 1) := by decide +kernel
theorem dX10_dueLeave_0 : decode cX10_dueLeave 0 = .ok (.aload_n 0, 1) := by decide +kernel
theorem dX10_dueLeave_1 : decode cX10_dueLeave 1 = .ok (.getfield 31, 3) := by decide +kernel
theorem dX10_dueLeave_4 : decode cX10_dueLeave 4 = .ok (.iload_n 1, 1) := by decide +kernel
theorem dX10_dueLeave_5 : decode cX10_dueLeave 5 = .ok (.iaload, 1) := by decide +kernel
theorem dX10_dueLeave_6 : decode cX10_dueLeave 6 = .ok (.istore_n 3, 1) := by decide +kernel
theorem dX10_dueLeave_7 : decode cX10_dueLeave 7 = .ok (.iconst 0, 1) := by decide +kernel
theorem dX10_dueLeave_8 : decode cX10_dueLeave 8 = .ok (.istore 4, 2) := by decide +kernel
theorem dX10_dueLeave_10 : decode cX10_dueLeave 10 = .ok (.iload 4, 2) := by decide +kernel
theorem dX10_dueLeave_12 : decode cX10_dueLeave 12 = .ok (.iload_n 2, 1) := by decide +kernel
theorem dX10_dueLeave_13 : decode cX10_dueLeave 13 = .ok (.if_icmp .ge 26, 3) := by decide +kernel
theorem dX10_dueLeave_16 : decode cX10_dueLeave 16 = .ok (.iload_n 3, 1) := by decide +kernel
theorem dX10_dueLeave_17 : decode cX10_dueLeave 17 = .ok (.aload_n 0, 1) := by decide +kernel
theorem dX10_dueLeave_18 : decode cX10_dueLeave 18 = .ok (.iload_n 1, 1) := by decide +kernel
theorem dX10_dueLeave_19 : decode cX10_dueLeave 19 = .ok (.iload 4, 2) := by decide +kernel
theorem dX10_dueLeave_21 : decode cX10_dueLeave 21 = .ok (.invokevirtual 253, 3) := by decide +kernel
theorem dX10_dueLeave_24 : decode cX10_dueLeave 24 = .ok (.iadd, 1) := by decide +kernel
theorem dX10_dueLeave_25 : decode cX10_dueLeave 25 = .ok (.aload_n 0, 1) := by decide +kernel
theorem dX10_dueLeave_26 : decode cX10_dueLeave 26 = .ok (.getfield 28, 3) := by decide +kernel
theorem dX10_dueLeave_29 : decode cX10_dueLeave 29 = .ok (.iload_n 1, 1) := by decide +kernel
theorem dX10_dueLeave_30 : decode cX10_dueLeave 30 = .ok (.iaload, 1) := by decide +kernel
theorem dX10_dueLeave_31 : decode cX10_dueLeave 31 = .ok (.iadd, 1) := by decide +kernel
theorem dX10_dueLeave_32 : decode cX10_dueLeave 32 = .ok (.istore_n 3, 1) := by decide +kernel
theorem dX10_dueLeave_33 : decode cX10_dueLeave 33 = .ok (.iinc 4 1, 3) := by decide +kernel
theorem dX10_dueLeave_36 : decode cX10_dueLeave 36 = .ok (.goto (-26), 3) := by decide +kernel
theorem dX10_dueLeave_39 : decode cX10_dueLeave 39 = .ok (.iload_n 3, 1) := by decide +kernel
theorem dX10_dueLeave_40 : decode cX10_dueLeave 40 = .ok (.ireturn, 1) := by decide +kernel
theorem dX10_dueCome_0 : decode cX10_dueCome 0 = .ok (.aload_n 0, 1) := by decide +kernel
theorem dX10_dueCome_1 : decode cX10_dueCome 1 = .ok (.iload_n 1, 1) := by decide +kernel
theorem dX10_dueCome_2 : decode cX10_dueCome 2 = .ok (.iload_n 2, 1) := by decide +kernel
theorem dX10_dueCome_3 : decode cX10_dueCome 3 = .ok (.iconst 1, 1) := by decide +kernel
theorem dX10_dueCome_4 : decode cX10_dueCome 4 = .ok (.isub, 1) := by decide +kernel
theorem dX10_dueCome_5 : decode cX10_dueCome 5 = .ok (.invokevirtual 256, 3) := by decide +kernel
theorem dX10_dueCome_8 : decode cX10_dueCome 8 = .ok (.aload_n 0, 1) := by decide +kernel
theorem dX10_dueCome_9 : decode cX10_dueCome 9 = .ok (.iload_n 1, 1) := by decide +kernel
theorem dX10_dueCome_10 : decode cX10_dueCome 10 = .ok (.iload_n 2, 1) := by decide +kernel
theorem dX10_dueCome_11 : decode cX10_dueCome 11 = .ok (.iconst 1, 1) := by decide +kernel
theorem dX10_dueCome_12 : decode cX10_dueCome 12 = .ok (.isub, 1) := by decide +kernel
theorem dX10_dueCome_13 : decode cX10_dueCome 13 = .ok (.invokevirtual 253, 3) := by decide +kernel
theorem dX10_dueCome_16 : decode cX10_dueCome 16 = .ok (.iadd, 1) := by decide +kernel
theorem dX10_dueCome_17 : decode cX10_dueCome 17 = .ok (.ireturn, 1) := by decide +kernel
theorem dX10_due_0 : decode cX10_due 0 = .ok (.aload_n 0, 1) := by decide +kernel
theorem dX10_due_1 : decode cX10_due 1 = .ok (.iload_n 1, 1) := by decide +kernel
theorem dX10_due_2 : decode cX10_due 2 = .ok (.invokevirtual 169, 3) := by decide +kernel
theorem dX10_due_5 : decode cX10_due 5 = .ok (.ifCond .eq 17, 3) := by decide +kernel
theorem dX10_due_8 : decode cX10_due 8 = .ok (.iload_n 2, 1) := by decide +kernel
theorem dX10_due_9 : decode cX10_due 9 = .ok (.ifCond .lt 13, 3) := by decide +kernel
theorem dX10_due_12 : decode cX10_due 12 = .ok (.iload_n 2, 1) := by decide +kernel
theorem dX10_due_13 : decode cX10_due 13 = .ok (.aload_n 0, 1) := by decide +kernel
