theorem dL_cell_0 : decode cL_cell 0 = .ok (.iload_n 1, 1) := by decide +kernel
theorem dL_cell_1 : decode cL_cell 1 = .ok (.aload_n 0, 1) := by decide +kernel
theorem dL_cell_2 : decode cL_cell 2 = .ok (.arraylength, 1) := by decide +kernel
theorem dL_cell_3 : decode cL_cell 3 = .ok (.if_icmp .ge 9, 3) := by decide +kernel
theorem dL_cell_6 : decode cL_cell 6 = .ok (.aload_n 0, 1) := by decide +kernel
theorem dL_cell_7 : decode cL_cell 7 = .ok (.iload_n 1, 1) := by decide +kernel
theorem dL_cell_8 : decode cL_cell 8 = .ok (.iaload, 1) := by decide +kernel
theorem dL_cell_9 : decode cL_cell 9 = .ok (.goto 11, 3) := by decide +kernel
theorem dL_cell_12 : decode cL_cell 12 = .ok (.sipush 7919, 3) := by decide +kernel
theorem dL_cell_15 : decode cL_cell 15 = .ok (.iload_n 1, 1) := by decide +kernel
theorem dL_cell_16 : decode cL_cell 16 = .ok (.imul, 1) := by decide +kernel
theorem dL_cell_17 : decode cL_cell 17 = .ok (.bipush 13, 2) := by decide +kernel
theorem dL_cell_19 : decode cL_cell 19 = .ok (.iadd, 1) := by decide +kernel
theorem dL_cell_20 : decode cL_cell 20 = .ok (.ldc 7, 2) := by decide +kernel
theorem dL_cell_22 : decode cL_cell 22 = .ok (.iand, 1) := by decide +kernel
theorem dL_cell_23 : decode cL_cell 23 = .ok (.ireturn, 1) := by decide +kernel
theorem dL_tell_0 : decode cL_tell 0 = .ok (.aload_n 1, 1) := by decide +kernel
theorem dL_tell_1 : decode cL_tell 1 = .ok (.iconst 0, 1) := by decide +kernel
theorem dL_tell_2 : decode cL_tell 2 = .ok (.invokestatic 14, 3) := by decide +kernel
theorem dL_tell_5 : decode cL_tell 5 = .ok (.istore 4, 2) := by decide +kernel
theorem dL_tell_7 : decode cL_tell 7 = .ok (.aload_n 2, 1) := by decide +kernel
theorem dL_tell_8 : decode cL_tell 8 = .ok (.iconst 0, 1) := by decide +kernel
theorem dL_tell_9 : decode cL_tell 9 = .ok (.iconst 1, 1) := by decide +kernel
theorem dL_tell_10 : decode cL_tell 10 = .ok (.iload 4, 2) := by decide +kernel
theorem dL_tell_12 : decode cL_tell 12 = .ok (.iconst 4, 1) := by decide +kernel
theorem dL_tell_13 : decode cL_tell 13 = .ok (.irem, 1) := by decide +kernel
theorem dL_tell_14 : decode cL_tell 14 = .ok (.iadd, 1) := by decide +kernel
theorem dL_tell_15 : decode cL_tell 15 = .ok (.iastore, 1) := by decide +kernel
theorem dL_tell_16 : decode cL_tell 16 = .ok (.aload_n 2, 1) := by decide +kernel
theorem dL_tell_17 : decode cL_tell 17 = .ok (.iconst 1, 1) := by decide +kernel
theorem dL_tell_18 : decode cL_tell 18 = .ok (.iconst 0, 1) := by decide +kernel
theorem dL_tell_19 : decode cL_tell 19 = .ok (.iastore, 1) := by decide +kernel
theorem dL_tell_20 : decode cL_tell 20 = .ok (.aload_n 2, 1) := by decide +kernel
theorem dL_tell_21 : decode cL_tell 21 = .ok (.iconst 2, 1) := by decide +kernel
theorem dL_tell_22 : decode cL_tell 22 = .ok (.iload 4, 2) := by decide +kernel
theorem dL_tell_24 : decode cL_tell 24 = .ok (.iconst 4, 1) := by decide +kernel
theorem dL_tell_25 : decode cL_tell 25 = .ok (.idiv, 1) := by decide +kernel
theorem dL_tell_26 : decode cL_tell 26 = .ok (.bipush 7, 2) := by decide +kernel
theorem dL_tell_28 : decode cL_tell 28 = .ok (.irem, 1) := by decide +kernel
theorem dL_tell_29 : decode cL_tell 29 = .ok (.iastore, 1) := by decide +kernel
theorem dL_tell_30 : decode cL_tell 30 = .ok (.iconst 0, 1) := by decide +kernel
theorem dL_tell_31 : decode cL_tell 31 = .ok (.istore 5, 2) := by decide +kernel
theorem dL_tell_33 : decode cL_tell 33 = .ok (.iload 5, 2) := by decide +kernel
theorem dL_tell_35 : decode cL_tell 35 = .ok (.aload_n 2, 1) := by decide +kernel
theorem dL_tell_36 : decode cL_tell 36 = .ok (.iconst 0, 1) := by decide +kernel
theorem dL_tell_37 : decode cL_tell 37 = .ok (.iaload, 1) := by decide +kernel
theorem dL_tell_38 : decode cL_tell 38 = .ok (.if_icmp .ge 96, 3) := by decide +kernel
theorem dL_tell_41 : decode cL_tell 41 = .ok (.aload_n 1, 1) := by decide +kernel
theorem dL_tell_42 : decode cL_tell 42 = .ok (.iconst 1, 1) := by decide +kernel
theorem dL_tell_43 : decode cL_tell 43 = .ok (.iload 5, 2) := by decide +kernel
theorem dL_tell_45 : decode cL_tell 45 = .ok (.iadd, 1) := by decide +kernel
theorem dL_tell_46 : decode cL_tell 46 = .ok (.invokestatic 14, 3) := by decide +kernel
theorem dL_tell_49 : decode cL_tell 49 = .ok (.istore 6, 2) := by decide +kernel
theorem dL_tell_51 : decode cL_tell 51 = .ok (.aload_n 2, 1) := by decide +kernel
theorem dL_tell_52 : decode cL_tell 52 = .ok (.iconst 3, 1) := by decide +kernel
theorem dL_tell_53 : decode cL_tell 53 = .ok (.iload 5, 2) := by decide +kernel
theorem dL_tell_55 : decode cL_tell 55 = .ok (.iadd, 1) := by decide +kernel
theorem dL_tell_56 : decode cL_tell 56 = .ok (.iload 6, 2) := by decide +kernel
theorem dL_tell_58 : decode cL_tell 58 = .ok (.iconst 2, 1) := by decide +kernel
theorem dL_tell_59 : decode cL_tell 59 = .ok (.irem, 1) := by decide +kernel
theorem dL_tell_60 : decode cL_tell 60 = .ok (.ifCond .ne 7, 3) := by decide +kernel
theorem dL_tell_63 : decode cL_tell 63 = .ok (.iconst 0, 1) := by decide +kernel
theorem dL_tell_64 : decode cL_tell 64 = .ok (.goto 9, 3) := by decide +kernel
theorem dL_tell_67 : decode cL_tell 67 = .ok (.iload 6, 2) := by decide +kernel
theorem dL_tell_69 : decode cL_tell 69 = .ok (.iconst 2, 1) := by decide +kernel
theorem dL_tell_70 : decode cL_tell 70 = .ok (.idiv, 1) := by decide +kernel
theorem dL_tell_71 : decode cL_tell 71 = .ok (.iconst 5, 1) := by decide +kernel
theorem dL_tell_72 : decode cL_tell 72 = .ok (.irem, 1) := by decide +kernel
theorem dL_tell_73 : decode cL_tell 73 = .ok (.iastore, 1) := by decide +kernel
theorem dL_tell_74 : decode cL_tell 74 = .ok (.aload_n 2, 1) := by decide +kernel
theorem dL_tell_75 : decode cL_tell 75 = .ok (.bipush 9, 2) := by decide +kernel
theorem dL_tell_77 : decode cL_tell 77 = .ok (.iload 5, 2) := by decide +kernel
theorem dL_tell_79 : decode cL_tell 79 = .ok (.iadd, 1) := by decide +kernel
theorem dL_tell_80 : decode cL_tell 80 = .ok (.iload 6, 2) := by decide +kernel
theorem dL_tell_82 : decode cL_tell 82 = .ok (.bipush 16, 2) := by decide +kernel
theorem dL_tell_84 : decode cL_tell 84 = .ok (.idiv, 1) := by decide +kernel
theorem dL_tell_85 : decode cL_tell 85 = .ok (.aload_n 2, 1) := by decide +kernel
theorem dL_tell_86 : decode cL_tell 86 = .ok (.iconst 3, 1) := by decide +kernel
theorem dL_tell_87 : decode cL_tell 87 = .ok (.iload 5, 2) := by decide +kernel
theorem dL_tell_89 : decode cL_tell 89 = .ok (.iadd, 1) := by decide +kernel
theorem dL_tell_90 : decode cL_tell 90 = .ok (.iaload, 1) := by decide +kernel
theorem dL_tell_91 : decode cL_tell 91 = .ok (.iconst 3, 1) := by decide +kernel
theorem dL_tell_92 : decode cL_tell 92 = .ok (.if_icmp .ne 8, 3) := by decide +kernel
theorem dL_tell_95 : decode cL_tell 95 = .ok (.bipush 6, 2) := by decide +kernel
theorem dL_tell_97 : decode cL_tell 97 = .ok (.goto 5, 3) := by decide +kernel
theorem dL_tell_100 : decode cL_tell 100 = .ok (.bipush 60, 2) := by decide +kernel
theorem dL_tell_102 : decode cL_tell 102 = .ok (.irem, 1) := by decide +kernel
theorem dL_tell_103 : decode cL_tell 103 = .ok (.iastore, 1) := by decide +kernel
theorem dL_tell_104 : decode cL_tell 104 = .ok (.aload_n 0, 1) := by decide +kernel
theorem dL_tell_105 : decode cL_tell 105 = .ok (.aload_n 2, 1) := by decide +kernel
theorem dL_tell_106 : decode cL_tell 106 = .ok (.iconst 3, 1) := by decide +kernel
theorem dL_tell_107 : decode cL_tell 107 = .ok (.iload 5, 2) := by decide +kernel
theorem dL_tell_109 : decode cL_tell 109 = .ok (.iadd, 1) := by decide +kernel
theorem dL_tell_110 : decode cL_tell 110 = .ok (.iaload, 1) := by decide +kernel
theorem dL_tell_111 : decode cL_tell 111 = .ok (.aload_n 2, 1) := by decide +kernel
theorem dL_tell_112 : decode cL_tell 112 = .ok (.bipush 9, 2) := by decide +kernel
theorem dL_tell_114 : decode cL_tell 114 = .ok (.iload 5, 2) := by decide +kernel
theorem dL_tell_116 : decode cL_tell 116 = .ok (.iadd, 1) := by decide +kernel
theorem dL_tell_117 : decode cL_tell 117 = .ok (.iaload, 1) := by decide +kernel
theorem dL_tell_118 : decode cL_tell 118 = .ok (.invokevirtual 20, 3) := by decide +kernel
theorem dL_tell_121 : decode cL_tell 121 = .ok (.iload 5, 2) := by decide +kernel
theorem dL_tell_123 : decode cL_tell 123 = .ok (.if_icmp .eq 5, 3) := by decide +kernel
theorem dL_tell_126 : decode cL_tell 126 = .ok (.iconst 0, 1) := by decide +kernel
theorem dL_tell_127 : decode cL_tell 127 = .ok (.ireturn, 1) := by decide +kernel
theorem dL_tell_128 : decode cL_tell 128 = .ok (.iinc 5 1, 3) := by decide +kernel
theorem dL_tell_131 : decode cL_tell 131 = .ok (.goto (-98), 3) := by decide +kernel
theorem dL_tell_134 : decode cL_tell 134 = .ok (.iload 4, 2) := by decide +kernel
theorem dL_tell_136 : decode cL_tell 136 = .ok (.bipush 32, 2) := by decide +kernel
theorem dL_tell_138 : decode cL_tell 138 = .ok (.idiv, 1) := by decide +kernel
theorem dL_tell_139 : decode cL_tell 139 = .ok (.bipush 6, 2) := by decide +kernel
theorem dL_tell_141 : decode cL_tell 141 = .ok (.irem, 1) := by decide +kernel
theorem dL_tell_142 : decode cL_tell 142 = .ok (.istore 5, 2) := by decide +kernel
theorem dL_tell_144 : decode cL_tell 144 = .ok (.iconst 0, 1) := by decide +kernel
theorem dL_tell_145 : decode cL_tell 145 = .ok (.istore 6, 2) := by decide +kernel
theorem dL_tell_147 : decode cL_tell 147 = .ok (.iload 6, 2) := by decide +kernel
theorem dL_tell_149 : decode cL_tell 149 = .ok (.iload 5, 2) := by decide +kernel
theorem dL_tell_151 : decode cL_tell 151 = .ok (.if_icmp .ge 191, 3) := by decide +kernel
theorem dL_tell_154 : decode cL_tell 154 = .ok (.aload_n 1, 1) := by decide +kernel
theorem dL_tell_155 : decode cL_tell 155 = .ok (.iconst 5, 1) := by decide +kernel
theorem dL_tell_156 : decode cL_tell 156 = .ok (.iload 6, 2) := by decide +kernel
theorem dL_tell_158 : decode cL_tell 158 = .ok (.iadd, 1) := by decide +kernel
theorem dL_tell_159 : decode cL_tell 159 = .ok (.invokestatic 14, 3) := by decide +kernel
theorem dL_tell_162 : decode cL_tell 162 = .ok (.istore 7, 2) := by decide +kernel
theorem dL_tell_164 : decode cL_tell 164 = .ok (.iload 7, 2) := by decide +kernel
theorem dL_tell_166 : decode cL_tell 166 = .ok (.aload_n 2, 1) := by decide +kernel
theorem dL_tell_167 : decode cL_tell 167 = .ok (.iconst 0, 1) := by decide +kernel
theorem dL_tell_168 : decode cL_tell 168 = .ok (.iaload, 1) := by decide +kernel
theorem dL_tell_169 : decode cL_tell 169 = .ok (.irem, 1) := by decide +kernel
theorem dL_tell_170 : decode cL_tell 170 = .ok (.istore 8, 2) := by decide +kernel
theorem dL_tell_172 : decode cL_tell 172 = .ok (.iconst 0, 1) := by decide +kernel
theorem dL_tell_173 : decode cL_tell 173 = .ok (.istore 9, 2) := by decide +kernel
theorem dL_tell_175 : decode cL_tell 175 = .ok (.iconst 0, 1) := by decide +kernel
theorem dL_tell_176 : decode cL_tell 176 = .ok (.istore 10, 2) := by decide +kernel
theorem dL_tell_178 : decode cL_tell 178 = .ok (.iload 10, 2) := by decide +kernel
theorem dL_tell_180 : decode cL_tell 180 = .ok (.aload_n 2, 1) := by decide +kernel
theorem dL_tell_181 : decode cL_tell 181 = .ok (.iconst 1, 1) := by decide +kernel
theorem dL_tell_182 : decode cL_tell 182 = .ok (.iaload, 1) := by decide +kernel
theorem dL_tell_183 : decode cL_tell 183 = .ok (.if_icmp .ge 31, 3) := by decide +kernel
theorem dL_tell_186 : decode cL_tell 186 = .ok (.iload 9, 2) := by decide +kernel
theorem dL_tell_188 : decode cL_tell 188 = .ok (.aload_n 2, 1) := by decide +kernel
theorem dL_tell_189 : decode cL_tell 189 = .ok (.bipush 33, 2) := by decide +kernel
theorem dL_tell_191 : decode cL_tell 191 = .ok (.iload 10, 2) := by decide +kernel
theorem dL_tell_193 : decode cL_tell 193 = .ok (.iadd, 1) := by decide +kernel
theorem dL_tell_194 : decode cL_tell 194 = .ok (.iaload, 1) := by decide +kernel
theorem dL_tell_195 : decode cL_tell 195 = .ok (.iload 8, 2) := by decide +kernel
theorem dL_tell_197 : decode cL_tell 197 = .ok (.if_icmp .ne 7, 3) := by decide +kernel
theorem dL_tell_200 : decode cL_tell 200 = .ok (.iconst 1, 1) := by decide +kernel
theorem dL_tell_201 : decode cL_tell 201 = .ok (.goto 4, 3) := by decide +kernel
theorem dL_tell_204 : decode cL_tell 204 = .ok (.iconst 0, 1) := by decide +kernel
theorem dL_tell_205 : decode cL_tell 205 = .ok (.iadd, 1) := by decide +kernel
theorem dL_tell_206 : decode cL_tell 206 = .ok (.istore 9, 2) := by decide +kernel
theorem dL_tell_208 : decode cL_tell 208 = .ok (.iinc 10 1, 3) := by decide +kernel
theorem dL_tell_211 : decode cL_tell 211 = .ok (.goto (-33), 3) := by decide +kernel
theorem dL_tell_214 : decode cL_tell 214 = .ok (.aload_n 2, 1) := by decide +kernel
theorem dL_tell_215 : decode cL_tell 215 = .ok (.iconst 1, 1) := by decide +kernel
theorem dL_tell_216 : decode cL_tell 216 = .ok (.iaload, 1) := by decide +kernel
theorem dL_tell_217 : decode cL_tell 217 = .ok (.istore 10, 2) := by decide +kernel
theorem dL_tell_219 : decode cL_tell 219 = .ok (.aload_n 2, 1) := by decide +kernel
theorem dL_tell_220 : decode cL_tell 220 = .ok (.bipush 15, 2) := by decide +kernel
theorem dL_tell_222 : decode cL_tell 222 = .ok (.iload 10, 2) := by decide +kernel
theorem dL_tell_224 : decode cL_tell 224 = .ok (.iadd, 1) := by decide +kernel
theorem dL_tell_225 : decode cL_tell 225 = .ok (.iload 7, 2) := by decide +kernel
theorem dL_tell_227 : decode cL_tell 227 = .ok (.bipush 8, 2) := by decide +kernel
theorem dL_tell_229 : decode cL_tell 229 = .ok (.idiv, 1) := by decide +kernel
theorem dL_tell_230 : decode cL_tell 230 = .ok (.bipush 10, 2) := by decide +kernel
theorem dL_tell_232 : decode cL_tell 232 = .ok (.irem, 1) := by decide +kernel
theorem dL_tell_233 : decode cL_tell 233 = .ok (.iastore, 1) := by decide +kernel
theorem dL_tell_234 : decode cL_tell 234 = .ok (.aload_n 2, 1) := by decide +kernel
theorem dL_tell_235 : decode cL_tell 235 = .ok (.bipush 21, 2) := by decide +kernel
theorem dL_tell_237 : decode cL_tell 237 = .ok (.iload 10, 2) := by decide +kernel
theorem dL_tell_239 : decode cL_tell 239 = .ok (.iadd, 1) := by decide +kernel
theorem dL_tell_240 : decode cL_tell 240 = .ok (.iload 7, 2) := by decide +kernel
theorem dL_tell_242 : decode cL_tell 242 = .ok (.sipush 128, 3) := by decide +kernel
theorem dL_tell_245 : decode cL_tell 245 = .ok (.idiv, 1) := by decide +kernel
theorem dL_tell_246 : decode cL_tell 246 = .ok (.iconst 5, 1) := by decide +kernel
theorem dL_tell_247 : decode cL_tell 247 = .ok (.irem, 1) := by decide +kernel
theorem dL_tell_248 : decode cL_tell 248 = .ok (.iastore, 1) := by decide +kernel
theorem dL_tell_249 : decode cL_tell 249 = .ok (.aload_n 2, 1) := by decide +kernel
theorem dL_tell_250 : decode cL_tell 250 = .ok (.bipush 27, 2) := by decide +kernel
theorem dL_tell_252 : decode cL_tell 252 = .ok (.iload 10, 2) := by decide +kernel
theorem dL_tell_254 : decode cL_tell 254 = .ok (.iadd, 1) := by decide +kernel
theorem dL_tell_255 : decode cL_tell 255 = .ok (.iload 7, 2) := by decide +kernel
theorem dL_tell_257 : decode cL_tell 257 = .ok (.sipush 1024, 3) := by decide +kernel
theorem dL_tell_260 : decode cL_tell 260 = .ok (.idiv, 1) := by decide +kernel
theorem dL_tell_261 : decode cL_tell 261 = .ok (.bipush 10, 2) := by decide +kernel
theorem dL_tell_263 : decode cL_tell 263 = .ok (.irem, 1) := by decide +kernel
theorem dL_tell_264 : decode cL_tell 264 = .ok (.iastore, 1) := by decide +kernel
theorem dL_tell_265 : decode cL_tell 265 = .ok (.aload_n 2, 1) := by decide +kernel
theorem dL_tell_266 : decode cL_tell 266 = .ok (.bipush 33, 2) := by decide +kernel
theorem dL_tell_268 : decode cL_tell 268 = .ok (.iload 10, 2) := by decide +kernel
theorem dL_tell_270 : decode cL_tell 270 = .ok (.iadd, 1) := by decide +kernel
theorem dL_tell_271 : decode cL_tell 271 = .ok (.iload 8, 2) := by decide +kernel
theorem dL_tell_273 : decode cL_tell 273 = .ok (.iastore, 1) := by decide +kernel
theorem dL_tell_274 : decode cL_tell 274 = .ok (.aload_n 0, 1) := by decide +kernel
theorem dL_tell_275 : decode cL_tell 275 = .ok (.iload 8, 2) := by decide +kernel
theorem dL_tell_277 : decode cL_tell 277 = .ok (.aload_n 2, 1) := by decide +kernel
theorem dL_tell_278 : decode cL_tell 278 = .ok (.bipush 15, 2) := by decide +kernel
theorem dL_tell_280 : decode cL_tell 280 = .ok (.iload 10, 2) := by decide +kernel
theorem dL_tell_282 : decode cL_tell 282 = .ok (.iadd, 1) := by decide +kernel
theorem dL_tell_283 : decode cL_tell 283 = .ok (.iaload, 1) := by decide +kernel
theorem dL_tell_284 : decode cL_tell 284 = .ok (.aload_n 2, 1) := by decide +kernel
theorem dL_tell_285 : decode cL_tell 285 = .ok (.bipush 21, 2) := by decide +kernel
theorem dL_tell_287 : decode cL_tell 287 = .ok (.iload 10, 2) := by decide +kernel
theorem dL_tell_289 : decode cL_tell 289 = .ok (.iadd, 1) := by decide +kernel
theorem dL_tell_290 : decode cL_tell 290 = .ok (.iaload, 1) := by decide +kernel
theorem dL_tell_291 : decode cL_tell 291 = .ok (.aload_n 2, 1) := by decide +kernel
theorem dL_tell_292 : decode cL_tell 292 = .ok (.bipush 27, 2) := by decide +kernel
theorem dL_tell_294 : decode cL_tell 294 = .ok (.iload 10, 2) := by decide +kernel
theorem dL_tell_296 : decode cL_tell 296 = .ok (.iadd, 1) := by decide +kernel
theorem dL_tell_297 : decode cL_tell 297 = .ok (.iaload, 1) := by decide +kernel
theorem dL_tell_298 : decode cL_tell 298 = .ok (.invokevirtual 24, 3) := by decide +kernel
theorem dL_tell_301 : decode cL_tell 301 = .ok (.iload 9, 2) := by decide +kernel
theorem dL_tell_303 : decode cL_tell 303 = .ok (.iconst 3, 1) := by decide +kernel
theorem dL_tell_304 : decode cL_tell 304 = .ok (.if_icmp .ne 8, 3) := by decide +kernel
theorem dL_tell_307 : decode cL_tell 307 = .ok (.bipush (-104), 2) := by decide +kernel
theorem dL_tell_309 : decode cL_tell 309 = .ok (.goto 5, 3) := by decide +kernel
theorem dL_tell_312 : decode cL_tell 312 = .ok (.iload 10, 2) := by decide +kernel
theorem dL_tell_314 : decode cL_tell 314 = .ok (.if_icmp .eq 5, 3) := by decide +kernel
theorem dL_tell_317 : decode cL_tell 317 = .ok (.iconst 0, 1) := by decide +kernel
theorem dL_tell_318 : decode cL_tell 318 = .ok (.ireturn, 1) := by decide +kernel
theorem dL_tell_319 : decode cL_tell 319 = .ok (.aload_n 2, 1) := by decide +kernel
theorem dL_tell_320 : decode cL_tell 320 = .ok (.iconst 1, 1) := by decide +kernel
theorem dL_tell_321 : decode cL_tell 321 = .ok (.dup2, 1) := by decide +kernel
theorem dL_tell_322 : decode cL_tell 322 = .ok (.iaload, 1) := by decide +kernel
theorem dL_tell_323 : decode cL_tell 323 = .ok (.iload 9, 2) := by decide +kernel
theorem dL_tell_325 : decode cL_tell 325 = .ok (.iconst 3, 1) := by decide +kernel
theorem dL_tell_326 : decode cL_tell 326 = .ok (.if_icmp .ne 7, 3) := by decide +kernel
theorem dL_tell_329 : decode cL_tell 329 = .ok (.iconst 0, 1) := by decide +kernel
theorem dL_tell_330 : decode cL_tell 330 = .ok (.goto 4, 3) := by decide +kernel
theorem dL_tell_333 : decode cL_tell 333 = .ok (.iconst 1, 1) := by decide +kernel
theorem dL_tell_334 : decode cL_tell 334 = .ok (.iadd, 1) := by decide +kernel
theorem dL_tell_335 : decode cL_tell 335 = .ok (.iastore, 1) := by decide +kernel
theorem dL_tell_336 : decode cL_tell 336 = .ok (.iinc 6 1, 3) := by decide +kernel
theorem dL_tell_339 : decode cL_tell 339 = .ok (.goto (-192), 3) := by decide +kernel
theorem dL_tell_342 : decode cL_tell 342 = .ok (.iconst 0, 1) := by decide +kernel
theorem dL_tell_343 : decode cL_tell 343 = .ok (.istore 6, 2) := by decide +kernel
theorem dL_tell_345 : decode cL_tell 345 = .ok (.iload 6, 2) := by decide +kernel
theorem dL_tell_347 : decode cL_tell 347 = .ok (.aload_n 2, 1) := by decide +kernel
theorem dL_tell_348 : decode cL_tell 348 = .ok (.iconst 2, 1) := by decide +kernel
theorem dL_tell_349 : decode cL_tell 349 = .ok (.iaload, 1) := by decide +kernel
theorem dL_tell_350 : decode cL_tell 350 = .ok (.if_icmp .ge 175, 3) := by decide +kernel
theorem dL_tell_353 : decode cL_tell 353 = .ok (.aload_n 1, 1) := by decide +kernel
theorem dL_tell_354 : decode cL_tell 354 = .ok (.bipush 11, 2) := by decide +kernel
theorem dL_tell_356 : decode cL_tell 356 = .ok (.iload 6, 2) := by decide +kernel
theorem dL_tell_358 : decode cL_tell 358 = .ok (.iadd, 1) := by decide +kernel
theorem dL_tell_359 : decode cL_tell 359 = .ok (.invokestatic 14, 3) := by decide +kernel
theorem dL_tell_362 : decode cL_tell 362 = .ok (.istore 7, 2) := by decide +kernel
theorem dL_tell_364 : decode cL_tell 364 = .ok (.bipush 6, 2) := by decide +kernel
theorem dL_tell_366 : decode cL_tell 366 = .ok (.iload 6, 2) := by decide +kernel
theorem dL_tell_368 : decode cL_tell 368 = .ok (.imul, 1) := by decide +kernel
theorem dL_tell_369 : decode cL_tell 369 = .ok (.istore 8, 2) := by decide +kernel
theorem dL_tell_371 : decode cL_tell 371 = .ok (.aload_n 3, 1) := by decide +kernel
theorem dL_tell_372 : decode cL_tell 372 = .ok (.iload 8, 2) := by decide +kernel
theorem dL_tell_374 : decode cL_tell 374 = .ok (.iload 7, 2) := by decide +kernel
theorem dL_tell_376 : decode cL_tell 376 = .ok (.bipush 10, 2) := by decide +kernel
theorem dL_tell_378 : decode cL_tell 378 = .ok (.irem, 1) := by decide +kernel
theorem dL_tell_379 : decode cL_tell 379 = .ok (.iastore, 1) := by decide +kernel
theorem dL_tell_380 : decode cL_tell 380 = .ok (.aload_n 3, 1) := by decide +kernel
theorem dL_tell_381 : decode cL_tell 381 = .ok (.iload 8, 2) := by decide +kernel
theorem dL_tell_383 : decode cL_tell 383 = .ok (.iconst 1, 1) := by decide +kernel
theorem dL_tell_384 : decode cL_tell 384 = .ok (.iadd, 1) := by decide +kernel
theorem dL_tell_385 : decode cL_tell 385 = .ok (.iconst 1, 1) := by decide +kernel
theorem dL_tell_386 : decode cL_tell 386 = .ok (.iload 7, 2) := by decide +kernel
theorem dL_tell_388 : decode cL_tell 388 = .ok (.bipush 16, 2) := by decide +kernel
theorem dL_tell_390 : decode cL_tell 390 = .ok (.idiv, 1) := by decide +kernel
theorem dL_tell_391 : decode cL_tell 391 = .ok (.bipush 50, 2) := by decide +kernel
theorem dL_tell_393 : decode cL_tell 393 = .ok (.irem, 1) := by decide +kernel
theorem dL_tell_394 : decode cL_tell 394 = .ok (.iadd, 1) := by decide +kernel
theorem dL_tell_395 : decode cL_tell 395 = .ok (.iastore, 1) := by decide +kernel
theorem dL_tell_396 : decode cL_tell 396 = .ok (.aload_n 3, 1) := by decide +kernel
theorem dL_tell_397 : decode cL_tell 397 = .ok (.iload 8, 2) := by decide +kernel
theorem dL_tell_399 : decode cL_tell 399 = .ok (.iconst 2, 1) := by decide +kernel
theorem dL_tell_400 : decode cL_tell 400 = .ok (.iadd, 1) := by decide +kernel
theorem dL_tell_401 : decode cL_tell 401 = .ok (.iload 7, 2) := by decide +kernel
theorem dL_tell_403 : decode cL_tell 403 = .ok (.sipush 1024, 3) := by decide +kernel
theorem dL_tell_406 : decode cL_tell 406 = .ok (.idiv, 1) := by decide +kernel
theorem dL_tell_407 : decode cL_tell 407 = .ok (.iconst 4, 1) := by decide +kernel
theorem dL_tell_408 : decode cL_tell 408 = .ok (.irem, 1) := by decide +kernel
theorem dL_tell_409 : decode cL_tell 409 = .ok (.iastore, 1) := by decide +kernel
theorem dL_tell_410 : decode cL_tell 410 = .ok (.aload_n 3, 1) := by decide +kernel
theorem dL_tell_411 : decode cL_tell 411 = .ok (.iload 8, 2) := by decide +kernel
theorem dL_tell_413 : decode cL_tell 413 = .ok (.iconst 3, 1) := by decide +kernel
theorem dL_tell_414 : decode cL_tell 414 = .ok (.iadd, 1) := by decide +kernel
theorem dL_tell_415 : decode cL_tell 415 = .ok (.iload 7, 2) := by decide +kernel
theorem dL_tell_417 : decode cL_tell 417 = .ok (.sipush 4096, 3) := by decide +kernel
theorem dL_tell_420 : decode cL_tell 420 = .ok (.idiv, 1) := by decide +kernel
theorem dL_tell_421 : decode cL_tell 421 = .ok (.bipush 25, 2) := by decide +kernel
theorem dL_tell_423 : decode cL_tell 423 = .ok (.irem, 1) := by decide +kernel
theorem dL_tell_424 : decode cL_tell 424 = .ok (.iastore, 1) := by decide +kernel
theorem dL_tell_425 : decode cL_tell 425 = .ok (.aload_n 3, 1) := by decide +kernel
theorem dL_tell_426 : decode cL_tell 426 = .ok (.iload 8, 2) := by decide +kernel
theorem dL_tell_428 : decode cL_tell 428 = .ok (.iconst 4, 1) := by decide +kernel
theorem dL_tell_429 : decode cL_tell 429 = .ok (.iadd, 1) := by decide +kernel
theorem dL_tell_430 : decode cL_tell 430 = .ok (.aload_n 2, 1) := by decide +kernel
theorem dL_tell_431 : decode cL_tell 431 = .ok (.iconst 1, 1) := by decide +kernel
theorem dL_tell_432 : decode cL_tell 432 = .ok (.iaload, 1) := by decide +kernel
theorem dL_tell_433 : decode cL_tell 433 = .ok (.ifCond .eq 13, 3) := by decide +kernel
theorem dL_tell_436 : decode cL_tell 436 = .ok (.iload 7, 2) := by decide +kernel
theorem dL_tell_438 : decode cL_tell 438 = .ok (.ldc 28, 2) := by decide +kernel
theorem dL_tell_440 : decode cL_tell 440 = .ok (.idiv, 1) := by decide +kernel
theorem dL_tell_441 : decode cL_tell 441 = .ok (.iconst 2, 1) := by decide +kernel
theorem dL_tell_442 : decode cL_tell 442 = .ok (.irem, 1) := by decide +kernel
theorem dL_tell_443 : decode cL_tell 443 = .ok (.ifCond .ne 7, 3) := by decide +kernel
theorem dL_tell_446 : decode cL_tell 446 = .ok (.iconst (-1), 1) := by decide +kernel
theorem dL_tell_447 : decode cL_tell 447 = .ok (.goto 12, 3) := by decide +kernel
theorem dL_tell_450 : decode cL_tell 450 = .ok (.iload 7, 2) := by decide +kernel
theorem dL_tell_452 : decode cL_tell 452 = .ok (.ldc 29, 2) := by decide +kernel
theorem dL_tell_454 : decode cL_tell 454 = .ok (.idiv, 1) := by decide +kernel
theorem dL_tell_455 : decode cL_tell 455 = .ok (.aload_n 2, 1) := by decide +kernel
theorem dL_tell_456 : decode cL_tell 456 = .ok (.iconst 1, 1) := by decide +kernel
theorem dL_tell_457 : decode cL_tell 457 = .ok (.iaload, 1) := by decide +kernel
theorem dL_tell_458 : decode cL_tell 458 = .ok (.irem, 1) := by decide +kernel
theorem dL_tell_459 : decode cL_tell 459 = .ok (.iastore, 1) := by decide +kernel
theorem dL_tell_460 : decode cL_tell 460 = .ok (.aload_n 3, 1) := by decide +kernel
theorem dL_tell_461 : decode cL_tell 461 = .ok (.iload 8, 2) := by decide +kernel
theorem dL_tell_463 : decode cL_tell 463 = .ok (.iconst 5, 1) := by decide +kernel
theorem dL_tell_464 : decode cL_tell 464 = .ok (.iadd, 1) := by decide +kernel
theorem dL_tell_465 : decode cL_tell 465 = .ok (.iload 7, 2) := by decide +kernel
theorem dL_tell_467 : decode cL_tell 467 = .ok (.ldc 30, 2) := by decide +kernel
theorem dL_tell_469 : decode cL_tell 469 = .ok (.idiv, 1) := by decide +kernel
theorem dL_tell_470 : decode cL_tell 470 = .ok (.bipush 10, 2) := by decide +kernel
theorem dL_tell_472 : decode cL_tell 472 = .ok (.irem, 1) := by decide +kernel
theorem dL_tell_473 : decode cL_tell 473 = .ok (.iastore, 1) := by decide +kernel
theorem dL_tell_474 : decode cL_tell 474 = .ok (.aload_n 0, 1) := by decide +kernel
theorem dL_tell_475 : decode cL_tell 475 = .ok (.aload_n 3, 1) := by decide +kernel
theorem dL_tell_476 : decode cL_tell 476 = .ok (.iload 8, 2) := by decide +kernel
theorem dL_tell_478 : decode cL_tell 478 = .ok (.iaload, 1) := by decide +kernel
theorem dL_tell_479 : decode cL_tell 479 = .ok (.aload_n 3, 1) := by decide +kernel
theorem dL_tell_480 : decode cL_tell 480 = .ok (.iload 8, 2) := by decide +kernel
theorem dL_tell_482 : decode cL_tell 482 = .ok (.iconst 1, 1) := by decide +kernel
theorem dL_tell_483 : decode cL_tell 483 = .ok (.iadd, 1) := by decide +kernel
theorem dL_tell_484 : decode cL_tell 484 = .ok (.iaload, 1) := by decide +kernel
theorem dL_tell_485 : decode cL_tell 485 = .ok (.aload_n 3, 1) := by decide +kernel
theorem dL_tell_486 : decode cL_tell 486 = .ok (.iload 8, 2) := by decide +kernel
theorem dL_tell_488 : decode cL_tell 488 = .ok (.iconst 2, 1) := by decide +kernel
theorem dL_tell_489 : decode cL_tell 489 = .ok (.iadd, 1) := by decide +kernel
theorem dL_tell_490 : decode cL_tell 490 = .ok (.iaload, 1) := by decide +kernel
theorem dL_tell_491 : decode cL_tell 491 = .ok (.aload_n 3, 1) := by decide +kernel
theorem dL_tell_492 : decode cL_tell 492 = .ok (.iload 8, 2) := by decide +kernel
theorem dL_tell_494 : decode cL_tell 494 = .ok (.iconst 3, 1) := by decide +kernel
theorem dL_tell_495 : decode cL_tell 495 = .ok (.iadd, 1) := by decide +kernel
theorem dL_tell_496 : decode cL_tell 496 = .ok (.iaload, 1) := by decide +kernel
theorem dL_tell_497 : decode cL_tell 497 = .ok (.aload_n 3, 1) := by decide +kernel
theorem dL_tell_498 : decode cL_tell 498 = .ok (.iload 8, 2) := by decide +kernel
theorem dL_tell_500 : decode cL_tell 500 = .ok (.iconst 4, 1) := by decide +kernel
theorem dL_tell_501 : decode cL_tell 501 = .ok (.iadd, 1) := by decide +kernel
theorem dL_tell_502 : decode cL_tell 502 = .ok (.iaload, 1) := by decide +kernel
theorem dL_tell_503 : decode cL_tell 503 = .ok (.aload_n 3, 1) := by decide +kernel
theorem dL_tell_504 : decode cL_tell 504 = .ok (.iload 8, 2) := by decide +kernel
theorem dL_tell_506 : decode cL_tell 506 = .ok (.iconst 5, 1) := by decide +kernel
theorem dL_tell_507 : decode cL_tell 507 = .ok (.iadd, 1) := by decide +kernel
theorem dL_tell_508 : decode cL_tell 508 = .ok (.iaload, 1) := by decide +kernel
theorem dL_tell_509 : decode cL_tell 509 = .ok (.invokevirtual 31, 3) := by decide +kernel
theorem dL_tell_512 : decode cL_tell 512 = .ok (.iload 6, 2) := by decide +kernel
theorem dL_tell_514 : decode cL_tell 514 = .ok (.if_icmp .eq 5, 3) := by decide +kernel
theorem dL_tell_517 : decode cL_tell 517 = .ok (.iconst 0, 1) := by decide +kernel
theorem dL_tell_518 : decode cL_tell 518 = .ok (.ireturn, 1) := by decide +kernel
theorem dL_tell_519 : decode cL_tell 519 = .ok (.iinc 6 1, 3) := by decide +kernel
theorem dL_tell_522 : decode cL_tell 522 = .ok (.goto (-177), 3) := by decide +kernel
theorem dL_tell_525 : decode cL_tell 525 = .ok (.iconst 1, 1) := by decide +kernel
theorem dL_tell_526 : decode cL_tell 526 = .ok (.ireturn, 1) := by decide +kernel
theorem dL_open_0 : decode cL_open 0 = .ok (.aload_n 0, 1) := by decide +kernel
theorem dL_open_1 : decode cL_open 1 = .ok (.bipush 33, 2) := by decide +kernel
theorem dL_open_3 : decode cL_open 3 = .ok (.iload_n 1, 1) := by decide +kernel
theorem dL_open_4 : decode cL_open 4 = .ok (.iadd, 1) := by decide +kernel
theorem dL_open_5 : decode cL_open 5 = .ok (.iaload, 1) := by decide +kernel
theorem dL_open_6 : decode cL_open 6 = .ok (.istore_n 2, 1) := by decide +kernel
theorem dL_open_7 : decode cL_open 7 = .ok (.aload_n 0, 1) := by decide +kernel
theorem dL_open_8 : decode cL_open 8 = .ok (.iconst 3, 1) := by decide +kernel
theorem dL_open_9 : decode cL_open 9 = .ok (.iload_n 2, 1) := by decide +kernel
theorem dL_open_10 : decode cL_open 10 = .ok (.iadd, 1) := by decide +kernel
theorem dL_open_11 : decode cL_open 11 = .ok (.iaload, 1) := by decide +kernel
theorem dL_open_12 : decode cL_open 12 = .ok (.iconst 4, 1) := by decide +kernel
theorem dL_open_13 : decode cL_open 13 = .ok (.if_icmp .ne 13, 3) := by decide +kernel
theorem dL_open_16 : decode cL_open 16 = .ok (.aload_n 0, 1) := by decide +kernel
theorem dL_open_17 : decode cL_open 17 = .ok (.bipush 39, 2) := by decide +kernel
theorem dL_open_19 : decode cL_open 19 = .ok (.iload_n 2, 1) := by decide +kernel
theorem dL_open_20 : decode cL_open 20 = .ok (.iadd, 1) := by decide +kernel
theorem dL_open_21 : decode cL_open 21 = .ok (.iaload, 1) := by decide +kernel
theorem dL_open_22 : decode cL_open 22 = .ok (.iconst 1, 1) := by decide +kernel
theorem dL_open_23 : decode cL_open 23 = .ok (.if_icmp .ne 7, 3) := by decide +kernel
theorem dL_open_26 : decode cL_open 26 = .ok (.iconst 1, 1) := by decide +kernel
theorem dL_open_27 : decode cL_open 27 = .ok (.goto 4, 3) := by decide +kernel
theorem dL_open_30 : decode cL_open 30 = .ok (.iconst 0, 1) := by decide +kernel
theorem dL_open_31 : decode cL_open 31 = .ok (.ireturn, 1) := by decide +kernel
theorem dL_is_0 : decode cL_is 0 = .ok (.aload_n 0, 1) := by decide +kernel
theorem dL_is_1 : decode cL_is 1 = .ok (.bipush 15, 2) := by decide +kernel
theorem dL_is_3 : decode cL_is 3 = .ok (.iload_n 3, 1) := by decide +kernel
theorem dL_is_4 : decode cL_is 4 = .ok (.iadd, 1) := by decide +kernel
theorem dL_is_5 : decode cL_is 5 = .ok (.iaload, 1) := by decide +kernel
theorem dL_is_6 : decode cL_is 6 = .ok (.aload_n 1, 1) := by decide +kernel
theorem dL_is_7 : decode cL_is 7 = .ok (.bipush 6, 2) := by decide +kernel
theorem dL_is_9 : decode cL_is 9 = .ok (.iload_n 2, 1) := by decide +kernel
theorem dL_is_10 : decode cL_is 10 = .ok (.imul, 1) := by decide +kernel
theorem dL_is_11 : decode cL_is 11 = .ok (.iaload, 1) := by decide +kernel
theorem dL_is_12 : decode cL_is 12 = .ok (.isub, 1) := by decide +kernel
theorem dL_is_13 : decode cL_is 13 = .ok (.istore 4, 2) := by decide +kernel
theorem dL_is_15 : decode cL_is 15 = .ok (.aload_n 0, 1) := by decide +kernel
theorem dL_is_16 : decode cL_is 16 = .ok (.bipush 27, 2) := by decide +kernel
theorem dL_is_18 : decode cL_is 18 = .ok (.iload_n 3, 1) := by decide +kernel
theorem dL_is_19 : decode cL_is 19 = .ok (.iadd, 1) := by decide +kernel
theorem dL_is_20 : decode cL_is 20 = .ok (.iaload, 1) := by decide +kernel
theorem dL_is_21 : decode cL_is 21 = .ok (.aload_n 1, 1) := by decide +kernel
theorem dL_is_22 : decode cL_is 22 = .ok (.bipush 6, 2) := by decide +kernel
theorem dL_is_24 : decode cL_is 24 = .ok (.iload_n 2, 1) := by decide +kernel
theorem dL_is_25 : decode cL_is 25 = .ok (.imul, 1) := by decide +kernel
theorem dL_is_26 : decode cL_is 26 = .ok (.iconst 2, 1) := by decide +kernel
theorem dL_is_27 : decode cL_is 27 = .ok (.iadd, 1) := by decide +kernel
theorem dL_is_28 : decode cL_is 28 = .ok (.iaload, 1) := by decide +kernel
theorem dL_is_29 : decode cL_is 29 = .ok (.iload 4, 2) := by decide +kernel
theorem dL_is_31 : decode cL_is 31 = .ok (.ifCond .ge 9, 3) := by decide +kernel
theorem dL_is_34 : decode cL_is 34 = .ok (.iload 4, 2) := by decide +kernel
theorem dL_is_36 : decode cL_is 36 = .ok (.ineg, 1) := by decide +kernel
theorem dL_is_37 : decode cL_is 37 = .ok (.goto 5, 3) := by decide +kernel
theorem dL_is_40 : decode cL_is 40 = .ok (.iload 4, 2) := by decide +kernel
theorem dL_is_42 : decode cL_is 42 = .ok (.imul, 1) := by decide +kernel
theorem dL_is_43 : decode cL_is 43 = .ok (.iadd, 1) := by decide +kernel
theorem dL_is_44 : decode cL_is 44 = .ok (.aload_n 1, 1) := by decide +kernel
theorem dL_is_45 : decode cL_is 45 = .ok (.bipush 6, 2) := by decide +kernel
theorem dL_is_47 : decode cL_is 47 = .ok (.iload_n 2, 1) := by decide +kernel
theorem dL_is_48 : decode cL_is 48 = .ok (.imul, 1) := by decide +kernel
theorem dL_is_49 : decode cL_is 49 = .ok (.iconst 4, 1) := by decide +kernel
theorem dL_is_50 : decode cL_is 50 = .ok (.iadd, 1) := by decide +kernel
theorem dL_is_51 : decode cL_is 51 = .ok (.iaload, 1) := by decide +kernel
theorem dL_is_52 : decode cL_is 52 = .ok (.iload_n 3, 1) := by decide +kernel
theorem dL_is_53 : decode cL_is 53 = .ok (.if_icmp .ne 14, 3) := by decide +kernel
theorem dL_is_56 : decode cL_is 56 = .ok (.aload_n 1, 1) := by decide +kernel
theorem dL_is_57 : decode cL_is 57 = .ok (.bipush 6, 2) := by decide +kernel
theorem dL_is_59 : decode cL_is 59 = .ok (.iload_n 2, 1) := by decide +kernel
theorem dL_is_60 : decode cL_is 60 = .ok (.imul, 1) := by decide +kernel
theorem dL_is_61 : decode cL_is 61 = .ok (.iconst 5, 1) := by decide +kernel
theorem dL_is_62 : decode cL_is 62 = .ok (.iadd, 1) := by decide +kernel
theorem dL_is_63 : decode cL_is 63 = .ok (.iaload, 1) := by decide +kernel
theorem dL_is_64 : decode cL_is 64 = .ok (.goto 4, 3) := by decide +kernel
theorem dL_is_67 : decode cL_is 67 = .ok (.iconst 0, 1) := by decide +kernel
theorem dL_is_68 : decode cL_is 68 = .ok (.isub, 1) := by decide +kernel
theorem dL_is_69 : decode cL_is 69 = .ok (.ireturn, 1) := by decide +kernel
theorem dL_goes_0 : decode cL_goes 0 = .ok (.iconst (-1), 1) := by decide +kernel
theorem dL_goes_1 : decode cL_goes 1 = .ok (.istore 4, 2) := by decide +kernel
theorem dL_goes_3 : decode cL_goes 3 = .ok (.aload_n 0, 1) := by decide +kernel
theorem dL_goes_4 : decode cL_goes 4 = .ok (.iconst 1, 1) := by decide +kernel
theorem dL_goes_5 : decode cL_goes 5 = .ok (.iaload, 1) := by decide +kernel
theorem dL_goes_6 : decode cL_goes 6 = .ok (.iconst 1, 1) := by decide +kernel
theorem dL_goes_7 : decode cL_goes 7 = .ok (.isub, 1) := by decide +kernel
theorem dL_goes_8 : decode cL_goes 8 = .ok (.istore 5, 2) := by decide +kernel
theorem dL_goes_10 : decode cL_goes 10 = .ok (.iload 5, 2) := by decide +kernel
theorem dL_goes_12 : decode cL_goes 12 = .ok (.ifCond .lt 88, 3) := by decide +kernel
theorem dL_goes_15 : decode cL_goes 15 = .ok (.iload 5, 2) := by decide +kernel
theorem dL_goes_17 : decode cL_goes 17 = .ok (.iload_n 3, 1) := by decide +kernel
theorem dL_goes_18 : decode cL_goes 18 = .ok (.if_icmp .eq 35, 3) := by decide +kernel
theorem dL_goes_21 : decode cL_goes 21 = .ok (.aload_n 0, 1) := by decide +kernel
theorem dL_goes_22 : decode cL_goes 22 = .ok (.iload 5, 2) := by decide +kernel
theorem dL_goes_24 : decode cL_goes 24 = .ok (.invokestatic 35, 3) := by decide +kernel
theorem dL_goes_27 : decode cL_goes 27 = .ok (.ifCond .eq 26, 3) := by decide +kernel
theorem dL_goes_30 : decode cL_goes 30 = .ok (.aload_n 0, 1) := by decide +kernel
theorem dL_goes_31 : decode cL_goes 31 = .ok (.aload_n 1, 1) := by decide +kernel
theorem dL_goes_32 : decode cL_goes 32 = .ok (.iload_n 2, 1) := by decide +kernel
theorem dL_goes_33 : decode cL_goes 33 = .ok (.iload 5, 2) := by decide +kernel
theorem dL_goes_35 : decode cL_goes 35 = .ok (.invokestatic 39, 3) := by decide +kernel
theorem dL_goes_38 : decode cL_goes 38 = .ok (.aload_n 1, 1) := by decide +kernel
theorem dL_goes_39 : decode cL_goes 39 = .ok (.bipush 6, 2) := by decide +kernel
theorem dL_goes_41 : decode cL_goes 41 = .ok (.iload_n 2, 1) := by decide +kernel
theorem dL_goes_42 : decode cL_goes 42 = .ok (.imul, 1) := by decide +kernel
theorem dL_goes_43 : decode cL_goes 43 = .ok (.iconst 3, 1) := by decide +kernel
theorem dL_goes_44 : decode cL_goes 44 = .ok (.iadd, 1) := by decide +kernel
theorem dL_goes_45 : decode cL_goes 45 = .ok (.iaload, 1) := by decide +kernel
theorem dL_goes_46 : decode cL_goes 46 = .ok (.if_icmp .gt 7, 3) := by decide +kernel
theorem dL_goes_49 : decode cL_goes 49 = .ok (.iconst 1, 1) := by decide +kernel
theorem dL_goes_50 : decode cL_goes 50 = .ok (.goto 4, 3) := by decide +kernel
theorem dL_goes_53 : decode cL_goes 53 = .ok (.iconst 0, 1) := by decide +kernel
theorem dL_goes_54 : decode cL_goes 54 = .ok (.istore 6, 2) := by decide +kernel
theorem dL_goes_56 : decode cL_goes 56 = .ok (.iload 6, 2) := by decide +kernel
theorem dL_goes_58 : decode cL_goes 58 = .ok (.ifCond .eq 32, 3) := by decide +kernel
theorem dL_goes_61 : decode cL_goes 61 = .ok (.iload 4, 2) := by decide +kernel
theorem dL_goes_63 : decode cL_goes 63 = .ok (.ifCond .lt 22, 3) := by decide +kernel
theorem dL_goes_66 : decode cL_goes 66 = .ok (.aload_n 0, 1) := by decide +kernel
theorem dL_goes_67 : decode cL_goes 67 = .ok (.aload_n 1, 1) := by decide +kernel
theorem dL_goes_68 : decode cL_goes 68 = .ok (.iload_n 2, 1) := by decide +kernel
theorem dL_goes_69 : decode cL_goes 69 = .ok (.iload 5, 2) := by decide +kernel
theorem dL_goes_71 : decode cL_goes 71 = .ok (.invokestatic 39, 3) := by decide +kernel
theorem dL_goes_74 : decode cL_goes 74 = .ok (.aload_n 0, 1) := by decide +kernel
theorem dL_goes_75 : decode cL_goes 75 = .ok (.aload_n 1, 1) := by decide +kernel
theorem dL_goes_76 : decode cL_goes 76 = .ok (.iload_n 2, 1) := by decide +kernel
theorem dL_goes_77 : decode cL_goes 77 = .ok (.iload 4, 2) := by decide +kernel
theorem dL_goes_79 : decode cL_goes 79 = .ok (.invokestatic 39, 3) := by decide +kernel
theorem dL_goes_82 : decode cL_goes 82 = .ok (.if_icmp .gt 8, 3) := by decide +kernel
theorem dL_goes_85 : decode cL_goes 85 = .ok (.iload 5, 2) := by decide +kernel
theorem dL_goes_87 : decode cL_goes 87 = .ok (.goto 5, 3) := by decide +kernel
theorem dL_goes_90 : decode cL_goes 90 = .ok (.iload 4, 2) := by decide +kernel
theorem dL_goes_92 : decode cL_goes 92 = .ok (.istore 4, 2) := by decide +kernel
theorem dL_goes_94 : decode cL_goes 94 = .ok (.iinc 5 (-1), 3) := by decide +kernel
theorem dL_goes_97 : decode cL_goes 97 = .ok (.goto (-87), 3) := by decide +kernel
theorem dL_goes_100 : decode cL_goes 100 = .ok (.iload 4, 2) := by decide +kernel
theorem dL_goes_102 : decode cL_goes 102 = .ok (.ireturn, 1) := by decide +kernel
theorem dL_spare_0 : decode cL_spare 0 = .ok (.aload_n 0, 1) := by decide +kernel
theorem dL_spare_1 : decode cL_spare 1 = .ok (.aload_n 1, 1) := by decide +kernel
theorem dL_spare_2 : decode cL_spare 2 = .ok (.iload_n 2, 1) := by decide +kernel
theorem dL_spare_3 : decode cL_spare 3 = .ok (.iconst (-1), 1) := by decide +kernel
theorem dL_spare_4 : decode cL_spare 4 = .ok (.invokestatic 43, 3) := by decide +kernel
theorem dL_spare_7 : decode cL_spare 7 = .ok (.istore_n 3, 1) := by decide +kernel
theorem dL_spare_8 : decode cL_spare 8 = .ok (.iload_n 3, 1) := by decide +kernel
theorem dL_spare_9 : decode cL_spare 9 = .ok (.ifCond .ge 7, 3) := by decide +kernel
theorem dL_spare_12 : decode cL_spare 12 = .ok (.iconst 0, 1) := by decide +kernel
theorem dL_spare_13 : decode cL_spare 13 = .ok (.goto 19, 3) := by decide +kernel
theorem dL_spare_16 : decode cL_spare 16 = .ok (.aload_n 1, 1) := by decide +kernel
theorem dL_spare_17 : decode cL_spare 17 = .ok (.bipush 6, 2) := by decide +kernel
theorem dL_spare_19 : decode cL_spare 19 = .ok (.iload_n 2, 1) := by decide +kernel
theorem dL_spare_20 : decode cL_spare 20 = .ok (.imul, 1) := by decide +kernel
theorem dL_spare_21 : decode cL_spare 21 = .ok (.iconst 3, 1) := by decide +kernel
theorem dL_spare_22 : decode cL_spare 22 = .ok (.iadd, 1) := by decide +kernel
theorem dL_spare_23 : decode cL_spare 23 = .ok (.iaload, 1) := by decide +kernel
theorem dL_spare_24 : decode cL_spare 24 = .ok (.aload_n 0, 1) := by decide +kernel
theorem dL_spare_25 : decode cL_spare 25 = .ok (.aload_n 1, 1) := by decide +kernel
theorem dL_spare_26 : decode cL_spare 26 = .ok (.iload_n 2, 1) := by decide +kernel
theorem dL_spare_27 : decode cL_spare 27 = .ok (.iload_n 3, 1) := by decide +kernel
theorem dL_spare_28 : decode cL_spare 28 = .ok (.invokestatic 39, 3) := by decide +kernel
theorem dL_spare_31 : decode cL_spare 31 = .ok (.isub, 1) := by decide +kernel
theorem dL_spare_32 : decode cL_spare 32 = .ok (.ireturn, 1) := by decide +kernel
theorem dL_sold_0 : decode cL_sold 0 = .ok (.iconst 0, 1) := by decide +kernel
theorem dL_sold_1 : decode cL_sold 1 = .ok (.istore_n 3, 1) := by decide +kernel
theorem dL_sold_2 : decode cL_sold 2 = .ok (.iconst 0, 1) := by decide +kernel
theorem dL_sold_3 : decode cL_sold 3 = .ok (.istore 4, 2) := by decide +kernel
theorem dL_sold_5 : decode cL_sold 5 = .ok (.iload 4, 2) := by decide +kernel
theorem dL_sold_7 : decode cL_sold 7 = .ok (.aload_n 0, 1) := by decide +kernel
theorem dL_sold_8 : decode cL_sold 8 = .ok (.iconst 2, 1) := by decide +kernel
theorem dL_sold_9 : decode cL_sold 9 = .ok (.iaload, 1) := by decide +kernel
theorem dL_sold_10 : decode cL_sold 10 = .ok (.if_icmp .ge 37, 3) := by decide +kernel
theorem dL_sold_13 : decode cL_sold 13 = .ok (.iload_n 3, 1) := by decide +kernel
theorem dL_sold_14 : decode cL_sold 14 = .ok (.aload_n 0, 1) := by decide +kernel
theorem dL_sold_15 : decode cL_sold 15 = .ok (.aload_n 1, 1) := by decide +kernel
theorem dL_sold_16 : decode cL_sold 16 = .ok (.iload 4, 2) := by decide +kernel
theorem dL_sold_18 : decode cL_sold 18 = .ok (.iconst (-1), 1) := by decide +kernel
theorem dL_sold_19 : decode cL_sold 19 = .ok (.invokestatic 43, 3) := by decide +kernel
theorem dL_sold_22 : decode cL_sold 22 = .ok (.iload_n 2, 1) := by decide +kernel
theorem dL_sold_23 : decode cL_sold 23 = .ok (.if_icmp .ne 15, 3) := by decide +kernel
theorem dL_sold_26 : decode cL_sold 26 = .ok (.aload_n 1, 1) := by decide +kernel
theorem dL_sold_27 : decode cL_sold 27 = .ok (.bipush 6, 2) := by decide +kernel
theorem dL_sold_29 : decode cL_sold 29 = .ok (.iload 4, 2) := by decide +kernel
theorem dL_sold_31 : decode cL_sold 31 = .ok (.imul, 1) := by decide +kernel
theorem dL_sold_32 : decode cL_sold 32 = .ok (.iconst 1, 1) := by decide +kernel
theorem dL_sold_33 : decode cL_sold 33 = .ok (.iadd, 1) := by decide +kernel
theorem dL_sold_34 : decode cL_sold 34 = .ok (.iaload, 1) := by decide +kernel
theorem dL_sold_35 : decode cL_sold 35 = .ok (.goto 4, 3) := by decide +kernel
theorem dL_sold_38 : decode cL_sold 38 = .ok (.iconst 0, 1) := by decide +kernel
theorem dL_sold_39 : decode cL_sold 39 = .ok (.iadd, 1) := by decide +kernel
theorem dL_sold_40 : decode cL_sold 40 = .ok (.istore_n 3, 1) := by decide +kernel
theorem dL_sold_41 : decode cL_sold 41 = .ok (.iinc 4 1, 3) := by decide +kernel
theorem dL_sold_44 : decode cL_sold 44 = .ok (.goto (-39), 3) := by decide +kernel
theorem dL_sold_47 : decode cL_sold 47 = .ok (.iload_n 3, 1) := by decide +kernel
theorem dL_sold_48 : decode cL_sold 48 = .ok (.ireturn, 1) := by decide +kernel
theorem dL_profit_0 : decode cL_profit 0 = .ok (.iconst 0, 1) := by decide +kernel
theorem dL_profit_1 : decode cL_profit 1 = .ok (.istore_n 3, 1) := by decide +kernel
theorem dL_profit_2 : decode cL_profit 2 = .ok (.iconst 0, 1) := by decide +kernel
theorem dL_profit_3 : decode cL_profit 3 = .ok (.istore 4, 2) := by decide +kernel
theorem dL_profit_5 : decode cL_profit 5 = .ok (.iload 4, 2) := by decide +kernel
theorem dL_profit_7 : decode cL_profit 7 = .ok (.aload_n 0, 1) := by decide +kernel
theorem dL_profit_8 : decode cL_profit 8 = .ok (.iconst 1, 1) := by decide +kernel
theorem dL_profit_9 : decode cL_profit 9 = .ok (.iaload, 1) := by decide +kernel
theorem dL_profit_10 : decode cL_profit 10 = .ok (.if_icmp .ge 90, 3) := by decide +kernel
theorem dL_profit_13 : decode cL_profit 13 = .ok (.aload_n 0, 1) := by decide +kernel
theorem dL_profit_14 : decode cL_profit 14 = .ok (.bipush 33, 2) := by decide +kernel
theorem dL_profit_16 : decode cL_profit 16 = .ok (.iload 4, 2) := by decide +kernel
theorem dL_profit_18 : decode cL_profit 18 = .ok (.iadd, 1) := by decide +kernel
theorem dL_profit_19 : decode cL_profit 19 = .ok (.iaload, 1) := by decide +kernel
theorem dL_profit_20 : decode cL_profit 20 = .ok (.iload_n 2, 1) := by decide +kernel
theorem dL_profit_21 : decode cL_profit 21 = .ok (.if_icmp .ne 73, 3) := by decide +kernel
theorem dL_profit_24 : decode cL_profit 24 = .ok (.aload_n 0, 1) := by decide +kernel
theorem dL_profit_25 : decode cL_profit 25 = .ok (.iconst 3, 1) := by decide +kernel
theorem dL_profit_26 : decode cL_profit 26 = .ok (.iload_n 2, 1) := by decide +kernel
theorem dL_profit_27 : decode cL_profit 27 = .ok (.iadd, 1) := by decide +kernel
theorem dL_profit_28 : decode cL_profit 28 = .ok (.iaload, 1) := by decide +kernel
theorem dL_profit_29 : decode cL_profit 29 = .ok (.iconst 3, 1) := by decide +kernel
theorem dL_profit_30 : decode cL_profit 30 = .ok (.if_icmp .ne 12, 3) := by decide +kernel
theorem dL_profit_33 : decode cL_profit 33 = .ok (.aload_n 0, 1) := by decide +kernel
theorem dL_profit_34 : decode cL_profit 34 = .ok (.bipush 9, 2) := by decide +kernel
theorem dL_profit_36 : decode cL_profit 36 = .ok (.iload_n 2, 1) := by decide +kernel
theorem dL_profit_37 : decode cL_profit 37 = .ok (.iadd, 1) := by decide +kernel
theorem dL_profit_38 : decode cL_profit 38 = .ok (.iaload, 1) := by decide +kernel
theorem dL_profit_39 : decode cL_profit 39 = .ok (.goto 4, 3) := by decide +kernel
theorem dL_profit_42 : decode cL_profit 42 = .ok (.iconst 0, 1) := by decide +kernel
theorem dL_profit_43 : decode cL_profit 43 = .ok (.istore 5, 2) := by decide +kernel
theorem dL_profit_45 : decode cL_profit 45 = .ok (.aload_n 0, 1) := by decide +kernel
theorem dL_profit_46 : decode cL_profit 46 = .ok (.bipush 21, 2) := by decide +kernel
theorem dL_profit_48 : decode cL_profit 48 = .ok (.iload 4, 2) := by decide +kernel
theorem dL_profit_50 : decode cL_profit 50 = .ok (.iadd, 1) := by decide +kernel
theorem dL_profit_51 : decode cL_profit 51 = .ok (.iaload, 1) := by decide +kernel
theorem dL_profit_52 : decode cL_profit 52 = .ok (.iload 5, 2) := by decide +kernel
theorem dL_profit_54 : decode cL_profit 54 = .ok (.if_icmp .le 16, 3) := by decide +kernel
theorem dL_profit_57 : decode cL_profit 57 = .ok (.aload_n 0, 1) := by decide +kernel
theorem dL_profit_58 : decode cL_profit 58 = .ok (.bipush 21, 2) := by decide +kernel
theorem dL_profit_60 : decode cL_profit 60 = .ok (.iload 4, 2) := by decide +kernel
theorem dL_profit_62 : decode cL_profit 62 = .ok (.iadd, 1) := by decide +kernel
theorem dL_profit_63 : decode cL_profit 63 = .ok (.iaload, 1) := by decide +kernel
theorem dL_profit_64 : decode cL_profit 64 = .ok (.iload 5, 2) := by decide +kernel
theorem dL_profit_66 : decode cL_profit 66 = .ok (.isub, 1) := by decide +kernel
theorem dL_profit_67 : decode cL_profit 67 = .ok (.goto 4, 3) := by decide +kernel
theorem dL_profit_70 : decode cL_profit 70 = .ok (.iconst 0, 1) := by decide +kernel
theorem dL_profit_71 : decode cL_profit 71 = .ok (.istore 6, 2) := by decide +kernel
theorem dL_profit_73 : decode cL_profit 73 = .ok (.iload_n 3, 1) := by decide +kernel
theorem dL_profit_74 : decode cL_profit 74 = .ok (.aload_n 0, 1) := by decide +kernel
theorem dL_profit_75 : decode cL_profit 75 = .ok (.aload_n 1, 1) := by decide +kernel
theorem dL_profit_76 : decode cL_profit 76 = .ok (.iload 4, 2) := by decide +kernel
theorem dL_profit_78 : decode cL_profit 78 = .ok (.invokestatic 46, 3) := by decide +kernel
theorem dL_profit_81 : decode cL_profit 81 = .ok (.aload_n 0, 1) := by decide +kernel
theorem dL_profit_82 : decode cL_profit 82 = .ok (.bipush 27, 2) := by decide +kernel
theorem dL_profit_84 : decode cL_profit 84 = .ok (.iload 4, 2) := by decide +kernel
theorem dL_profit_86 : decode cL_profit 86 = .ok (.iadd, 1) := by decide +kernel
theorem dL_profit_87 : decode cL_profit 87 = .ok (.iaload, 1) := by decide +kernel
theorem dL_profit_88 : decode cL_profit 88 = .ok (.iload 6, 2) := by decide +kernel
theorem dL_profit_90 : decode cL_profit 90 = .ok (.isub, 1) := by decide +kernel
theorem dL_profit_91 : decode cL_profit 91 = .ok (.imul, 1) := by decide +kernel
theorem dL_profit_92 : decode cL_profit 92 = .ok (.iadd, 1) := by decide +kernel
theorem dL_profit_93 : decode cL_profit 93 = .ok (.istore_n 3, 1) := by decide +kernel
theorem dL_profit_94 : decode cL_profit 94 = .ok (.iinc 4 1, 3) := by decide +kernel
theorem dL_profit_97 : decode cL_profit 97 = .ok (.goto (-92), 3) := by decide +kernel
theorem dL_profit_100 : decode cL_profit 100 = .ok (.iload_n 3, 1) := by decide +kernel
theorem dL_profit_101 : decode cL_profit 101 = .ok (.ireturn, 1) := by decide +kernel
theorem dL_copy_0 : decode cL_copy 0 = .ok (.iconst 0, 1) := by decide +kernel
theorem dL_copy_1 : decode cL_copy 1 = .ok (.istore_n 2, 1) := by decide +kernel
theorem dL_copy_2 : decode cL_copy 2 = .ok (.iload_n 2, 1) := by decide +kernel
theorem dL_copy_3 : decode cL_copy 3 = .ok (.bipush 45, 2) := by decide +kernel
theorem dL_copy_5 : decode cL_copy 5 = .ok (.if_icmp .ge 15, 3) := by decide +kernel
theorem dL_copy_8 : decode cL_copy 8 = .ok (.aload_n 1, 1) := by decide +kernel
theorem dL_copy_9 : decode cL_copy 9 = .ok (.iload_n 2, 1) := by decide +kernel
theorem dL_copy_10 : decode cL_copy 10 = .ok (.aload_n 0, 1) := by decide +kernel
theorem dL_copy_11 : decode cL_copy 11 = .ok (.iload_n 2, 1) := by decide +kernel
theorem dL_copy_12 : decode cL_copy 12 = .ok (.iaload, 1) := by decide +kernel
theorem dL_copy_13 : decode cL_copy 13 = .ok (.iastore, 1) := by decide +kernel
theorem dL_copy_14 : decode cL_copy 14 = .ok (.iinc 2 1, 3) := by decide +kernel
theorem dL_copy_17 : decode cL_copy 17 = .ok (.goto (-15), 3) := by decide +kernel
theorem dL_copy_20 : decode cL_copy 20 = .ok (.return_, 1) := by decide +kernel
theorem dL_turn_0 : decode cL_turn 0 = .ok (.aload_n 0, 1) := by decide +kernel
theorem dL_turn_1 : decode cL_turn 1 = .ok (.iconst 3, 1) := by decide +kernel
theorem dL_turn_2 : decode cL_turn 2 = .ok (.iload_n 2, 1) := by decide +kernel
theorem dL_turn_3 : decode cL_turn 3 = .ok (.iadd, 1) := by decide +kernel
theorem dL_turn_4 : decode cL_turn 4 = .ok (.iaload, 1) := by decide +kernel
theorem dL_turn_5 : decode cL_turn 5 = .ok (.istore_n 3, 1) := by decide +kernel
theorem dL_turn_6 : decode cL_turn 6 = .ok (.bipush 6, 2) := by decide +kernel
theorem dL_turn_8 : decode cL_turn 8 = .ok (.newarray .int, 2) := by decide +kernel
theorem dL_turn_10 : decode cL_turn 10 = .ok (.astore 4, 2) := by decide +kernel
theorem dL_turn_12 : decode cL_turn 12 = .ok (.bipush 6, 2) := by decide +kernel
theorem dL_turn_14 : decode cL_turn 14 = .ok (.newarray .int, 2) := by decide +kernel
theorem dL_turn_16 : decode cL_turn 16 = .ok (.astore 5, 2) := by decide +kernel
theorem dL_turn_18 : decode cL_turn 18 = .ok (.aload_n 0, 1) := by decide +kernel
theorem dL_turn_19 : decode cL_turn 19 = .ok (.bipush 39, 2) := by decide +kernel
theorem dL_turn_21 : decode cL_turn 21 = .ok (.iload_n 2, 1) := by decide +kernel
theorem dL_turn_22 : decode cL_turn 22 = .ok (.iadd, 1) := by decide +kernel
theorem dL_turn_23 : decode cL_turn 23 = .ok (.iaload, 1) := by decide +kernel
theorem dL_turn_24 : decode cL_turn 24 = .ok (.istore 6, 2) := by decide +kernel
theorem dL_turn_26 : decode cL_turn 26 = .ok (.iconst 0, 1) := by decide +kernel
theorem dL_turn_27 : decode cL_turn 27 = .ok (.istore 7, 2) := by decide +kernel
theorem dL_turn_29 : decode cL_turn 29 = .ok (.iconst 0, 1) := by decide +kernel
theorem dL_turn_30 : decode cL_turn 30 = .ok (.istore 8, 2) := by decide +kernel
theorem dL_turn_32 : decode cL_turn 32 = .ok (.iload 8, 2) := by decide +kernel
theorem dL_turn_34 : decode cL_turn 34 = .ok (.bipush 6, 2) := by decide +kernel
theorem dL_turn_36 : decode cL_turn 36 = .ok (.if_icmp .ge 60, 3) := by decide +kernel
theorem dL_turn_39 : decode cL_turn 39 = .ok (.aload 4, 2) := by decide +kernel
theorem dL_turn_41 : decode cL_turn 41 = .ok (.iload 8, 2) := by decide +kernel
theorem dL_turn_43 : decode cL_turn 43 = .ok (.aload_n 0, 1) := by decide +kernel
theorem dL_turn_44 : decode cL_turn 44 = .ok (.bipush 27, 2) := by decide +kernel
theorem dL_turn_46 : decode cL_turn 46 = .ok (.iload 8, 2) := by decide +kernel
theorem dL_turn_48 : decode cL_turn 48 = .ok (.iadd, 1) := by decide +kernel
theorem dL_turn_49 : decode cL_turn 49 = .ok (.iaload, 1) := by decide +kernel
theorem dL_turn_50 : decode cL_turn 50 = .ok (.iastore, 1) := by decide +kernel
theorem dL_turn_51 : decode cL_turn 51 = .ok (.aload 5, 2) := by decide +kernel
theorem dL_turn_53 : decode cL_turn 53 = .ok (.iload 8, 2) := by decide +kernel
theorem dL_turn_55 : decode cL_turn 55 = .ok (.aload 4, 2) := by decide +kernel
theorem dL_turn_57 : decode cL_turn 57 = .ok (.iload 8, 2) := by decide +kernel
theorem dL_turn_59 : decode cL_turn 59 = .ok (.iaload, 1) := by decide +kernel
theorem dL_turn_60 : decode cL_turn 60 = .ok (.iastore, 1) := by decide +kernel
theorem dL_turn_61 : decode cL_turn 61 = .ok (.iload 7, 2) := by decide +kernel
theorem dL_turn_63 : decode cL_turn 63 = .ok (.iload 8, 2) := by decide +kernel
theorem dL_turn_65 : decode cL_turn 65 = .ok (.aload_n 0, 1) := by decide +kernel
theorem dL_turn_66 : decode cL_turn 66 = .ok (.iconst 1, 1) := by decide +kernel
theorem dL_turn_67 : decode cL_turn 67 = .ok (.iaload, 1) := by decide +kernel
theorem dL_turn_68 : decode cL_turn 68 = .ok (.if_icmp .ge 18, 3) := by decide +kernel
theorem dL_turn_71 : decode cL_turn 71 = .ok (.aload_n 0, 1) := by decide +kernel
theorem dL_turn_72 : decode cL_turn 72 = .ok (.bipush 33, 2) := by decide +kernel
theorem dL_turn_74 : decode cL_turn 74 = .ok (.iload 8, 2) := by decide +kernel
theorem dL_turn_76 : decode cL_turn 76 = .ok (.iadd, 1) := by decide +kernel
theorem dL_turn_77 : decode cL_turn 77 = .ok (.iaload, 1) := by decide +kernel
theorem dL_turn_78 : decode cL_turn 78 = .ok (.iload_n 2, 1) := by decide +kernel
theorem dL_turn_79 : decode cL_turn 79 = .ok (.if_icmp .ne 7, 3) := by decide +kernel
theorem dL_turn_82 : decode cL_turn 82 = .ok (.iconst 1, 1) := by decide +kernel
theorem dL_turn_83 : decode cL_turn 83 = .ok (.goto 4, 3) := by decide +kernel
theorem dL_turn_86 : decode cL_turn 86 = .ok (.iconst 0, 1) := by decide +kernel
theorem dL_turn_87 : decode cL_turn 87 = .ok (.iadd, 1) := by decide +kernel
theorem dL_turn_88 : decode cL_turn 88 = .ok (.istore 7, 2) := by decide +kernel
theorem dL_turn_90 : decode cL_turn 90 = .ok (.iinc 8 1, 3) := by decide +kernel
theorem dL_turn_93 : decode cL_turn 93 = .ok (.goto (-61), 3) := by decide +kernel
theorem dL_turn_96 : decode cL_turn 96 = .ok (.aload_n 0, 1) := by decide +kernel
theorem dL_turn_97 : decode cL_turn 97 = .ok (.bipush 39, 2) := by decide +kernel
theorem dL_turn_99 : decode cL_turn 99 = .ok (.iload_n 2, 1) := by decide +kernel
theorem dL_turn_100 : decode cL_turn 100 = .ok (.iadd, 1) := by decide +kernel
theorem dL_turn_101 : decode cL_turn 101 = .ok (.iload_n 3, 1) := by decide +kernel
theorem dL_turn_102 : decode cL_turn 102 = .ok (.iconst 4, 1) := by decide +kernel
theorem dL_turn_103 : decode cL_turn 103 = .ok (.if_icmp .ne 7, 3) := by decide +kernel
theorem dL_turn_106 : decode cL_turn 106 = .ok (.iconst 1, 1) := by decide +kernel
theorem dL_turn_107 : decode cL_turn 107 = .ok (.goto 4, 3) := by decide +kernel
theorem dL_turn_110 : decode cL_turn 110 = .ok (.iconst 0, 1) := by decide +kernel
theorem dL_turn_111 : decode cL_turn 111 = .ok (.iastore, 1) := by decide +kernel
theorem dL_turn_112 : decode cL_turn 112 = .ok (.iload_n 3, 1) := by decide +kernel
theorem dL_turn_113 : decode cL_turn 113 = .ok (.iconst 4, 1) := by decide +kernel
theorem dL_turn_114 : decode cL_turn 114 = .ok (.if_icmp .ne 12, 3) := by decide +kernel
theorem dL_turn_117 : decode cL_turn 117 = .ok (.aload_n 0, 1) := by decide +kernel
theorem dL_turn_118 : decode cL_turn 118 = .ok (.bipush 9, 2) := by decide +kernel
theorem dL_turn_120 : decode cL_turn 120 = .ok (.iload_n 2, 1) := by decide +kernel
theorem dL_turn_121 : decode cL_turn 121 = .ok (.iadd, 1) := by decide +kernel
theorem dL_turn_122 : decode cL_turn 122 = .ok (.iaload, 1) := by decide +kernel
theorem dL_turn_123 : decode cL_turn 123 = .ok (.goto 5, 3) := by decide +kernel
theorem dL_turn_126 : decode cL_turn 126 = .ok (.ldc 50, 2) := by decide +kernel
theorem dL_turn_128 : decode cL_turn 128 = .ok (.istore 8, 2) := by decide +kernel
theorem dL_turn_130 : decode cL_turn 130 = .ok (.iconst 0, 1) := by decide +kernel
theorem dL_turn_131 : decode cL_turn 131 = .ok (.istore 9, 2) := by decide +kernel
theorem dL_turn_133 : decode cL_turn 133 = .ok (.iload 7, 2) := by decide +kernel
theorem dL_turn_135 : decode cL_turn 135 = .ok (.ifCond .eq 8, 3) := by decide +kernel
theorem dL_turn_138 : decode cL_turn 138 = .ok (.iload_n 3, 1) := by decide +kernel
theorem dL_turn_139 : decode cL_turn 139 = .ok (.iconst 2, 1) := by decide +kernel
theorem dL_turn_140 : decode cL_turn 140 = .ok (.if_icmp .ne 7, 3) := by decide +kernel
theorem dL_turn_143 : decode cL_turn 143 = .ok (.iconst 0, 1) := by decide +kernel
theorem dL_turn_144 : decode cL_turn 144 = .ok (.goto 43, 3) := by decide +kernel
theorem dL_turn_147 : decode cL_turn 147 = .ok (.iload_n 3, 1) := by decide +kernel
theorem dL_turn_148 : decode cL_turn 148 = .ok (.iconst 1, 1) := by decide +kernel
theorem dL_turn_149 : decode cL_turn 149 = .ok (.if_icmp .eq 8, 3) := by decide +kernel
theorem dL_turn_152 : decode cL_turn 152 = .ok (.iload_n 3, 1) := by decide +kernel
theorem dL_turn_153 : decode cL_turn 153 = .ok (.iconst 4, 1) := by decide +kernel
theorem dL_turn_154 : decode cL_turn 154 = .ok (.if_icmp .ne 8, 3) := by decide +kernel
theorem dL_turn_157 : decode cL_turn 157 = .ok (.bipush 10, 2) := by decide +kernel
theorem dL_turn_159 : decode cL_turn 159 = .ok (.goto 28, 3) := by decide +kernel
theorem dL_turn_162 : decode cL_turn 162 = .ok (.iload 7, 2) := by decide +kernel
theorem dL_turn_164 : decode cL_turn 164 = .ok (.iconst 1, 1) := by decide +kernel
theorem dL_turn_165 : decode cL_turn 165 = .ok (.if_icmp .ne 8, 3) := by decide +kernel
theorem dL_turn_168 : decode cL_turn 168 = .ok (.bipush 10, 2) := by decide +kernel
theorem dL_turn_170 : decode cL_turn 170 = .ok (.goto 17, 3) := by decide +kernel
theorem dL_turn_173 : decode cL_turn 173 = .ok (.iload 7, 2) := by decide +kernel
theorem dL_turn_175 : decode cL_turn 175 = .ok (.iconst 2, 1) := by decide +kernel
theorem dL_turn_176 : decode cL_turn 176 = .ok (.if_icmp .ne 8, 3) := by decide +kernel
theorem dL_turn_179 : decode cL_turn 179 = .ok (.bipush 100, 2) := by decide +kernel
theorem dL_turn_181 : decode cL_turn 181 = .ok (.goto 6, 3) := by decide +kernel
theorem dL_turn_184 : decode cL_turn 184 = .ok (.sipush 1000, 3) := by decide +kernel
theorem dL_turn_187 : decode cL_turn 187 = .ok (.istore 10, 2) := by decide +kernel
theorem dL_turn_189 : decode cL_turn 189 = .ok (.iconst 0, 1) := by decide +kernel
theorem dL_turn_190 : decode cL_turn 190 = .ok (.istore 11, 2) := by decide +kernel
theorem dL_turn_192 : decode cL_turn 192 = .ok (.iload 11, 2) := by decide +kernel
theorem dL_turn_194 : decode cL_turn 194 = .ok (.iload 10, 2) := by decide +kernel
theorem dL_turn_196 : decode cL_turn 196 = .ok (.if_icmp .ge 126, 3) := by decide +kernel
theorem dL_turn_199 : decode cL_turn 199 = .ok (.iload 10, 2) := by decide +kernel
theorem dL_turn_201 : decode cL_turn 201 = .ok (.bipush 10, 2) := by decide +kernel
theorem dL_turn_203 : decode cL_turn 203 = .ok (.idiv, 1) := by decide +kernel
theorem dL_turn_204 : decode cL_turn 204 = .ok (.istore 12, 2) := by decide +kernel
theorem dL_turn_206 : decode cL_turn 206 = .ok (.iconst 0, 1) := by decide +kernel
theorem dL_turn_207 : decode cL_turn 207 = .ok (.istore 13, 2) := by decide +kernel
theorem dL_turn_209 : decode cL_turn 209 = .ok (.iload 13, 2) := by decide +kernel
theorem dL_turn_211 : decode cL_turn 211 = .ok (.aload_n 0, 1) := by decide +kernel
theorem dL_turn_212 : decode cL_turn 212 = .ok (.iconst 1, 1) := by decide +kernel
theorem dL_turn_213 : decode cL_turn 213 = .ok (.iaload, 1) := by decide +kernel
theorem dL_turn_214 : decode cL_turn 214 = .ok (.if_icmp .ge 52, 3) := by decide +kernel
theorem dL_turn_217 : decode cL_turn 217 = .ok (.aload_n 0, 1) := by decide +kernel
theorem dL_turn_218 : decode cL_turn 218 = .ok (.bipush 33, 2) := by decide +kernel
theorem dL_turn_220 : decode cL_turn 220 = .ok (.iload 13, 2) := by decide +kernel
theorem dL_turn_222 : decode cL_turn 222 = .ok (.iadd, 1) := by decide +kernel
theorem dL_turn_223 : decode cL_turn 223 = .ok (.iaload, 1) := by decide +kernel
theorem dL_turn_224 : decode cL_turn 224 = .ok (.iload_n 2, 1) := by decide +kernel
theorem dL_turn_225 : decode cL_turn 225 = .ok (.if_icmp .ne 35, 3) := by decide +kernel
theorem dL_turn_228 : decode cL_turn 228 = .ok (.aload_n 0, 1) := by decide +kernel
theorem dL_turn_229 : decode cL_turn 229 = .ok (.bipush 27, 2) := by decide +kernel
theorem dL_turn_231 : decode cL_turn 231 = .ok (.iload 13, 2) := by decide +kernel
theorem dL_turn_233 : decode cL_turn 233 = .ok (.iadd, 1) := by decide +kernel
theorem dL_turn_234 : decode cL_turn 234 = .ok (.iload 11, 2) := by decide +kernel
theorem dL_turn_236 : decode cL_turn 236 = .ok (.iload 12, 2) := by decide +kernel
theorem dL_turn_238 : decode cL_turn 238 = .ok (.idiv, 1) := by decide +kernel
theorem dL_turn_239 : decode cL_turn 239 = .ok (.bipush 10, 2) := by decide +kernel
theorem dL_turn_241 : decode cL_turn 241 = .ok (.irem, 1) := by decide +kernel
theorem dL_turn_242 : decode cL_turn 242 = .ok (.iastore, 1) := by decide +kernel
theorem dL_turn_243 : decode cL_turn 243 = .ok (.iload 12, 2) := by decide +kernel
theorem dL_turn_245 : decode cL_turn 245 = .ok (.iconst 1, 1) := by decide +kernel
theorem dL_turn_246 : decode cL_turn 246 = .ok (.if_icmp .le 11, 3) := by decide +kernel
theorem dL_turn_249 : decode cL_turn 249 = .ok (.iload 12, 2) := by decide +kernel
theorem dL_turn_251 : decode cL_turn 251 = .ok (.bipush 10, 2) := by decide +kernel
theorem dL_turn_253 : decode cL_turn 253 = .ok (.idiv, 1) := by decide +kernel
theorem dL_turn_254 : decode cL_turn 254 = .ok (.goto 4, 3) := by decide +kernel
theorem dL_turn_257 : decode cL_turn 257 = .ok (.iconst 1, 1) := by decide +kernel
theorem dL_turn_258 : decode cL_turn 258 = .ok (.istore 12, 2) := by decide +kernel
theorem dL_turn_260 : decode cL_turn 260 = .ok (.iinc 13 1, 3) := by decide +kernel
theorem dL_turn_263 : decode cL_turn 263 = .ok (.goto (-54), 3) := by decide +kernel
theorem dL_turn_266 : decode cL_turn 266 = .ok (.aload_n 0, 1) := by decide +kernel
theorem dL_turn_267 : decode cL_turn 267 = .ok (.aload_n 1, 1) := by decide +kernel
theorem dL_turn_268 : decode cL_turn 268 = .ok (.iload_n 2, 1) := by decide +kernel
theorem dL_turn_269 : decode cL_turn 269 = .ok (.invokestatic 51, 3) := by decide +kernel
theorem dL_turn_272 : decode cL_turn 272 = .ok (.istore 13, 2) := by decide +kernel
theorem dL_turn_274 : decode cL_turn 274 = .ok (.iload 13, 2) := by decide +kernel
theorem dL_turn_276 : decode cL_turn 276 = .ok (.iload 8, 2) := by decide +kernel
theorem dL_turn_278 : decode cL_turn 278 = .ok (.if_icmp .le 38, 3) := by decide +kernel
theorem dL_turn_281 : decode cL_turn 281 = .ok (.iload 13, 2) := by decide +kernel
theorem dL_turn_283 : decode cL_turn 283 = .ok (.istore 8, 2) := by decide +kernel
theorem dL_turn_285 : decode cL_turn 285 = .ok (.iconst 1, 1) := by decide +kernel
theorem dL_turn_286 : decode cL_turn 286 = .ok (.istore 9, 2) := by decide +kernel
theorem dL_turn_288 : decode cL_turn 288 = .ok (.iconst 0, 1) := by decide +kernel
theorem dL_turn_289 : decode cL_turn 289 = .ok (.istore 14, 2) := by decide +kernel
theorem dL_turn_291 : decode cL_turn 291 = .ok (.iload 14, 2) := by decide +kernel
theorem dL_turn_293 : decode cL_turn 293 = .ok (.bipush 6, 2) := by decide +kernel
theorem dL_turn_295 : decode cL_turn 295 = .ok (.if_icmp .ge 21, 3) := by decide +kernel
theorem dL_turn_298 : decode cL_turn 298 = .ok (.aload 5, 2) := by decide +kernel
theorem dL_turn_300 : decode cL_turn 300 = .ok (.iload 14, 2) := by decide +kernel
theorem dL_turn_302 : decode cL_turn 302 = .ok (.aload_n 0, 1) := by decide +kernel
theorem dL_turn_303 : decode cL_turn 303 = .ok (.bipush 27, 2) := by decide +kernel
theorem dL_turn_305 : decode cL_turn 305 = .ok (.iload 14, 2) := by decide +kernel
theorem dL_turn_307 : decode cL_turn 307 = .ok (.iadd, 1) := by decide +kernel
theorem dL_turn_308 : decode cL_turn 308 = .ok (.iaload, 1) := by decide +kernel
theorem dL_turn_309 : decode cL_turn 309 = .ok (.iastore, 1) := by decide +kernel
theorem dL_turn_310 : decode cL_turn 310 = .ok (.iinc 14 1, 3) := by decide +kernel
theorem dL_turn_313 : decode cL_turn 313 = .ok (.goto (-22), 3) := by decide +kernel
theorem dL_turn_316 : decode cL_turn 316 = .ok (.iinc 11 1, 3) := by decide +kernel
theorem dL_turn_319 : decode cL_turn 319 = .ok (.goto (-127), 3) := by decide +kernel
theorem dL_turn_322 : decode cL_turn 322 = .ok (.aload_n 0, 1) := by decide +kernel
theorem dL_turn_323 : decode cL_turn 323 = .ok (.bipush 39, 2) := by decide +kernel
theorem dL_turn_325 : decode cL_turn 325 = .ok (.iload_n 2, 1) := by decide +kernel
theorem dL_turn_326 : decode cL_turn 326 = .ok (.iadd, 1) := by decide +kernel
theorem dL_turn_327 : decode cL_turn 327 = .ok (.iload_n 3, 1) := by decide +kernel
theorem dL_turn_328 : decode cL_turn 328 = .ok (.iconst 4, 1) := by decide +kernel
theorem dL_turn_329 : decode cL_turn 329 = .ok (.if_icmp .ne 12, 3) := by decide +kernel
theorem dL_turn_332 : decode cL_turn 332 = .ok (.iload 9, 2) := by decide +kernel
theorem dL_turn_334 : decode cL_turn 334 = .ok (.ifCond .eq 7, 3) := by decide +kernel
theorem dL_turn_337 : decode cL_turn 337 = .ok (.iconst 1, 1) := by decide +kernel
theorem dL_turn_338 : decode cL_turn 338 = .ok (.goto 4, 3) := by decide +kernel
theorem dL_turn_341 : decode cL_turn 341 = .ok (.iconst 0, 1) := by decide +kernel
theorem dL_turn_342 : decode cL_turn 342 = .ok (.iastore, 1) := by decide +kernel
theorem dL_turn_343 : decode cL_turn 343 = .ok (.aload_n 0, 1) := by decide +kernel
theorem dL_turn_344 : decode cL_turn 344 = .ok (.bipush 39, 2) := by decide +kernel
theorem dL_turn_346 : decode cL_turn 346 = .ok (.iload_n 2, 1) := by decide +kernel
theorem dL_turn_347 : decode cL_turn 347 = .ok (.iadd, 1) := by decide +kernel
theorem dL_turn_348 : decode cL_turn 348 = .ok (.iaload, 1) := by decide +kernel
theorem dL_turn_349 : decode cL_turn 349 = .ok (.iload 6, 2) := by decide +kernel
theorem dL_turn_351 : decode cL_turn 351 = .ok (.if_icmp .ne 7, 3) := by decide +kernel
theorem dL_turn_354 : decode cL_turn 354 = .ok (.iconst 0, 1) := by decide +kernel
theorem dL_turn_355 : decode cL_turn 355 = .ok (.goto 4, 3) := by decide +kernel
theorem dL_turn_358 : decode cL_turn 358 = .ok (.iconst 1, 1) := by decide +kernel
theorem dL_turn_359 : decode cL_turn 359 = .ok (.istore 11, 2) := by decide +kernel
theorem dL_turn_361 : decode cL_turn 361 = .ok (.iconst 0, 1) := by decide +kernel
theorem dL_turn_362 : decode cL_turn 362 = .ok (.istore 12, 2) := by decide +kernel
theorem dL_turn_364 : decode cL_turn 364 = .ok (.iload 12, 2) := by decide +kernel
theorem dL_turn_366 : decode cL_turn 366 = .ok (.bipush 6, 2) := by decide +kernel
theorem dL_turn_368 : decode cL_turn 368 = .ok (.if_icmp .ge 44, 3) := by decide +kernel
theorem dL_turn_371 : decode cL_turn 371 = .ok (.aload_n 0, 1) := by decide +kernel
theorem dL_turn_372 : decode cL_turn 372 = .ok (.bipush 27, 2) := by decide +kernel
theorem dL_turn_374 : decode cL_turn 374 = .ok (.iload 12, 2) := by decide +kernel
theorem dL_turn_376 : decode cL_turn 376 = .ok (.iadd, 1) := by decide +kernel
theorem dL_turn_377 : decode cL_turn 377 = .ok (.aload 5, 2) := by decide +kernel
theorem dL_turn_379 : decode cL_turn 379 = .ok (.iload 12, 2) := by decide +kernel
theorem dL_turn_381 : decode cL_turn 381 = .ok (.iaload, 1) := by decide +kernel
theorem dL_turn_382 : decode cL_turn 382 = .ok (.iastore, 1) := by decide +kernel
theorem dL_turn_383 : decode cL_turn 383 = .ok (.iload 11, 2) := by decide +kernel
theorem dL_turn_385 : decode cL_turn 385 = .ok (.aload 5, 2) := by decide +kernel
theorem dL_turn_387 : decode cL_turn 387 = .ok (.iload 12, 2) := by decide +kernel
theorem dL_turn_389 : decode cL_turn 389 = .ok (.iaload, 1) := by decide +kernel
theorem dL_turn_390 : decode cL_turn 390 = .ok (.aload 4, 2) := by decide +kernel
theorem dL_turn_392 : decode cL_turn 392 = .ok (.iload 12, 2) := by decide +kernel
theorem dL_turn_394 : decode cL_turn 394 = .ok (.iaload, 1) := by decide +kernel
theorem dL_turn_395 : decode cL_turn 395 = .ok (.if_icmp .ne 7, 3) := by decide +kernel
theorem dL_turn_398 : decode cL_turn 398 = .ok (.iconst 0, 1) := by decide +kernel
theorem dL_turn_399 : decode cL_turn 399 = .ok (.goto 4, 3) := by decide +kernel
theorem dL_turn_402 : decode cL_turn 402 = .ok (.iconst 1, 1) := by decide +kernel
theorem dL_turn_403 : decode cL_turn 403 = .ok (.iadd, 1) := by decide +kernel
theorem dL_turn_404 : decode cL_turn 404 = .ok (.istore 11, 2) := by decide +kernel
theorem dL_turn_406 : decode cL_turn 406 = .ok (.iinc 12 1, 3) := by decide +kernel
theorem dL_turn_409 : decode cL_turn 409 = .ok (.goto (-45), 3) := by decide +kernel
theorem dL_turn_412 : decode cL_turn 412 = .ok (.iload 11, 2) := by decide +kernel
theorem dL_turn_414 : decode cL_turn 414 = .ok (.ireturn, 1) := by decide +kernel
theorem dL_rest_0 : decode cL_rest 0 = .ok (.iconst 0, 1) := by decide +kernel
theorem dL_rest_1 : decode cL_rest 1 = .ok (.istore_n 2, 1) := by decide +kernel
theorem dL_rest_2 : decode cL_rest 2 = .ok (.iload_n 2, 1) := by decide +kernel
theorem dL_rest_3 : decode cL_rest 3 = .ok (.bipush 20, 2) := by decide +kernel
theorem dL_rest_5 : decode cL_rest 5 = .ok (.if_icmp .ge 44, 3) := by decide +kernel
theorem dL_rest_8 : decode cL_rest 8 = .ok (.iconst 0, 1) := by decide +kernel
theorem dL_rest_9 : decode cL_rest 9 = .ok (.istore_n 3, 1) := by decide +kernel
theorem dL_rest_10 : decode cL_rest 10 = .ok (.iconst 0, 1) := by decide +kernel
theorem dL_rest_11 : decode cL_rest 11 = .ok (.istore 4, 2) := by decide +kernel
theorem dL_rest_13 : decode cL_rest 13 = .ok (.iload 4, 2) := by decide +kernel
theorem dL_rest_15 : decode cL_rest 15 = .ok (.aload_n 0, 1) := by decide +kernel
theorem dL_rest_16 : decode cL_rest 16 = .ok (.iconst 0, 1) := by decide +kernel
theorem dL_rest_17 : decode cL_rest 17 = .ok (.iaload, 1) := by decide +kernel
theorem dL_rest_18 : decode cL_rest 18 = .ok (.if_icmp .ge 19, 3) := by decide +kernel
theorem dL_rest_21 : decode cL_rest 21 = .ok (.iload_n 3, 1) := by decide +kernel
theorem dL_rest_22 : decode cL_rest 22 = .ok (.aload_n 0, 1) := by decide +kernel
theorem dL_rest_23 : decode cL_rest 23 = .ok (.aload_n 1, 1) := by decide +kernel
theorem dL_rest_24 : decode cL_rest 24 = .ok (.iload 4, 2) := by decide +kernel
theorem dL_rest_26 : decode cL_rest 26 = .ok (.invokestatic 54, 3) := by decide +kernel
theorem dL_rest_29 : decode cL_rest 29 = .ok (.iadd, 1) := by decide +kernel
theorem dL_rest_30 : decode cL_rest 30 = .ok (.istore_n 3, 1) := by decide +kernel
theorem dL_rest_31 : decode cL_rest 31 = .ok (.iinc 4 1, 3) := by decide +kernel
theorem dL_rest_34 : decode cL_rest 34 = .ok (.goto (-21), 3) := by decide +kernel
theorem dL_rest_37 : decode cL_rest 37 = .ok (.iload_n 3, 1) := by decide +kernel
theorem dL_rest_38 : decode cL_rest 38 = .ok (.ifCond .ne 5, 3) := by decide +kernel
theorem dL_rest_41 : decode cL_rest 41 = .ok (.iload_n 2, 1) := by decide +kernel
theorem dL_rest_42 : decode cL_rest 42 = .ok (.ireturn, 1) := by decide +kernel
theorem dL_rest_43 : decode cL_rest 43 = .ok (.iinc 2 1, 3) := by decide +kernel
theorem dL_rest_46 : decode cL_rest 46 = .ok (.goto (-44), 3) := by decide +kernel
theorem dL_rest_49 : decode cL_rest 49 = .ok (.bipush 20, 2) := by decide +kernel
theorem dL_rest_51 : decode cL_rest 51 = .ok (.ireturn, 1) := by decide +kernel
