theorem dX10_lawComes_18 : decode cX10_lawComes 18 = .ok (.iload_n 2, 1) := by decide +kernel
theorem dX10_lawComes_19 : decode cX10_lawComes 19 = .ok (.iastore, 1) := by decide +kernel
theorem dX10_lawComes_20 : decode cX10_lawComes 20 = .ok (.aload_n 0, 1) := by decide +kernel
theorem dX10_lawComes_21 : decode cX10_lawComes 21 = .ok (.getfield 16, 3) := by decide +kernel
theorem dX10_lawComes_24 : decode cX10_lawComes 24 = .ok (.aload_n 0, 1) := by decide +kernel
theorem dX10_lawComes_25 : decode cX10_lawComes 25 = .ok (.getfield 88, 3) := by decide +kernel
theorem dX10_lawComes_28 : decode cX10_lawComes 28 = .ok (.iload_n 3, 1) := by decide +kernel
theorem dX10_lawComes_29 : decode cX10_lawComes 29 = .ok (.iastore, 1) := by decide +kernel
theorem dX10_lawComes_30 : decode cX10_lawComes 30 = .ok (.aload_n 0, 1) := by decide +kernel
theorem dX10_lawComes_31 : decode cX10_lawComes 31 = .ok (.getfield 19, 3) := by decide +kernel
theorem dX10_lawComes_34 : decode cX10_lawComes 34 = .ok (.aload_n 0, 1) := by decide +kernel
theorem dX10_lawComes_35 : decode cX10_lawComes 35 = .ok (.getfield 88, 3) := by decide +kernel
theorem dX10_lawComes_38 : decode cX10_lawComes 38 = .ok (.iload 4, 2) := by decide +kernel
theorem dX10_lawComes_40 : decode cX10_lawComes 40 = .ok (.iastore, 1) := by decide +kernel
theorem dX10_lawComes_41 : decode cX10_lawComes 41 = .ok (.aload_n 0, 1) := by decide +kernel
theorem dX10_lawComes_42 : decode cX10_lawComes 42 = .ok (.dup, 1) := by decide +kernel
theorem dX10_lawComes_43 : decode cX10_lawComes 43 = .ok (.getfield 88, 3) := by decide +kernel
theorem dX10_lawComes_46 : decode cX10_lawComes 46 = .ok (.iconst 1, 1) := by decide +kernel
theorem dX10_lawComes_47 : decode cX10_lawComes 47 = .ok (.iadd, 1) := by decide +kernel
theorem dX10_lawComes_48 : decode cX10_lawComes 48 = .ok (.putfield 88, 3) := by decide +kernel
theorem dX10_lawComes_51 : decode cX10_lawComes 51 = .ok (.return_, 1) := by decide +kernel
theorem dX10_comesTold_0 : decode cX10_comesTold 0 = .ok (.aload_n 0, 1) := by decide +kernel
theorem dX10_comesTold_1 : decode cX10_comesTold 1 = .ok (.getfield 47, 3) := by decide +kernel
theorem dX10_comesTold_4 : decode cX10_comesTold 4 = .ok (.iconst 4, 1) := by decide +kernel
theorem dX10_comesTold_5 : decode cX10_comesTold 5 = .ok (.iload_n 1, 1) := by decide +kernel
theorem dX10_comesTold_6 : decode cX10_comesTold 6 = .ok (.imul, 1) := by decide +kernel
theorem dX10_comesTold_7 : decode cX10_comesTold 7 = .ok (.iaload, 1) := by decide +kernel
theorem dX10_comesTold_8 : decode cX10_comesTold 8 = .ok (.istore_n 2, 1) := by decide +kernel
theorem dX10_comesTold_9 : decode cX10_comesTold 9 = .ok (.aload_n 0, 1) := by decide +kernel
theorem dX10_comesTold_10 : decode cX10_comesTold 10 = .ok (.getfield 47, 3) := by decide +kernel
theorem dX10_comesTold_13 : decode cX10_comesTold 13 = .ok (.iconst 4, 1) := by decide +kernel
theorem dX10_comesTold_14 : decode cX10_comesTold 14 = .ok (.iload_n 1, 1) := by decide +kernel
theorem dX10_comesTold_15 : decode cX10_comesTold 15 = .ok (.imul, 1) := by decide +kernel
theorem dX10_comesTold_16 : decode cX10_comesTold 16 = .ok (.iconst 1, 1) := by decide +kernel
theorem dX10_comesTold_17 : decode cX10_comesTold 17 = .ok (.iadd, 1) := by decide +kernel
theorem dX10_comesTold_18 : decode cX10_comesTold 18 = .ok (.iaload, 1) := by decide +kernel
theorem dX10_comesTold_19 : decode cX10_comesTold 19 = .ok (.istore_n 3, 1) := by decide +kernel
theorem dX10_comesTold_20 : decode cX10_comesTold 20 = .ok (.aload_n 0, 1) := by decide +kernel
theorem dX10_comesTold_21 : decode cX10_comesTold 21 = .ok (.getfield 47, 3) := by decide +kernel
theorem dX10_comesTold_24 : decode cX10_comesTold 24 = .ok (.iconst 4, 1) := by decide +kernel
theorem dX10_comesTold_25 : decode cX10_comesTold 25 = .ok (.iload_n 1, 1) := by decide +kernel
theorem dX10_comesTold_26 : decode cX10_comesTold 26 = .ok (.imul, 1) := by decide +kernel
theorem dX10_comesTold_27 : decode cX10_comesTold 27 = .ok (.iconst 2, 1) := by decide +kernel
theorem dX10_comesTold_28 : decode cX10_comesTold 28 = .ok (.iadd, 1) := by decide +kernel
theorem dX10_comesTold_29 : decode cX10_comesTold 29 = .ok (.iaload, 1) := by decide +kernel
theorem dX10_comesTold_30 : decode cX10_comesTold 30 = .ok (.istore 4, 2) := by decide +kernel
theorem dX10_comesTold_32 : decode cX10_comesTold 32 = .ok (.aload_n 0, 1) := by decide +kernel
theorem dX10_comesTold_33 : decode cX10_comesTold 33 = .ok (.getfield 47, 3) := by decide +kernel
theorem dX10_comesTold_36 : decode cX10_comesTold 36 = .ok (.iconst 4, 1) := by decide +kernel
theorem dX10_comesTold_37 : decode cX10_comesTold 37 = .ok (.iload_n 1, 1) := by decide +kernel
theorem dX10_comesTold_38 : decode cX10_comesTold 38 = .ok (.imul, 1) := by decide +kernel
theorem dX10_comesTold_39 : decode cX10_comesTold 39 = .ok (.iconst 3, 1) := by decide +kernel
theorem dX10_comesTold_40 : decode cX10_comesTold 40 = .ok (.iadd, 1) := by decide +kernel
theorem dX10_comesTold_41 : decode cX10_comesTold 41 = .ok (.iaload, 1) := by decide +kernel
theorem dX10_comesTold_42 : decode cX10_comesTold 42 = .ok (.istore 5, 2) := by decide +kernel
theorem dX10_comesTold_44 : decode cX10_comesTold 44 = .ok (.iconst 1, 1) := by decide +kernel
theorem dX10_comesTold_45 : decode cX10_comesTold 45 = .ok (.istore 6, 2) := by decide +kernel
theorem dX10_comesTold_47 : decode cX10_comesTold 47 = .ok (.aload_n 0, 1) := by decide +kernel
theorem dX10_comesTold_48 : decode cX10_comesTold 48 = .ok (.getfield 44, 3) := by decide +kernel
theorem dX10_comesTold_51 : decode cX10_comesTold 51 = .ok (.iload_n 1, 1) := by decide +kernel
theorem dX10_comesTold_52 : decode cX10_comesTold 52 = .ok (.iaload, 1) := by decide +kernel
theorem dX10_comesTold_53 : decode cX10_comesTold 53 = .ok (.lookupswitch 246 #[(98, 204), (108, 51), (112, 105), (116, 156), (120, 239)], 51) := by decide +kernel
theorem dX10_comesTold_104 : decode cX10_comesTold 104 = .ok (.iload_n 2, 1) := by decide +kernel
theorem dX10_comesTold_105 : decode cX10_comesTold 105 = .ok (.bipush 6, 2) := by decide +kernel
theorem dX10_comesTold_107 : decode cX10_comesTold 107 = .ok (.if_icmp .ge 30, 3) := by decide +kernel
theorem dX10_comesTold_110 : decode cX10_comesTold 110 = .ok (.iload 4, 2) := by decide +kernel
theorem dX10_comesTold_112 : decode cX10_comesTold 112 = .ok (.bipush 8, 2) := by decide +kernel
theorem dX10_comesTold_114 : decode cX10_comesTold 114 = .ok (.if_icmp .ge 23, 3) := by decide +kernel
theorem dX10_comesTold_117 : decode cX10_comesTold 117 = .ok (.iload 5, 2) := by decide +kernel
theorem dX10_comesTold_119 : decode cX10_comesTold 119 = .ok (.bipush 8, 2) := by decide +kernel
theorem dX10_comesTold_121 : decode cX10_comesTold 121 = .ok (.if_icmp .ge 16, 3) := by decide +kernel
theorem dX10_comesTold_124 : decode cX10_comesTold 124 = .ok (.aload_n 0, 1) := by decide +kernel
theorem dX10_comesTold_125 : decode cX10_comesTold 125 = .ok (.getfield 88, 3) := by decide +kernel
theorem dX10_comesTold_128 : decode cX10_comesTold 128 = .ok (.bipush 10, 2) := by decide +kernel
theorem dX10_comesTold_130 : decode cX10_comesTold 130 = .ok (.if_icmp .ge 7, 3) := by decide +kernel
theorem dX10_comesTold_133 : decode cX10_comesTold 133 = .ok (.iconst 1, 1) := by decide +kernel
theorem dX10_comesTold_134 : decode cX10_comesTold 134 = .ok (.goto 4, 3) := by decide +kernel
theorem dX10_comesTold_137 : decode cX10_comesTold 137 = .ok (.iconst 0, 1) := by decide +kernel
theorem dX10_comesTold_138 : decode cX10_comesTold 138 = .ok (.istore 6, 2) := by decide +kernel
theorem dX10_comesTold_140 : decode cX10_comesTold 140 = .ok (.iload 6, 2) := by decide +kernel
theorem dX10_comesTold_142 : decode cX10_comesTold 142 = .ok (.ifCond .eq 13, 3) := by decide +kernel
theorem dX10_comesTold_145 : decode cX10_comesTold 145 = .ok (.aload_n 0, 1) := by decide +kernel
theorem dX10_comesTold_146 : decode cX10_comesTold 146 = .ok (.iload_n 2, 1) := by decide +kernel
theorem dX10_comesTold_147 : decode cX10_comesTold 147 = .ok (.iload_n 3, 1) := by decide +kernel
theorem dX10_comesTold_148 : decode cX10_comesTold 148 = .ok (.iload 4, 2) := by decide +kernel
theorem dX10_comesTold_150 : decode cX10_comesTold 150 = .ok (.iload 5, 2) := by decide +kernel
theorem dX10_comesTold_152 : decode cX10_comesTold 152 = .ok (.invokevirtual 156, 3) := by decide +kernel
theorem dX10_comesTold_155 : decode cX10_comesTold 155 = .ok (.iload 6, 2) := by decide +kernel
theorem dX10_comesTold_157 : decode cX10_comesTold 157 = .ok (.ireturn, 1) := by decide +kernel
theorem dX10_comesTold_158 : decode cX10_comesTold 158 = .ok (.iload_n 2, 1) := by decide +kernel
theorem dX10_comesTold_159 : decode cX10_comesTold 159 = .ok (.sipush 255, 3) := by decide +kernel
theorem dX10_comesTold_162 : decode cX10_comesTold 162 = .ok (.if_icmp .gt 16, 3) := by decide +kernel
theorem dX10_comesTold_165 : decode cX10_comesTold 165 = .ok (.aload_n 0, 1) := by decide +kernel
theorem dX10_comesTold_166 : decode cX10_comesTold 166 = .ok (.getfield 81, 3) := by decide +kernel
theorem dX10_comesTold_169 : decode cX10_comesTold 169 = .ok (.bipush 6, 2) := by decide +kernel
theorem dX10_comesTold_171 : decode cX10_comesTold 171 = .ok (.if_icmp .ge 7, 3) := by decide +kernel
theorem dX10_comesTold_174 : decode cX10_comesTold 174 = .ok (.iconst 1, 1) := by decide +kernel
theorem dX10_comesTold_175 : decode cX10_comesTold 175 = .ok (.goto 4, 3) := by decide +kernel
theorem dX10_comesTold_178 : decode cX10_comesTold 178 = .ok (.iconst 0, 1) := by decide +kernel
theorem dX10_comesTold_179 : decode cX10_comesTold 179 = .ok (.istore 6, 2) := by decide +kernel
theorem dX10_comesTold_181 : decode cX10_comesTold 181 = .ok (.iload 6, 2) := by decide +kernel
theorem dX10_comesTold_183 : decode cX10_comesTold 183 = .ok (.ifCond .eq 23, 3) := by decide +kernel
theorem dX10_comesTold_186 : decode cX10_comesTold 186 = .ok (.aload_n 0, 1) := by decide +kernel
theorem dX10_comesTold_187 : decode cX10_comesTold 187 = .ok (.getfield 22, 3) := by decide +kernel
theorem dX10_comesTold_190 : decode cX10_comesTold 190 = .ok (.aload_n 0, 1) := by decide +kernel
theorem dX10_comesTold_191 : decode cX10_comesTold 191 = .ok (.getfield 81, 3) := by decide +kernel
theorem dX10_comesTold_194 : decode cX10_comesTold 194 = .ok (.iload_n 2, 1) := by decide +kernel
theorem dX10_comesTold_195 : decode cX10_comesTold 195 = .ok (.iastore, 1) := by decide +kernel
theorem dX10_comesTold_196 : decode cX10_comesTold 196 = .ok (.aload_n 0, 1) := by decide +kernel
theorem dX10_comesTold_197 : decode cX10_comesTold 197 = .ok (.dup, 1) := by decide +kernel
theorem dX10_comesTold_198 : decode cX10_comesTold 198 = .ok (.getfield 81, 3) := by decide +kernel
theorem dX10_comesTold_201 : decode cX10_comesTold 201 = .ok (.iconst 1, 1) := by decide +kernel
theorem dX10_comesTold_202 : decode cX10_comesTold 202 = .ok (.iadd, 1) := by decide +kernel
theorem dX10_comesTold_203 : decode cX10_comesTold 203 = .ok (.putfield 81, 3) := by decide +kernel
theorem dX10_comesTold_206 : decode cX10_comesTold 206 = .ok (.iload 6, 2) := by decide +kernel
theorem dX10_comesTold_208 : decode cX10_comesTold 208 = .ok (.ireturn, 1) := by decide +kernel
theorem dX10_comesTold_209 : decode cX10_comesTold 209 = .ok (.aload_n 0, 1) := by decide +kernel
theorem dX10_comesTold_210 : decode cX10_comesTold 210 = .ok (.iload_n 2, 1) := by decide +kernel
theorem dX10_comesTold_211 : decode cX10_comesTold 211 = .ok (.invokevirtual 160, 3) := by decide +kernel
theorem dX10_comesTold_214 : decode cX10_comesTold 214 = .ok (.ifCond .eq 26, 3) := by decide +kernel
theorem dX10_comesTold_217 : decode cX10_comesTold 217 = .ok (.iload_n 3, 1) := by decide +kernel
theorem dX10_comesTold_218 : decode cX10_comesTold 218 = .ok (.bipush 8, 2) := by decide +kernel
theorem dX10_comesTold_220 : decode cX10_comesTold 220 = .ok (.if_icmp .ge 20, 3) := by decide +kernel
theorem dX10_comesTold_223 : decode cX10_comesTold 223 = .ok (.aload_n 0, 1) := by decide +kernel
theorem dX10_comesTold_224 : decode cX10_comesTold 224 = .ok (.getfield 22, 3) := by decide +kernel
theorem dX10_comesTold_227 : decode cX10_comesTold 227 = .ok (.iload_n 2, 1) := by decide +kernel
theorem dX10_comesTold_228 : decode cX10_comesTold 228 = .ok (.iaload, 1) := by decide +kernel
theorem dX10_comesTold_229 : decode cX10_comesTold 229 = .ok (.iload_n 3, 1) := by decide +kernel
theorem dX10_comesTold_230 : decode cX10_comesTold 230 = .ok (.invokestatic 93, 3) := by decide +kernel
theorem dX10_comesTold_233 : decode cX10_comesTold 233 = .ok (.ifCond .eq 7, 3) := by decide +kernel
theorem dX10_comesTold_236 : decode cX10_comesTold 236 = .ok (.iconst 1, 1) := by decide +kernel
theorem dX10_comesTold_237 : decode cX10_comesTold 237 = .ok (.goto 4, 3) := by decide +kernel
theorem dX10_comesTold_240 : decode cX10_comesTold 240 = .ok (.iconst 0, 1) := by decide +kernel
theorem dX10_comesTold_241 : decode cX10_comesTold 241 = .ok (.istore 6, 2) := by decide +kernel
theorem dX10_comesTold_243 : decode cX10_comesTold 243 = .ok (.iload 6, 2) := by decide +kernel
theorem dX10_comesTold_245 : decode cX10_comesTold 245 = .ok (.ifCond .eq 9, 3) := by decide +kernel
theorem dX10_comesTold_248 : decode cX10_comesTold 248 = .ok (.aload_n 0, 1) := by decide +kernel
theorem dX10_comesTold_249 : decode cX10_comesTold 249 = .ok (.iload_n 2, 1) := by decide +kernel
theorem dX10_comesTold_250 : decode cX10_comesTold 250 = .ok (.iload_n 3, 1) := by decide +kernel
theorem dX10_comesTold_251 : decode cX10_comesTold 251 = .ok (.invokevirtual 163, 3) := by decide +kernel
theorem dX10_comesTold_254 : decode cX10_comesTold 254 = .ok (.iload 6, 2) := by decide +kernel
theorem dX10_comesTold_256 : decode cX10_comesTold 256 = .ok (.ireturn, 1) := by decide +kernel
theorem dX10_comesTold_257 : decode cX10_comesTold 257 = .ok (.aload_n 0, 1) := by decide +kernel
theorem dX10_comesTold_258 : decode cX10_comesTold 258 = .ok (.iload_n 2, 1) := by decide +kernel
theorem dX10_comesTold_259 : decode cX10_comesTold 259 = .ok (.invokevirtual 160, 3) := by decide +kernel
theorem dX10_comesTold_262 : decode cX10_comesTold 262 = .ok (.ifCond .eq 13, 3) := by decide +kernel
theorem dX10_comesTold_265 : decode cX10_comesTold 265 = .ok (.iload_n 3, 1) := by decide +kernel
theorem dX10_comesTold_266 : decode cX10_comesTold 266 = .ok (.bipush 8, 2) := by decide +kernel
theorem dX10_comesTold_268 : decode cX10_comesTold 268 = .ok (.if_icmp .ge 7, 3) := by decide +kernel
theorem dX10_comesTold_271 : decode cX10_comesTold 271 = .ok (.iconst 1, 1) := by decide +kernel
theorem dX10_comesTold_272 : decode cX10_comesTold 272 = .ok (.goto 4, 3) := by decide +kernel
theorem dX10_comesTold_275 : decode cX10_comesTold 275 = .ok (.iconst 0, 1) := by decide +kernel
theorem dX10_comesTold_276 : decode cX10_comesTold 276 = .ok (.istore 6, 2) := by decide +kernel
theorem dX10_comesTold_278 : decode cX10_comesTold 278 = .ok (.iload 6, 2) := by decide +kernel
theorem dX10_comesTold_280 : decode cX10_comesTold 280 = .ok (.ifCond .eq 9, 3) := by decide +kernel
theorem dX10_comesTold_283 : decode cX10_comesTold 283 = .ok (.aload_n 0, 1) := by decide +kernel
theorem dX10_comesTold_284 : decode cX10_comesTold 284 = .ok (.iload_n 2, 1) := by decide +kernel
theorem dX10_comesTold_285 : decode cX10_comesTold 285 = .ok (.iload_n 3, 1) := by decide +kernel
theorem dX10_comesTold_286 : decode cX10_comesTold 286 = .ok (.invokevirtual 166, 3) := by decide +kernel
theorem dX10_comesTold_289 : decode cX10_comesTold 289 = .ok (.iload 6, 2) := by decide +kernel
theorem dX10_comesTold_291 : decode cX10_comesTold 291 = .ok (.ireturn, 1) := by decide +kernel
theorem dX10_comesTold_292 : decode cX10_comesTold 292 = .ok (.aload_n 0, 1) := by decide +kernel
theorem dX10_comesTold_293 : decode cX10_comesTold 293 = .ok (.iconst 0, 1) := by decide +kernel
theorem dX10_comesTold_294 : decode cX10_comesTold 294 = .ok (.putfield 97, 3) := by decide +kernel
theorem dX10_comesTold_297 : decode cX10_comesTold 297 = .ok (.iconst 1, 1) := by decide +kernel
theorem dX10_comesTold_298 : decode cX10_comesTold 298 = .ok (.ireturn, 1) := by decide +kernel
theorem dX10_comesTold_299 : decode cX10_comesTold 299 = .ok (.aload_n 0, 1) := by decide +kernel
theorem dX10_comesTold_300 : decode cX10_comesTold 300 = .ok (.getfield 118, 3) := by decide +kernel
theorem dX10_comesTold_303 : decode cX10_comesTold 303 = .ok (.sipush 999, 3) := by decide +kernel
theorem dX10_comesTold_306 : decode cX10_comesTold 306 = .ok (.if_icmp .ge 7, 3) := by decide +kernel
theorem dX10_comesTold_309 : decode cX10_comesTold 309 = .ok (.iconst 1, 1) := by decide +kernel
theorem dX10_comesTold_310 : decode cX10_comesTold 310 = .ok (.goto 4, 3) := by decide +kernel
theorem dX10_comesTold_313 : decode cX10_comesTold 313 = .ok (.iconst 0, 1) := by decide +kernel
theorem dX10_comesTold_314 : decode cX10_comesTold 314 = .ok (.istore 6, 2) := by decide +kernel
theorem dX10_comesTold_316 : decode cX10_comesTold 316 = .ok (.iload 6, 2) := by decide +kernel
theorem dX10_comesTold_318 : decode cX10_comesTold 318 = .ok (.ifCond .eq 8, 3) := by decide +kernel
theorem dX10_comesTold_321 : decode cX10_comesTold 321 = .ok (.aload_n 0, 1) := by decide +kernel
theorem dX10_comesTold_322 : decode cX10_comesTold 322 = .ok (.invokevirtual 169, 3) := by decide +kernel
theorem dX10_comesTold_325 : decode cX10_comesTold 325 = .ok (.pop, 1) := by decide +kernel
theorem dX10_comesTold_326 : decode cX10_comesTold 326 = .ok (.iload 6, 2) := by decide +kernel
theorem dX10_comesTold_328 : decode cX10_comesTold 328 = .ok (.ireturn, 1) := by decide +kernel
theorem dX10_mill_0 : decode cX10_mill 0 = .ok (.aload_n 0, 1) := by decide +kernel
theorem dX10_mill_1 : decode cX10_mill 1 = .ok (.iconst 0, 1) := by decide +kernel
theorem dX10_mill_2 : decode cX10_mill 2 = .ok (.putfield 78, 3) := by decide +kernel
theorem dX10_mill_5 : decode cX10_mill 5 = .ok (.aload_n 0, 1) := by decide +kernel
theorem dX10_mill_6 : decode cX10_mill 6 = .ok (.iconst 0, 1) := by decide +kernel
theorem dX10_mill_7 : decode cX10_mill 7 = .ok (.putfield 127, 3) := by decide +kernel
theorem dX10_mill_10 : decode cX10_mill 10 = .ok (.aload_n 0, 1) := by decide +kernel
theorem dX10_mill_11 : decode cX10_mill 11 = .ok (.iconst 0, 1) := by decide +kernel
theorem dX10_mill_12 : decode cX10_mill 12 = .ok (.putfield 130, 3) := by decide +kernel
theorem dX10_mill_15 : decode cX10_mill 15 = .ok (.aload_n 0, 1) := by decide +kernel
theorem dX10_mill_16 : decode cX10_mill 16 = .ok (.iconst 0, 1) := by decide +kernel
theorem dX10_mill_17 : decode cX10_mill 17 = .ok (.putfield 145, 3) := by decide +kernel
theorem dX10_mill_20 : decode cX10_mill 20 = .ok (.aload_n 0, 1) := by decide +kernel
theorem dX10_mill_21 : decode cX10_mill 21 = .ok (.getfield 130, 3) := by decide +kernel
theorem dX10_mill_24 : decode cX10_mill 24 = .ok (.ifCond .ne 28, 3) := by decide +kernel
theorem dX10_mill_27 : decode cX10_mill 27 = .ok (.aload_n 0, 1) := by decide +kernel
theorem dX10_mill_28 : decode cX10_mill 28 = .ok (.getfield 145, 3) := by decide +kernel
theorem dX10_mill_31 : decode cX10_mill 31 = .ok (.ifCond .eq 14, 3) := by decide +kernel
theorem dX10_mill_34 : decode cX10_mill 34 = .ok (.aload_n 0, 1) := by decide +kernel
theorem dX10_mill_35 : decode cX10_mill 35 = .ok (.getfield 127, 3) := by decide +kernel
theorem dX10_mill_38 : decode cX10_mill 38 = .ok (.aload_n 0, 1) := by decide +kernel
theorem dX10_mill_39 : decode cX10_mill 39 = .ok (.getfield 124, 3) := by decide +kernel
theorem dX10_mill_42 : decode cX10_mill 42 = .ok (.if_icmp .ge 10, 3) := by decide +kernel
theorem dX10_mill_45 : decode cX10_mill 45 = .ok (.aload_n 0, 1) := by decide +kernel
theorem dX10_mill_46 : decode cX10_mill 46 = .ok (.invokevirtual 172, 3) := by decide +kernel
theorem dX10_mill_49 : decode cX10_mill 49 = .ok (.goto (-29), 3) := by decide +kernel
theorem dX10_mill_52 : decode cX10_mill 52 = .ok (.aload_n 0, 1) := by decide +kernel
theorem dX10_mill_53 : decode cX10_mill 53 = .ok (.iconst 0, 1) := by decide +kernel
theorem dX10_mill_54 : decode cX10_mill 54 = .ok (.putfield 124, 3) := by decide +kernel
theorem dX10_mill_57 : decode cX10_mill 57 = .ok (.aload_n 0, 1) := by decide +kernel
theorem dX10_mill_58 : decode cX10_mill 58 = .ok (.getfield 130, 3) := by decide +kernel
theorem dX10_mill_61 : decode cX10_mill 61 = .ok (.ifCond .eq 12, 3) := by decide +kernel
theorem dX10_mill_64 : decode cX10_mill 64 = .ok (.sipush (-1000), 3) := by decide +kernel
theorem dX10_mill_67 : decode cX10_mill 67 = .ok (.aload_n 0, 1) := by decide +kernel
theorem dX10_mill_68 : decode cX10_mill 68 = .ok (.getfield 127, 3) := by decide +kernel
theorem dX10_mill_71 : decode cX10_mill 71 = .ok (.isub, 1) := by decide +kernel
theorem dX10_mill_72 : decode cX10_mill 72 = .ok (.ireturn, 1) := by decide +kernel
theorem dX10_mill_73 : decode cX10_mill 73 = .ok (.aload_n 0, 1) := by decide +kernel
theorem dX10_mill_74 : decode cX10_mill 74 = .ok (.invokevirtual 175, 3) := by decide +kernel
theorem dX10_mill_77 : decode cX10_mill 77 = .ok (.iconst 0, 1) := by decide +kernel
theorem dX10_mill_78 : decode cX10_mill 78 = .ok (.istore_n 1, 1) := by decide +kernel
theorem dX10_mill_79 : decode cX10_mill 79 = .ok (.iload_n 1, 1) := by decide +kernel
theorem dX10_mill_80 : decode cX10_mill 80 = .ok (.aload_n 0, 1) := by decide +kernel
theorem dX10_mill_81 : decode cX10_mill 81 = .ok (.getfield 145, 3) := by decide +kernel
theorem dX10_mill_84 : decode cX10_mill 84 = .ok (.if_icmp .ge 32, 3) := by decide +kernel
theorem dX10_mill_87 : decode cX10_mill 87 = .ok (.aload_n 0, 1) := by decide +kernel
theorem dX10_mill_88 : decode cX10_mill 88 = .ok (.iload_n 1, 1) := by decide +kernel
theorem dX10_mill_89 : decode cX10_mill 89 = .ok (.invokevirtual 178, 3) := by decide +kernel
theorem dX10_mill_92 : decode cX10_mill 92 = .ok (.ifCond .ne 18, 3) := by decide +kernel
theorem dX10_mill_95 : decode cX10_mill 95 = .ok (.aload_n 0, 1) := by decide +kernel
theorem dX10_mill_96 : decode cX10_mill 96 = .ok (.invokevirtual 181, 3) := by decide +kernel
theorem dX10_mill_99 : decode cX10_mill 99 = .ok (.sipush (-2000), 3) := by decide +kernel
theorem dX10_mill_102 : decode cX10_mill 102 = .ok (.aload_n 0, 1) := by decide +kernel
theorem dX10_mill_103 : decode cX10_mill 103 = .ok (.getfield 41, 3) := by decide +kernel
theorem dX10_mill_106 : decode cX10_mill 106 = .ok (.iload_n 1, 1) := by decide +kernel
theorem dX10_mill_107 : decode cX10_mill 107 = .ok (.iaload, 1) := by decide +kernel
theorem dX10_mill_108 : decode cX10_mill 108 = .ok (.isub, 1) := by decide +kernel
theorem dX10_mill_109 : decode cX10_mill 109 = .ok (.ireturn, 1) := by decide +kernel
theorem dX10_mill_110 : decode cX10_mill 110 = .ok (.iinc 1 1, 3) := by decide +kernel
theorem dX10_mill_113 : decode cX10_mill 113 = .ok (.goto (-34), 3) := by decide +kernel
theorem dX10_mill_116 : decode cX10_mill 116 = .ok (.aload_n 0, 1) := by decide +kernel
theorem dX10_mill_117 : decode cX10_mill 117 = .ok (.iconst 0, 1) := by decide +kernel
theorem dX10_mill_118 : decode cX10_mill 118 = .ok (.putfield 184, 3) := by decide +kernel
theorem dX10_mill_121 : decode cX10_mill 121 = .ok (.aload_n 0, 1) := by decide +kernel
theorem dX10_mill_122 : decode cX10_mill 122 = .ok (.getfield 145, 3) := by decide +kernel
theorem dX10_mill_125 : decode cX10_mill 125 = .ok (.ireturn, 1) := by decide +kernel
theorem dX10_carry_0 : decode cX10_carry 0 = .ok (.aload_n 0, 1) := by decide +kernel
theorem dX10_carry_1 : decode cX10_carry 1 = .ok (.getfield 187, 3) := by decide +kernel
theorem dX10_carry_4 : decode cX10_carry 4 = .ok (.ifCond .eq 13, 3) := by decide +kernel
theorem dX10_carry_7 : decode cX10_carry 7 = .ok (.aload_n 0, 1) := by decide +kernel
theorem dX10_carry_8 : decode cX10_carry 8 = .ok (.getfield 190, 3) := by decide +kernel
theorem dX10_carry_11 : decode cX10_carry 11 = .ok (.aload_n 0, 1) := by decide +kernel
theorem dX10_carry_12 : decode cX10_carry 12 = .ok (.getfield 193, 3) := by decide +kernel
theorem dX10_carry_15 : decode cX10_carry 15 = .ok (.iload_n 1, 1) := by decide +kernel
theorem dX10_carry_16 : decode cX10_carry 16 = .ok (.iastore, 1) := by decide +kernel
theorem dX10_carry_17 : decode cX10_carry 17 = .ok (.aload_n 0, 1) := by decide +kernel
theorem dX10_carry_18 : decode cX10_carry 18 = .ok (.dup, 1) := by decide +kernel
theorem dX10_carry_19 : decode cX10_carry 19 = .ok (.getfield 193, 3) := by decide +kernel
theorem dX10_carry_22 : decode cX10_carry 22 = .ok (.iconst 1, 1) := by decide +kernel
theorem dX10_carry_23 : decode cX10_carry 23 = .ok (.iadd, 1) := by decide +kernel
theorem dX10_carry_24 : decode cX10_carry 24 = .ok (.putfield 193, 3) := by decide +kernel
theorem dX10_carry_27 : decode cX10_carry 27 = .ok (.aload_n 0, 1) := by decide +kernel
theorem dX10_carry_28 : decode cX10_carry 28 = .ok (.getfield 190, 3) := by decide +kernel
theorem dX10_carry_31 : decode cX10_carry 31 = .ok (.aload_n 0, 1) := by decide +kernel
theorem dX10_carry_32 : decode cX10_carry 32 = .ok (.getfield 193, 3) := by decide +kernel
theorem dX10_carry_35 : decode cX10_carry 35 = .ok (.iconst 1, 1) := by decide +kernel
theorem dX10_carry_36 : decode cX10_carry 36 = .ok (.isub, 1) := by decide +kernel
theorem dX10_carry_37 : decode cX10_carry 37 = .ok (.iaload, 1) := by decide +kernel
theorem dX10_carry_38 : decode cX10_carry 38 = .ok (.ireturn, 1) := by decide +kernel
theorem dX10_carryAll_0 : decode cX10_carryAll 0 = .ok (.aload_n 0, 1) := by decide +kernel
theorem dX10_carryAll_1 : decode cX10_carryAll 1 = .ok (.aload_n 1, 1) := by decide +kernel
theorem dX10_carryAll_2 : decode cX10_carryAll 2 = .ok (.putfield 190, 3) := by decide +kernel
theorem dX10_carryAll_5 : decode cX10_carryAll 5 = .ok (.aload_n 0, 1) := by decide +kernel
theorem dX10_carryAll_6 : decode cX10_carryAll 6 = .ok (.iload_n 2, 1) := by decide +kernel
theorem dX10_carryAll_7 : decode cX10_carryAll 7 = .ok (.putfield 187, 3) := by decide +kernel
theorem dX10_carryAll_10 : decode cX10_carryAll 10 = .ok (.aload_n 0, 1) := by decide +kernel
theorem dX10_carryAll_11 : decode cX10_carryAll 11 = .ok (.iconst 0, 1) := by decide +kernel
theorem dX10_carryAll_12 : decode cX10_carryAll 12 = .ok (.putfield 193, 3) := by decide +kernel
theorem dX10_carryAll_15 : decode cX10_carryAll 15 = .ok (.aload_n 0, 1) := by decide +kernel
theorem dX10_carryAll_16 : decode cX10_carryAll 16 = .ok (.aload_n 0, 1) := by decide +kernel
theorem dX10_carryAll_17 : decode cX10_carryAll 17 = .ok (.aload_n 0, 1) := by decide +kernel
theorem dX10_carryAll_18 : decode cX10_carryAll 18 = .ok (.getfield 88, 3) := by decide +kernel
theorem dX10_carryAll_21 : decode cX10_carryAll 21 = .ok (.invokevirtual 196, 3) := by decide +kernel
theorem dX10_carryAll_24 : decode cX10_carryAll 24 = .ok (.putfield 88, 3) := by decide +kernel
theorem dX10_carryAll_27 : decode cX10_carryAll 27 = .ok (.aload_n 0, 1) := by decide +kernel
theorem dX10_carryAll_28 : decode cX10_carryAll 28 = .ok (.aload_n 0, 1) := by decide +kernel
theorem dX10_carryAll_29 : decode cX10_carryAll 29 = .ok (.aload_n 0, 1) := by decide +kernel
theorem dX10_carryAll_30 : decode cX10_carryAll 30 = .ok (.getfield 81, 3) := by decide +kernel
theorem dX10_carryAll_33 : decode cX10_carryAll 33 = .ok (.invokevirtual 196, 3) := by decide +kernel
theorem dX10_carryAll_36 : decode cX10_carryAll 36 = .ok (.putfield 81, 3) := by decide +kernel
theorem dX10_carryAll_39 : decode cX10_carryAll 39 = .ok (.aload_n 0, 1) := by decide +kernel
theorem dX10_carryAll_40 : decode cX10_carryAll 40 = .ok (.aload_n 0, 1) := by decide +kernel
theorem dX10_carryAll_41 : decode cX10_carryAll 41 = .ok (.aload_n 0, 1) := by decide +kernel
theorem dX10_carryAll_42 : decode cX10_carryAll 42 = .ok (.getfield 97, 3) := by decide +kernel
theorem dX10_carryAll_45 : decode cX10_carryAll 45 = .ok (.invokevirtual 196, 3) := by decide +kernel
theorem dX10_carryAll_48 : decode cX10_carryAll 48 = .ok (.putfield 97, 3) := by decide +kernel
theorem dX10_carryAll_51 : decode cX10_carryAll 51 = .ok (.aload_n 0, 1) := by decide +kernel
theorem dX10_carryAll_52 : decode cX10_carryAll 52 = .ok (.aload_n 0, 1) := by decide +kernel
theorem dX10_carryAll_53 : decode cX10_carryAll 53 = .ok (.aload_n 0, 1) := by decide +kernel
theorem dX10_carryAll_54 : decode cX10_carryAll 54 = .ok (.getfield 118, 3) := by decide +kernel
theorem dX10_carryAll_57 : decode cX10_carryAll 57 = .ok (.invokevirtual 196, 3) := by decide +kernel
theorem dX10_carryAll_60 : decode cX10_carryAll 60 = .ok (.putfield 118, 3) := by decide +kernel
theorem dX10_carryAll_63 : decode cX10_carryAll 63 = .ok (.iconst 0, 1) := by decide +kernel
theorem dX10_carryAll_64 : decode cX10_carryAll 64 = .ok (.istore_n 3, 1) := by decide +kernel
theorem dX10_carryAll_65 : decode cX10_carryAll 65 = .ok (.iload_n 3, 1) := by decide +kernel
theorem dX10_carryAll_66 : decode cX10_carryAll 66 = .ok (.bipush 10, 2) := by decide +kernel
theorem dX10_carryAll_68 : decode cX10_carryAll 68 = .ok (.if_icmp .ge 73, 3) := by decide +kernel
theorem dX10_carryAll_71 : decode cX10_carryAll 71 = .ok (.aload_n 0, 1) := by decide +kernel
theorem dX10_carryAll_72 : decode cX10_carryAll 72 = .ok (.getfield 7, 3) := by decide +kernel
theorem dX10_carryAll_75 : decode cX10_carryAll 75 = .ok (.iload_n 3, 1) := by decide +kernel
theorem dX10_carryAll_76 : decode cX10_carryAll 76 = .ok (.aload_n 0, 1) := by decide +kernel
theorem dX10_carryAll_77 : decode cX10_carryAll 77 = .ok (.aload_n 0, 1) := by decide +kernel
theorem dX10_carryAll_78 : decode cX10_carryAll 78 = .ok (.getfield 7, 3) := by decide +kernel
theorem dX10_carryAll_81 : decode cX10_carryAll 81 = .ok (.iload_n 3, 1) := by decide +kernel
theorem dX10_carryAll_82 : decode cX10_carryAll 82 = .ok (.iaload, 1) := by decide +kernel
theorem dX10_carryAll_83 : decode cX10_carryAll 83 = .ok (.invokevirtual 196, 3) := by decide +kernel
theorem dX10_carryAll_86 : decode cX10_carryAll 86 = .ok (.iastore, 1) := by decide +kernel
theorem dX10_carryAll_87 : decode cX10_carryAll 87 = .ok (.aload_n 0, 1) := by decide +kernel
theorem dX10_carryAll_88 : decode cX10_carryAll 88 = .ok (.getfield 13, 3) := by decide +kernel
theorem dX10_carryAll_91 : decode cX10_carryAll 91 = .ok (.iload_n 3, 1) := by decide +kernel
theorem dX10_carryAll_92 : decode cX10_carryAll 92 = .ok (.aload_n 0, 1) := by decide +kernel
theorem dX10_carryAll_93 : decode cX10_carryAll 93 = .ok (.aload_n 0, 1) := by decide +kernel
theorem dX10_carryAll_94 : decode cX10_carryAll 94 = .ok (.getfield 13, 3) := by decide +kernel
theorem dX10_carryAll_97 : decode cX10_carryAll 97 = .ok (.iload_n 3, 1) := by decide +kernel
theorem dX10_carryAll_98 : decode cX10_carryAll 98 = .ok (.iaload, 1) := by decide +kernel
theorem dX10_carryAll_99 : decode cX10_carryAll 99 = .ok (.invokevirtual 196, 3) := by decide +kernel
theorem dX10_carryAll_102 : decode cX10_carryAll 102 = .ok (.iastore, 1) := by decide +kernel
theorem dX10_carryAll_103 : decode cX10_carryAll 103 = .ok (.aload_n 0, 1) := by decide +kernel
theorem dX10_carryAll_104 : decode cX10_carryAll 104 = .ok (.getfield 16, 3) := by decide +kernel
theorem dX10_carryAll_107 : decode cX10_carryAll 107 = .ok (.iload_n 3, 1) := by decide +kernel
theorem dX10_carryAll_108 : decode cX10_carryAll 108 = .ok (.aload_n 0, 1) := by decide +kernel
theorem dX10_carryAll_109 : decode cX10_carryAll 109 = .ok (.aload_n 0, 1) := by decide +kernel
theorem dX10_carryAll_110 : decode cX10_carryAll 110 = .ok (.getfield 16, 3) := by decide +kernel
theorem dX10_carryAll_113 : decode cX10_carryAll 113 = .ok (.iload_n 3, 1) := by decide +kernel
theorem dX10_carryAll_114 : decode cX10_carryAll 114 = .ok (.iaload, 1) := by decide +kernel
theorem dX10_carryAll_115 : decode cX10_carryAll 115 = .ok (.invokevirtual 196, 3) := by decide +kernel
theorem dX10_carryAll_118 : decode cX10_carryAll 118 = .ok (.iastore, 1) := by decide +kernel
theorem dX10_carryAll_119 : decode cX10_carryAll 119 = .ok (.aload_n 0, 1) := by decide +kernel
theorem dX10_carryAll_120 : decode cX10_carryAll 120 = .ok (.getfield 19, 3) := by decide +kernel
theorem dX10_carryAll_123 : decode cX10_carryAll 123 = .ok (.iload_n 3, 1) := by decide +kernel
theorem dX10_carryAll_124 : decode cX10_carryAll 124 = .ok (.aload_n 0, 1) := by decide +kernel
theorem dX10_carryAll_125 : decode cX10_carryAll 125 = .ok (.aload_n 0, 1) := by decide +kernel
theorem dX10_carryAll_126 : decode cX10_carryAll 126 = .ok (.getfield 19, 3) := by decide +kernel
theorem dX10_carryAll_129 : decode cX10_carryAll 129 = .ok (.iload_n 3, 1) := by decide +kernel
theorem dX10_carryAll_130 : decode cX10_carryAll 130 = .ok (.iaload, 1) := by decide +kernel
theorem dX10_carryAll_131 : decode cX10_carryAll 131 = .ok (.invokevirtual 196, 3) := by decide +kernel
theorem dX10_carryAll_134 : decode cX10_carryAll 134 = .ok (.iastore, 1) := by decide +kernel
theorem dX10_carryAll_135 : decode cX10_carryAll 135 = .ok (.iinc 3 1, 3) := by decide +kernel
theorem dX10_carryAll_138 : decode cX10_carryAll 138 = .ok (.goto (-73), 3) := by decide +kernel
theorem dX10_carryAll_141 : decode cX10_carryAll 141 = .ok (.iconst 0, 1) := by decide +kernel
theorem dX10_carryAll_142 : decode cX10_carryAll 142 = .ok (.istore_n 3, 1) := by decide +kernel
theorem dX10_carryAll_143 : decode cX10_carryAll 143 = .ok (.iload_n 3, 1) := by decide +kernel
theorem dX10_carryAll_144 : decode cX10_carryAll 144 = .ok (.bipush 6, 2) := by decide +kernel
theorem dX10_carryAll_146 : decode cX10_carryAll 146 = .ok (.if_icmp .ge 25, 3) := by decide +kernel
theorem dX10_carryAll_149 : decode cX10_carryAll 149 = .ok (.aload_n 0, 1) := by decide +kernel
theorem dX10_carryAll_150 : decode cX10_carryAll 150 = .ok (.getfield 22, 3) := by decide +kernel
theorem dX10_carryAll_153 : decode cX10_carryAll 153 = .ok (.iload_n 3, 1) := by decide +kernel
theorem dX10_carryAll_154 : decode cX10_carryAll 154 = .ok (.aload_n 0, 1) := by decide +kernel
theorem dX10_carryAll_155 : decode cX10_carryAll 155 = .ok (.aload_n 0, 1) := by decide +kernel
theorem dX10_carryAll_156 : decode cX10_carryAll 156 = .ok (.getfield 22, 3) := by decide +kernel
theorem dX10_carryAll_159 : decode cX10_carryAll 159 = .ok (.iload_n 3, 1) := by decide +kernel
theorem dX10_carryAll_160 : decode cX10_carryAll 160 = .ok (.iaload, 1) := by decide +kernel
theorem dX10_carryAll_161 : decode cX10_carryAll 161 = .ok (.invokevirtual 196, 3) := by decide +kernel
theorem dX10_carryAll_164 : decode cX10_carryAll 164 = .ok (.iastore, 1) := by decide +kernel
theorem dX10_carryAll_165 : decode cX10_carryAll 165 = .ok (.iinc 3 1, 3) := by decide +kernel
theorem dX10_carryAll_168 : decode cX10_carryAll 168 = .ok (.goto (-25), 3) := by decide +kernel
theorem dX10_carryAll_171 : decode cX10_carryAll 171 = .ok (.return_, 1) := by decide +kernel
theorem dX10_think_0 : decode cX10_think 0 = .ok (.aload_n 0, 1) := by decide +kernel
theorem dX10_think_1 : decode cX10_think 1 = .ok (.aload_n 0, 1) := by decide +kernel
theorem dX10_think_2 : decode cX10_think 2 = .ok (.getfield 50, 3) := by decide +kernel
theorem dX10_think_5 : decode cX10_think 5 = .ok (.iconst 1, 1) := by decide +kernel
theorem dX10_think_6 : decode cX10_think 6 = .ok (.invokevirtual 199, 3) := by decide +kernel
theorem dX10_think_9 : decode cX10_think 9 = .ok (.return_, 1) := by decide +kernel
theorem dX10_again_0 : decode cX10_again 0 = .ok (.aload_n 0, 1) := by decide +kernel
theorem dX10_again_1 : decode cX10_again 1 = .ok (.aload_n 0, 1) := by decide +kernel
theorem dX10_again_2 : decode cX10_again 2 = .ok (.getfield 50, 3) := by decide +kernel
theorem dX10_again_5 : decode cX10_again 5 = .ok (.iconst 0, 1) := by decide +kernel
theorem dX10_again_6 : decode cX10_again 6 = .ok (.invokevirtual 199, 3) := by decide +kernel
theorem dX10_again_9 : decode cX10_again 9 = .ok (.return_, 1) := by decide +kernel
theorem dX10_image_0 : decode cX10_image 0 = .ok (.aload_n 0, 1) := by decide +kernel
theorem dX10_image_1 : decode cX10_image 1 = .ok (.iconst 0, 1) := by decide +kernel
theorem dX10_image_2 : decode cX10_image 2 = .ok (.putfield 78, 3) := by decide +kernel
theorem dX10_image_5 : decode cX10_image 5 = .ok (.aload_n 0, 1) := by decide +kernel
theorem dX10_image_6 : decode cX10_image 6 = .ok (.iconst 1, 1) := by decide +kernel
theorem dX10_image_7 : decode cX10_image 7 = .ok (.putfield 203, 3) := by decide +kernel
theorem dX10_image_10 : decode cX10_image 10 = .ok (.aload_n 0, 1) := by decide +kernel
theorem dX10_image_11 : decode cX10_image 11 = .ok (.aload_n 0, 1) := by decide +kernel
theorem dX10_image_12 : decode cX10_image 12 = .ok (.getfield 53, 3) := by decide +kernel
theorem dX10_image_15 : decode cX10_image 15 = .ok (.iconst 1, 1) := by decide +kernel
theorem dX10_image_16 : decode cX10_image 16 = .ok (.invokevirtual 199, 3) := by decide +kernel
theorem dX10_image_19 : decode cX10_image 19 = .ok (.aload_n 0, 1) := by decide +kernel
theorem dX10_image_20 : decode cX10_image 20 = .ok (.getfield 118, 3) := by decide +kernel
theorem dX10_image_23 : decode cX10_image 23 = .ok (.ireturn, 1) := by decide +kernel
theorem dX10_restore_0 : decode cX10_restore 0 = .ok (.aload_n 0, 1) := by decide +kernel
theorem dX10_restore_1 : decode cX10_restore 1 = .ok (.iconst 0, 1) := by decide +kernel
theorem dX10_restore_2 : decode cX10_restore 2 = .ok (.putfield 78, 3) := by decide +kernel
theorem dX10_restore_5 : decode cX10_restore 5 = .ok (.aload_n 0, 1) := by decide +kernel
theorem dX10_restore_6 : decode cX10_restore 6 = .ok (.getfield 203, 3) := by decide +kernel
theorem dX10_restore_9 : decode cX10_restore 9 = .ok (.ifCond .ne 10, 3) := by decide +kernel
theorem dX10_restore_12 : decode cX10_restore 12 = .ok (.aload_n 0, 1) := by decide +kernel
theorem dX10_restore_13 : decode cX10_restore 13 = .ok (.bipush (-3), 2) := by decide +kernel
theorem dX10_restore_15 : decode cX10_restore 15 = .ok (.invokevirtual 121, 3) := by decide +kernel
theorem dX10_restore_18 : decode cX10_restore 18 = .ok (.ireturn, 1) := by decide +kernel
theorem dX10_restore_19 : decode cX10_restore 19 = .ok (.aload_n 0, 1) := by decide +kernel
theorem dX10_restore_20 : decode cX10_restore 20 = .ok (.aload_n 0, 1) := by decide +kernel
theorem dX10_restore_21 : decode cX10_restore 21 = .ok (.getfield 53, 3) := by decide +kernel
theorem dX10_restore_24 : decode cX10_restore 24 = .ok (.iconst 0, 1) := by decide +kernel
theorem dX10_restore_25 : decode cX10_restore 25 = .ok (.invokevirtual 199, 3) := by decide +kernel
theorem dX10_restore_28 : decode cX10_restore 28 = .ok (.aload_n 0, 1) := by decide +kernel
theorem dX10_restore_29 : decode cX10_restore 29 = .ok (.iconst 0, 1) := by decide +kernel
theorem dX10_restore_30 : decode cX10_restore 30 = .ok (.putfield 184, 3) := by decide +kernel
theorem dX10_restore_33 : decode cX10_restore 33 = .ok (.aload_n 0, 1) := by decide +kernel
theorem dX10_restore_34 : decode cX10_restore 34 = .ok (.getfield 118, 3) := by decide +kernel
theorem dX10_restore_37 : decode cX10_restore 37 = .ok (.ireturn, 1) := by decide +kernel
theorem dX10_keepTurn_0 : decode cX10_keepTurn 0 = .ok (.aload_n 0, 1) := by decide +kernel
theorem dX10_keepTurn_1 : decode cX10_keepTurn 1 = .ok (.getfield 184, 3) := by decide +kernel
theorem dX10_keepTurn_4 : decode cX10_keepTurn 4 = .ok (.bipush 8, 2) := by decide +kernel
theorem dX10_keepTurn_6 : decode cX10_keepTurn 6 = .ok (.if_icmp .ne 44, 3) := by decide +kernel
theorem dX10_keepTurn_9 : decode cX10_keepTurn 9 = .ok (.bipush 50, 2) := by decide +kernel
theorem dX10_keepTurn_11 : decode cX10_keepTurn 11 = .ok (.istore_n 1, 1) := by decide +kernel
theorem dX10_keepTurn_12 : decode cX10_keepTurn 12 = .ok (.iload_n 1, 1) := by decide +kernel
theorem dX10_keepTurn_13 : decode cX10_keepTurn 13 = .ok (.sipush 400, 3) := by decide +kernel
theorem dX10_keepTurn_16 : decode cX10_keepTurn 16 = .ok (.if_icmp .ge 24, 3) := by decide +kernel
theorem dX10_keepTurn_19 : decode cX10_keepTurn 19 = .ok (.aload_n 0, 1) := by decide +kernel
theorem dX10_keepTurn_20 : decode cX10_keepTurn 20 = .ok (.getfield 56, 3) := by decide +kernel
theorem dX10_keepTurn_23 : decode cX10_keepTurn 23 = .ok (.iload_n 1, 1) := by decide +kernel
theorem dX10_keepTurn_24 : decode cX10_keepTurn 24 = .ok (.bipush 50, 2) := by decide +kernel
theorem dX10_keepTurn_26 : decode cX10_keepTurn 26 = .ok (.isub, 1) := by decide +kernel
theorem dX10_keepTurn_27 : decode cX10_keepTurn 27 = .ok (.aload_n 0, 1) := by decide +kernel
theorem dX10_keepTurn_28 : decode cX10_keepTurn 28 = .ok (.getfield 56, 3) := by decide +kernel
theorem dX10_keepTurn_31 : decode cX10_keepTurn 31 = .ok (.iload_n 1, 1) := by decide +kernel
theorem dX10_keepTurn_32 : decode cX10_keepTurn 32 = .ok (.iaload, 1) := by decide +kernel
theorem dX10_keepTurn_33 : decode cX10_keepTurn 33 = .ok (.iastore, 1) := by decide +kernel
theorem dX10_keepTurn_34 : decode cX10_keepTurn 34 = .ok (.iinc 1 1, 3) := by decide +kernel
theorem dX10_keepTurn_37 : decode cX10_keepTurn 37 = .ok (.goto (-25), 3) := by decide +kernel
theorem dX10_keepTurn_40 : decode cX10_keepTurn 40 = .ok (.aload_n 0, 1) := by decide +kernel
theorem dX10_keepTurn_41 : decode cX10_keepTurn 41 = .ok (.dup, 1) := by decide +kernel
theorem dX10_keepTurn_42 : decode cX10_keepTurn 42 = .ok (.getfield 184, 3) := by decide +kernel
theorem dX10_keepTurn_45 : decode cX10_keepTurn 45 = .ok (.iconst 1, 1) := by decide +kernel
theorem dX10_keepTurn_46 : decode cX10_keepTurn 46 = .ok (.isub, 1) := by decide +kernel
theorem dX10_keepTurn_47 : decode cX10_keepTurn 47 = .ok (.putfield 184, 3) := by decide +kernel
theorem dX10_keepTurn_50 : decode cX10_keepTurn 50 = .ok (.aload_n 0, 1) := by decide +kernel
theorem dX10_keepTurn_51 : decode cX10_keepTurn 51 = .ok (.aload_n 0, 1) := by decide +kernel
theorem dX10_keepTurn_52 : decode cX10_keepTurn 52 = .ok (.getfield 59, 3) := by decide +kernel
theorem dX10_keepTurn_55 : decode cX10_keepTurn 55 = .ok (.iconst 1, 1) := by decide +kernel
theorem dX10_keepTurn_56 : decode cX10_keepTurn 56 = .ok (.invokevirtual 199, 3) := by decide +kernel
theorem dX10_keepTurn_59 : decode cX10_keepTurn 59 = .ok (.iconst 0, 1) := by decide +kernel
theorem dX10_keepTurn_60 : decode cX10_keepTurn 60 = .ok (.istore_n 1, 1) := by decide +kernel
theorem dX10_keepTurn_61 : decode cX10_keepTurn 61 = .ok (.iload_n 1, 1) := by decide +kernel
theorem dX10_keepTurn_62 : decode cX10_keepTurn 62 = .ok (.bipush 50, 2) := by decide +kernel
theorem dX10_keepTurn_64 : decode cX10_keepTurn 64 = .ok (.if_icmp .ge 29, 3) := by decide +kernel
theorem dX10_keepTurn_67 : decode cX10_keepTurn 67 = .ok (.aload_n 0, 1) := by decide +kernel
theorem dX10_keepTurn_68 : decode cX10_keepTurn 68 = .ok (.getfield 56, 3) := by decide +kernel
theorem dX10_keepTurn_71 : decode cX10_keepTurn 71 = .ok (.bipush 50, 2) := by decide +kernel
theorem dX10_keepTurn_73 : decode cX10_keepTurn 73 = .ok (.aload_n 0, 1) := by decide +kernel
theorem dX10_keepTurn_74 : decode cX10_keepTurn 74 = .ok (.getfield 184, 3) := by decide +kernel
theorem dX10_keepTurn_77 : decode cX10_keepTurn 77 = .ok (.imul, 1) := by decide +kernel
theorem dX10_keepTurn_78 : decode cX10_keepTurn 78 = .ok (.iload_n 1, 1) := by decide +kernel
theorem dX10_keepTurn_79 : decode cX10_keepTurn 79 = .ok (.iadd, 1) := by decide +kernel
theorem dX10_keepTurn_80 : decode cX10_keepTurn 80 = .ok (.aload_n 0, 1) := by decide +kernel
theorem dX10_keepTurn_81 : decode cX10_keepTurn 81 = .ok (.getfield 59, 3) := by decide +kernel
theorem dX10_keepTurn_84 : decode cX10_keepTurn 84 = .ok (.iload_n 1, 1) := by decide +kernel
theorem dX10_keepTurn_85 : decode cX10_keepTurn 85 = .ok (.iaload, 1) := by decide +kernel
theorem dX10_keepTurn_86 : decode cX10_keepTurn 86 = .ok (.iastore, 1) := by decide +kernel
theorem dX10_keepTurn_87 : decode cX10_keepTurn 87 = .ok (.iinc 1 1, 3) := by decide +kernel
theorem dX10_keepTurn_90 : decode cX10_keepTurn 90 = .ok (.goto (-29), 3) := by decide +kernel
theorem dX10_keepTurn_93 : decode cX10_keepTurn 93 = .ok (.aload_n 0, 1) := by decide +kernel
theorem dX10_keepTurn_94 : decode cX10_keepTurn 94 = .ok (.dup, 1) := by decide +kernel
theorem dX10_keepTurn_95 : decode cX10_keepTurn 95 = .ok (.getfield 184, 3) := by decide +kernel
theorem dX10_keepTurn_98 : decode cX10_keepTurn 98 = .ok (.iconst 1, 1) := by decide +kernel
theorem dX10_keepTurn_99 : decode cX10_keepTurn 99 = .ok (.iadd, 1) := by decide +kernel
theorem dX10_keepTurn_100 : decode cX10_keepTurn 100 = .ok (.putfield 184, 3) := by decide +kernel
theorem dX10_keepTurn_103 : decode cX10_keepTurn 103 = .ok (.return_, 1) := by decide +kernel
theorem dX10_back_0 : decode cX10_back 0 = .ok (.aload_n 0, 1) := by decide +kernel
theorem dX10_back_1 : decode cX10_back 1 = .ok (.iconst 0, 1) := by decide +kernel
theorem dX10_back_2 : decode cX10_back 2 = .ok (.putfield 78, 3) := by decide +kernel
theorem dX10_back_5 : decode cX10_back 5 = .ok (.aload_n 0, 1) := by decide +kernel
theorem dX10_back_6 : decode cX10_back 6 = .ok (.getfield 184, 3) := by decide +kernel
theorem dX10_back_9 : decode cX10_back 9 = .ok (.ifCond .ne 10, 3) := by decide +kernel
theorem dX10_back_12 : decode cX10_back 12 = .ok (.aload_n 0, 1) := by decide +kernel
theorem dX10_back_13 : decode cX10_back 13 = .ok (.bipush (-3), 2) := by decide +kernel
theorem dX10_back_15 : decode cX10_back 15 = .ok (.invokevirtual 121, 3) := by decide +kernel
theorem dX10_back_18 : decode cX10_back 18 = .ok (.ireturn, 1) := by decide +kernel
theorem dX10_back_19 : decode cX10_back 19 = .ok (.aload_n 0, 1) := by decide +kernel
theorem dX10_back_20 : decode cX10_back 20 = .ok (.dup, 1) := by decide +kernel
theorem dX10_back_21 : decode cX10_back 21 = .ok (.getfield 184, 3) := by decide +kernel
theorem dX10_back_24 : decode cX10_back 24 = .ok (.iconst 1, 1) := by decide +kernel
theorem dX10_back_25 : decode cX10_back 25 = .ok (.isub, 1) := by decide +kernel
theorem dX10_back_26 : decode cX10_back 26 = .ok (.putfield 184, 3) := by decide +kernel
theorem dX10_back_29 : decode cX10_back 29 = .ok (.iconst 0, 1) := by decide +kernel
theorem dX10_back_30 : decode cX10_back 30 = .ok (.istore_n 1, 1) := by decide +kernel
theorem dX10_back_31 : decode cX10_back 31 = .ok (.iload_n 1, 1) := by decide +kernel
theorem dX10_back_32 : decode cX10_back 32 = .ok (.bipush 50, 2) := by decide +kernel
theorem dX10_back_34 : decode cX10_back 34 = .ok (.if_icmp .ge 29, 3) := by decide +kernel
theorem dX10_back_37 : decode cX10_back 37 = .ok (.aload_n 0, 1) := by decide +kernel
theorem dX10_back_38 : decode cX10_back 38 = .ok (.getfield 59, 3) := by decide +kernel
theorem dX10_back_41 : decode cX10_back 41 = .ok (.iload_n 1, 1) := by decide +kernel
theorem dX10_back_42 : decode cX10_back 42 = .ok (.aload_n 0, 1) := by decide +kernel
theorem dX10_back_43 : decode cX10_back 43 = .ok (.getfield 56, 3) := by decide +kernel
theorem dX10_back_46 : decode cX10_back 46 = .ok (.bipush 50, 2) := by decide +kernel
theorem dX10_back_48 : decode cX10_back 48 = .ok (.aload_n 0, 1) := by decide +kernel
theorem dX10_back_49 : decode cX10_back 49 = .ok (.getfield 184, 3) := by decide +kernel
theorem dX10_back_52 : decode cX10_back 52 = .ok (.imul, 1) := by decide +kernel
theorem dX10_back_53 : decode cX10_back 53 = .ok (.iload_n 1, 1) := by decide +kernel
theorem dX10_back_54 : decode cX10_back 54 = .ok (.iadd, 1) := by decide +kernel
theorem dX10_back_55 : decode cX10_back 55 = .ok (.iaload, 1) := by decide +kernel
theorem dX10_back_56 : decode cX10_back 56 = .ok (.iastore, 1) := by decide +kernel
theorem dX10_back_57 : decode cX10_back 57 = .ok (.iinc 1 1, 3) := by decide +kernel
theorem dX10_back_60 : decode cX10_back 60 = .ok (.goto (-29), 3) := by decide +kernel
theorem dX10_back_63 : decode cX10_back 63 = .ok (.aload_n 0, 1) := by decide +kernel
theorem dX10_back_64 : decode cX10_back 64 = .ok (.aload_n 0, 1) := by decide +kernel
theorem dX10_back_65 : decode cX10_back 65 = .ok (.getfield 59, 3) := by decide +kernel
theorem dX10_back_68 : decode cX10_back 68 = .ok (.iconst 0, 1) := by decide +kernel
theorem dX10_back_69 : decode cX10_back 69 = .ok (.invokevirtual 199, 3) := by decide +kernel
theorem dX10_back_72 : decode cX10_back 72 = .ok (.aload_n 0, 1) := by decide +kernel
theorem dX10_back_73 : decode cX10_back 73 = .ok (.getfield 184, 3) := by decide +kernel
theorem dX10_back_76 : decode cX10_back 76 = .ok (.ireturn, 1) := by decide +kernel
theorem dX10_lawOf_0 : decode cX10_lawOf 0 = .ok (.aload_n 0, 1) := by decide +kernel
theorem dX10_lawOf_1 : decode cX10_lawOf 1 = .ok (.iconst 0, 1) := by decide +kernel
theorem dX10_lawOf_2 : decode cX10_lawOf 2 = .ok (.putfield 78, 3) := by decide +kernel
theorem dX10_lawOf_5 : decode cX10_lawOf 5 = .ok (.aload_n 0, 1) := by decide +kernel
theorem dX10_lawOf_6 : decode cX10_lawOf 6 = .ok (.iload_n 1, 1) := by decide +kernel
theorem dX10_lawOf_7 : decode cX10_lawOf 7 = .ok (.invokevirtual 206, 3) := by decide +kernel
theorem dX10_lawOf_10 : decode cX10_lawOf 10 = .ok (.ifCond .eq 15, 3) := by decide +kernel
theorem dX10_lawOf_13 : decode cX10_lawOf 13 = .ok (.iload_n 2, 1) := by decide +kernel
theorem dX10_lawOf_14 : decode cX10_lawOf 14 = .ok (.i2l, 1) := by decide +kernel
theorem dX10_lawOf_15 : decode cX10_lawOf 15 = .ok (.lconst 0, 1) := by decide +kernel
theorem dX10_lawOf_16 : decode cX10_lawOf 16 = .ok (.ldc2_w 209, 3) := by decide +kernel
theorem dX10_lawOf_19 : decode cX10_lawOf 19 = .ok (.invokestatic 84, 3) := by decide +kernel
theorem dX10_lawOf_22 : decode cX10_lawOf 22 = .ok (.ifCond .ne 22, 3) := by decide +kernel
theorem dX10_lawOf_25 : decode cX10_lawOf 25 = .ok (.aload_n 0, 1) := by decide +kernel
theorem dX10_lawOf_26 : decode cX10_lawOf 26 = .ok (.aload_n 0, 1) := by decide +kernel
theorem dX10_lawOf_27 : decode cX10_lawOf 27 = .ok (.iload_n 1, 1) := by decide +kernel
theorem dX10_lawOf_28 : decode cX10_lawOf 28 = .ok (.invokevirtual 206, 3) := by decide +kernel
theorem dX10_lawOf_31 : decode cX10_lawOf 31 = .ok (.ifCond .eq 8, 3) := by decide +kernel
theorem dX10_lawOf_34 : decode cX10_lawOf 34 = .ok (.bipush (-2), 2) := by decide +kernel
theorem dX10_lawOf_36 : decode cX10_lawOf 36 = .ok (.goto 4, 3) := by decide +kernel
theorem dX10_lawOf_39 : decode cX10_lawOf 39 = .ok (.iconst (-1), 1) := by decide +kernel
theorem dX10_lawOf_40 : decode cX10_lawOf 40 = .ok (.invokevirtual 121, 3) := by decide +kernel
theorem dX10_lawOf_43 : decode cX10_lawOf 43 = .ok (.ireturn, 1) := by decide +kernel
theorem dX10_lawOf_44 : decode cX10_lawOf 44 = .ok (.iload_n 2, 1) := by decide +kernel
theorem dX10_lawOf_45 : decode cX10_lawOf 45 = .ok (.ifCond .ne 12, 3) := by decide +kernel
theorem dX10_lawOf_48 : decode cX10_lawOf 48 = .ok (.aload_n 0, 1) := by decide +kernel
theorem dX10_lawOf_49 : decode cX10_lawOf 49 = .ok (.getfield 7, 3) := by decide +kernel
theorem dX10_lawOf_52 : decode cX10_lawOf 52 = .ok (.iload_n 1, 1) := by decide +kernel
theorem dX10_lawOf_53 : decode cX10_lawOf 53 = .ok (.iaload, 1) := by decide +kernel
theorem dX10_lawOf_54 : decode cX10_lawOf 54 = .ok (.goto 37, 3) := by decide +kernel
theorem dX10_lawOf_57 : decode cX10_lawOf 57 = .ok (.iload_n 2, 1) := by decide +kernel
theorem dX10_lawOf_58 : decode cX10_lawOf 58 = .ok (.iconst 1, 1) := by decide +kernel
theorem dX10_lawOf_59 : decode cX10_lawOf 59 = .ok (.if_icmp .ne 12, 3) := by decide +kernel
theorem dX10_lawOf_62 : decode cX10_lawOf 62 = .ok (.aload_n 0, 1) := by decide +kernel
theorem dX10_lawOf_63 : decode cX10_lawOf 63 = .ok (.getfield 13, 3) := by decide +kernel
theorem dX10_lawOf_66 : decode cX10_lawOf 66 = .ok (.iload_n 1, 1) := by decide +kernel
theorem dX10_lawOf_67 : decode cX10_lawOf 67 = .ok (.iaload, 1) := by decide +kernel
theorem dX10_lawOf_68 : decode cX10_lawOf 68 = .ok (.goto 23, 3) := by decide +kernel
theorem dX10_lawOf_71 : decode cX10_lawOf 71 = .ok (.iload_n 2, 1) := by decide +kernel
theorem dX10_lawOf_72 : decode cX10_lawOf 72 = .ok (.iconst 2, 1) := by decide +kernel
theorem dX10_lawOf_73 : decode cX10_lawOf 73 = .ok (.if_icmp .ne 12, 3) := by decide +kernel
theorem dX10_lawOf_76 : decode cX10_lawOf 76 = .ok (.aload_n 0, 1) := by decide +kernel
theorem dX10_lawOf_77 : decode cX10_lawOf 77 = .ok (.getfield 16, 3) := by decide +kernel
theorem dX10_lawOf_80 : decode cX10_lawOf 80 = .ok (.iload_n 1, 1) := by decide +kernel
theorem dX10_lawOf_81 : decode cX10_lawOf 81 = .ok (.iaload, 1) := by decide +kernel
theorem dX10_lawOf_82 : decode cX10_lawOf 82 = .ok (.goto 9, 3) := by decide +kernel
theorem dX10_lawOf_85 : decode cX10_lawOf 85 = .ok (.aload_n 0, 1) := by decide +kernel
theorem dX10_lawOf_86 : decode cX10_lawOf 86 = .ok (.getfield 19, 3) := by decide +kernel
theorem dX10_lawOf_89 : decode cX10_lawOf 89 = .ok (.iload_n 1, 1) := by decide +kernel
theorem dX10_lawOf_90 : decode cX10_lawOf 90 = .ok (.iaload, 1) := by decide +kernel
theorem dX10_lawOf_91 : decode cX10_lawOf 91 = .ok (.ireturn, 1) := by decide +kernel
theorem dX10_pockets_0 : decode cX10_pockets 0 = .ok (.aload_n 0, 1) := by decide +kernel
theorem dX10_pockets_1 : decode cX10_pockets 1 = .ok (.iconst 0, 1) := by decide +kernel
theorem dX10_pockets_2 : decode cX10_pockets 2 = .ok (.putfield 78, 3) := by decide +kernel
theorem dX10_pockets_5 : decode cX10_pockets 5 = .ok (.aload_n 0, 1) := by decide +kernel
theorem dX10_pockets_6 : decode cX10_pockets 6 = .ok (.iload_n 1, 1) := by decide +kernel
theorem dX10_pockets_7 : decode cX10_pockets 7 = .ok (.invokevirtual 160, 3) := by decide +kernel
theorem dX10_pockets_10 : decode cX10_pockets 10 = .ok (.ifCond .eq 12, 3) := by decide +kernel
theorem dX10_pockets_13 : decode cX10_pockets 13 = .ok (.aload_n 0, 1) := by decide +kernel
theorem dX10_pockets_14 : decode cX10_pockets 14 = .ok (.getfield 22, 3) := by decide +kernel
theorem dX10_pockets_17 : decode cX10_pockets 17 = .ok (.iload_n 1, 1) := by decide +kernel
theorem dX10_pockets_18 : decode cX10_pockets 18 = .ok (.iaload, 1) := by decide +kernel
theorem dX10_pockets_19 : decode cX10_pockets 19 = .ok (.goto 8, 3) := by decide +kernel
theorem dX10_pockets_22 : decode cX10_pockets 22 = .ok (.aload_n 0, 1) := by decide +kernel
theorem dX10_pockets_23 : decode cX10_pockets 23 = .ok (.iconst (-1), 1) := by decide +kernel
theorem dX10_pockets_24 : decode cX10_pockets 24 = .ok (.invokevirtual 121, 3) := by decide +kernel
theorem dX10_pockets_27 : decode cX10_pockets 27 = .ok (.ireturn, 1) := by decide +kernel
theorem dX10_law_0 : decode cX10_law 0 = .ok (.aload_n 0, 1) := by decide +kernel
theorem dX10_law_1 : decode cX10_law 1 = .ok (.iconst 0, 1) := by decide +kernel
theorem dX10_law_2 : decode cX10_law 2 = .ok (.putfield 78, 3) := by decide +kernel
theorem dX10_law_5 : decode cX10_law 5 = .ok (.iconst 0, 1) := by decide +kernel
theorem dX10_law_6 : decode cX10_law 6 = .ok (.istore 4, 2) := by decide +kernel
theorem dX10_law_8 : decode cX10_law 8 = .ok (.iload_n 1, 1) := by decide +kernel
theorem dX10_law_9 : decode cX10_law 9 = .ok (.i2l, 1) := by decide +kernel
theorem dX10_law_10 : decode cX10_law 10 = .ok (.lconst 0, 1) := by decide +kernel
theorem dX10_law_11 : decode cX10_law 11 = .ok (.ldc2_w 211, 3) := by decide +kernel
theorem dX10_law_14 : decode cX10_law 14 = .ok (.invokestatic 84, 3) := by decide +kernel
theorem dX10_law_17 : decode cX10_law 17 = .ok (.ifCond .ne 10, 3) := by decide +kernel
theorem dX10_law_20 : decode cX10_law 20 = .ok (.bipush (-2), 2) := by decide +kernel
theorem dX10_law_22 : decode cX10_law 22 = .ok (.istore 4, 2) := by decide +kernel
theorem dX10_law_24 : decode cX10_law 24 = .ok (.goto 55, 3) := by decide +kernel
theorem dX10_law_27 : decode cX10_law 27 = .ok (.iload_n 2, 1) := by decide +kernel
theorem dX10_law_28 : decode cX10_law 28 = .ok (.ifCond .lt 7, 3) := by decide +kernel
theorem dX10_law_31 : decode cX10_law 31 = .ok (.iload_n 3, 1) := by decide +kernel
theorem dX10_law_32 : decode cX10_law 32 = .ok (.ifCond .ge 10, 3) := by decide +kernel
theorem dX10_law_35 : decode cX10_law 35 = .ok (.bipush (-4), 2) := by decide +kernel
theorem dX10_law_37 : decode cX10_law 37 = .ok (.istore 4, 2) := by decide +kernel
theorem dX10_law_39 : decode cX10_law 39 = .ok (.goto 40, 3) := by decide +kernel
theorem dX10_law_42 : decode cX10_law 42 = .ok (.iload_n 2, 1) := by decide +kernel
theorem dX10_law_43 : decode cX10_law 43 = .ok (.bipush 9, 2) := by decide +kernel
theorem dX10_law_45 : decode cX10_law 45 = .ok (.if_icmp .gt 30, 3) := by decide +kernel
theorem dX10_law_48 : decode cX10_law 48 = .ok (.iload_n 3, 1) := by decide +kernel
theorem dX10_law_49 : decode cX10_law 49 = .ok (.bipush 10, 2) := by decide +kernel
theorem dX10_law_51 : decode cX10_law 51 = .ok (.idiv, 1) := by decide +kernel
theorem dX10_law_52 : decode cX10_law 52 = .ok (.bipush 7, 2) := by decide +kernel
theorem dX10_law_54 : decode cX10_law 54 = .ok (.if_icmp .gt 21, 3) := by decide +kernel
theorem dX10_law_57 : decode cX10_law 57 = .ok (.iload_n 3, 1) := by decide +kernel
theorem dX10_law_58 : decode cX10_law 58 = .ok (.bipush 10, 2) := by decide +kernel
theorem dX10_law_60 : decode cX10_law 60 = .ok (.irem, 1) := by decide +kernel
theorem dX10_law_61 : decode cX10_law 61 = .ok (.bipush 7, 2) := by decide +kernel
theorem dX10_law_63 : decode cX10_law 63 = .ok (.if_icmp .gt 12, 3) := by decide +kernel
theorem dX10_law_66 : decode cX10_law 66 = .ok (.aload_n 0, 1) := by decide +kernel
theorem dX10_law_67 : decode cX10_law 67 = .ok (.getfield 88, 3) := by decide +kernel
theorem dX10_law_70 : decode cX10_law 70 = .ok (.bipush 10, 2) := by decide +kernel
theorem dX10_law_72 : decode cX10_law 72 = .ok (.if_icmp .ne 7, 3) := by decide +kernel
theorem dX10_law_75 : decode cX10_law 75 = .ok (.bipush (-6), 2) := by decide +kernel
theorem dX10_law_77 : decode cX10_law 77 = .ok (.istore 4, 2) := by decide +kernel
theorem dX10_law_79 : decode cX10_law 79 = .ok (.iload 4, 2) := by decide +kernel
theorem dX10_law_81 : decode cX10_law 81 = .ok (.ifCond .ge 10, 3) := by decide +kernel
theorem dX10_law_84 : decode cX10_law 84 = .ok (.aload_n 0, 1) := by decide +kernel
theorem dX10_law_85 : decode cX10_law 85 = .ok (.iload 4, 2) := by decide +kernel
theorem dX10_law_87 : decode cX10_law 87 = .ok (.invokevirtual 121, 3) := by decide +kernel
theorem dX10_law_90 : decode cX10_law 90 = .ok (.ireturn, 1) := by decide +kernel
theorem dX10_law_91 : decode cX10_law 91 = .ok (.aload_n 0, 1) := by decide +kernel
theorem dX10_law_92 : decode cX10_law 92 = .ok (.iload_n 1, 1) := by decide +kernel
theorem dX10_law_93 : decode cX10_law 93 = .ok (.iload_n 2, 1) := by decide +kernel
theorem dX10_law_94 : decode cX10_law 94 = .ok (.iload_n 3, 1) := by decide +kernel
theorem dX10_law_95 : decode cX10_law 95 = .ok (.bipush 10, 2) := by decide +kernel
theorem dX10_law_97 : decode cX10_law 97 = .ok (.idiv, 1) := by decide +kernel
theorem dX10_law_98 : decode cX10_law 98 = .ok (.iload_n 3, 1) := by decide +kernel
theorem dX10_law_99 : decode cX10_law 99 = .ok (.bipush 10, 2) := by decide +kernel
theorem dX10_law_101 : decode cX10_law 101 = .ok (.irem, 1) := by decide +kernel
theorem dX10_law_102 : decode cX10_law 102 = .ok (.invokevirtual 156, 3) := by decide +kernel
theorem dX10_law_105 : decode cX10_law 105 = .ok (.aload_n 0, 1) := by decide +kernel
theorem dX10_law_106 : decode cX10_law 106 = .ok (.iconst 0, 1) := by decide +kernel
theorem dX10_law_107 : decode cX10_law 107 = .ok (.putfield 184, 3) := by decide +kernel
theorem dX10_law_110 : decode cX10_law 110 = .ok (.aload_n 0, 1) := by decide +kernel
theorem dX10_law_111 : decode cX10_law 111 = .ok (.getfield 88, 3) := by decide +kernel
theorem dX10_law_114 : decode cX10_law 114 = .ok (.iconst 1, 1) := by decide +kernel
theorem dX10_law_115 : decode cX10_law 115 = .ok (.isub, 1) := by decide +kernel
theorem dX10_law_116 : decode cX10_law 116 = .ok (.ireturn, 1) := by decide +kernel
theorem dX10_person_0 : decode cX10_person 0 = .ok (.aload_n 0, 1) := by decide +kernel
theorem dX10_person_1 : decode cX10_person 1 = .ok (.iconst 0, 1) := by decide +kernel
theorem dX10_person_2 : decode cX10_person 2 = .ok (.putfield 78, 3) := by decide +kernel
theorem dX10_person_5 : decode cX10_person 5 = .ok (.iload_n 1, 1) := by decide +kernel
theorem dX10_person_6 : decode cX10_person 6 = .ok (.iconst 0, 1) := by decide +kernel
theorem dX10_person_7 : decode cX10_person 7 = .ok (.sipush 255, 3) := by decide +kernel
theorem dX10_person_10 : decode cX10_person 10 = .ok (.invokestatic 213, 3) := by decide +kernel
theorem dX10_person_13 : decode cX10_person 13 = .ok (.istore_n 2, 1) := by decide +kernel
theorem dX10_person_14 : decode cX10_person 14 = .ok (.iload_n 2, 1) := by decide +kernel
theorem dX10_person_15 : decode cX10_person 15 = .ok (.ifCond .ne 17, 3) := by decide +kernel
theorem dX10_person_18 : decode cX10_person 18 = .ok (.aload_n 0, 1) := by decide +kernel
theorem dX10_person_19 : decode cX10_person 19 = .ok (.getfield 81, 3) := by decide +kernel
theorem dX10_person_22 : decode cX10_person 22 = .ok (.bipush 6, 2) := by decide +kernel
theorem dX10_person_24 : decode cX10_person 24 = .ok (.if_icmp .ne 8, 3) := by decide +kernel
theorem dX10_person_27 : decode cX10_person 27 = .ok (.bipush (-6), 2) := by decide +kernel
theorem dX10_person_29 : decode cX10_person 29 = .ok (.goto 4, 3) := by decide +kernel
theorem dX10_person_32 : decode cX10_person 32 = .ok (.iload_n 2, 1) := by decide +kernel
theorem dX10_person_33 : decode cX10_person 33 = .ok (.istore_n 2, 1) := by decide +kernel
theorem dX10_person_34 : decode cX10_person 34 = .ok (.iload_n 2, 1) := by decide +kernel
theorem dX10_person_35 : decode cX10_person 35 = .ok (.ifCond .ge 9, 3) := by decide +kernel
theorem dX10_person_38 : decode cX10_person 38 = .ok (.aload_n 0, 1) := by decide +kernel
theorem dX10_person_39 : decode cX10_person 39 = .ok (.iload_n 2, 1) := by decide +kernel
theorem dX10_person_40 : decode cX10_person 40 = .ok (.invokevirtual 121, 3) := by decide +kernel
theorem dX10_person_43 : decode cX10_person 43 = .ok (.ireturn, 1) := by decide +kernel
theorem dX10_person_44 : decode cX10_person 44 = .ok (.aload_n 0, 1) := by decide +kernel
theorem dX10_person_45 : decode cX10_person 45 = .ok (.getfield 22, 3) := by decide +kernel
theorem dX10_person_48 : decode cX10_person 48 = .ok (.aload_n 0, 1) := by decide +kernel
theorem dX10_person_49 : decode cX10_person 49 = .ok (.getfield 81, 3) := by decide +kernel
theorem dX10_person_52 : decode cX10_person 52 = .ok (.iload_n 1, 1) := by decide +kernel
theorem dX10_person_53 : decode cX10_person 53 = .ok (.iastore, 1) := by decide +kernel
theorem dX10_person_54 : decode cX10_person 54 = .ok (.aload_n 0, 1) := by decide +kernel
theorem dX10_person_55 : decode cX10_person 55 = .ok (.dup, 1) := by decide +kernel
theorem dX10_person_56 : decode cX10_person 56 = .ok (.getfield 81, 3) := by decide +kernel
theorem dX10_person_59 : decode cX10_person 59 = .ok (.iconst 1, 1) := by decide +kernel
theorem dX10_person_60 : decode cX10_person 60 = .ok (.iadd, 1) := by decide +kernel
theorem dX10_person_61 : decode cX10_person 61 = .ok (.putfield 81, 3) := by decide +kernel
theorem dX10_person_64 : decode cX10_person 64 = .ok (.aload_n 0, 1) := by decide +kernel
theorem dX10_person_65 : decode cX10_person 65 = .ok (.iconst 0, 1) := by decide +kernel
theorem dX10_person_66 : decode cX10_person 66 = .ok (.putfield 184, 3) := by decide +kernel
theorem dX10_person_69 : decode cX10_person 69 = .ok (.aload_n 0, 1) := by decide +kernel
theorem dX10_person_70 : decode cX10_person 70 = .ok (.getfield 81, 3) := by decide +kernel
theorem dX10_person_73 : decode cX10_person 73 = .ok (.iconst 1, 1) := by decide +kernel
theorem dX10_person_74 : decode cX10_person 74 = .ok (.isub, 1) := by decide +kernel
theorem dX10_person_75 : decode cX10_person 75 = .ok (.ireturn, 1) := by decide +kernel
theorem dX10_takes_0 : decode cX10_takes 0 = .ok (.aload_n 0, 1) := by decide +kernel
theorem dX10_takes_1 : decode cX10_takes 1 = .ok (.iconst 0, 1) := by decide +kernel
theorem dX10_takes_2 : decode cX10_takes 2 = .ok (.putfield 78, 3) := by decide +kernel
theorem dX10_takes_5 : decode cX10_takes 5 = .ok (.aload_n 0, 1) := by decide +kernel
theorem dX10_takes_6 : decode cX10_takes 6 = .ok (.iload_n 1, 1) := by decide +kernel
theorem dX10_takes_7 : decode cX10_takes 7 = .ok (.invokevirtual 160, 3) := by decide +kernel
theorem dX10_takes_10 : decode cX10_takes 10 = .ok (.ifCond .eq 10, 3) := by decide +kernel
theorem dX10_takes_13 : decode cX10_takes 13 = .ok (.iload_n 2, 1) := by decide +kernel
theorem dX10_takes_14 : decode cX10_takes 14 = .ok (.invokestatic 217, 3) := by decide +kernel
theorem dX10_takes_17 : decode cX10_takes 17 = .ok (.ifCond .ne 7, 3) := by decide +kernel
theorem dX10_takes_20 : decode cX10_takes 20 = .ok (.iconst (-1), 1) := by decide +kernel
theorem dX10_takes_21 : decode cX10_takes 21 = .ok (.goto 22, 3) := by decide +kernel
theorem dX10_takes_24 : decode cX10_takes 24 = .ok (.aload_n 0, 1) := by decide +kernel
theorem dX10_takes_25 : decode cX10_takes 25 = .ok (.getfield 22, 3) := by decide +kernel
theorem dX10_takes_28 : decode cX10_takes 28 = .ok (.iload_n 1, 1) := by decide +kernel
theorem dX10_takes_29 : decode cX10_takes 29 = .ok (.iaload, 1) := by decide +kernel
theorem dX10_takes_30 : decode cX10_takes 30 = .ok (.iload_n 2, 1) := by decide +kernel
theorem dX10_takes_31 : decode cX10_takes 31 = .ok (.invokestatic 93, 3) := by decide +kernel
theorem dX10_takes_34 : decode cX10_takes 34 = .ok (.ifCond .eq 7, 3) := by decide +kernel
theorem dX10_takes_37 : decode cX10_takes 37 = .ok (.iconst 0, 1) := by decide +kernel
theorem dX10_takes_38 : decode cX10_takes 38 = .ok (.goto 5, 3) := by decide +kernel
theorem dX10_takes_41 : decode cX10_takes 41 = .ok (.bipush (-3), 2) := by decide +kernel
theorem dX10_takes_43 : decode cX10_takes 43 = .ok (.istore_n 3, 1) := by decide +kernel
theorem dX10_takes_44 : decode cX10_takes 44 = .ok (.iload_n 3, 1) := by decide +kernel
theorem dX10_takes_45 : decode cX10_takes 45 = .ok (.ifCond .ge 9, 3) := by decide +kernel
theorem dX10_takes_48 : decode cX10_takes 48 = .ok (.aload_n 0, 1) := by decide +kernel
theorem dX10_takes_49 : decode cX10_takes 49 = .ok (.iload_n 3, 1) := by decide +kernel
theorem dX10_takes_50 : decode cX10_takes 50 = .ok (.invokevirtual 121, 3) := by decide +kernel
theorem dX10_takes_53 : decode cX10_takes 53 = .ok (.ireturn, 1) := by decide +kernel
theorem dX10_takes_54 : decode cX10_takes 54 = .ok (.aload_n 0, 1) := by decide +kernel
theorem dX10_takes_55 : decode cX10_takes 55 = .ok (.invokevirtual 220, 3) := by decide +kernel
theorem dX10_takes_58 : decode cX10_takes 58 = .ok (.aload_n 0, 1) := by decide +kernel
theorem dX10_takes_59 : decode cX10_takes 59 = .ok (.iload_n 1, 1) := by decide +kernel
theorem dX10_takes_60 : decode cX10_takes 60 = .ok (.iload_n 2, 1) := by decide +kernel
theorem dX10_takes_61 : decode cX10_takes 61 = .ok (.invokevirtual 163, 3) := by decide +kernel
theorem dX10_takes_64 : decode cX10_takes 64 = .ok (.aload_n 0, 1) := by decide +kernel
theorem dX10_takes_65 : decode cX10_takes 65 = .ok (.getfield 22, 3) := by decide +kernel
theorem dX10_takes_68 : decode cX10_takes 68 = .ok (.iload_n 1, 1) := by decide +kernel
theorem dX10_takes_69 : decode cX10_takes 69 = .ok (.iaload, 1) := by decide +kernel
theorem dX10_takes_70 : decode cX10_takes 70 = .ok (.ireturn, 1) := by decide +kernel
theorem dX10_brings_0 : decode cX10_brings 0 = .ok (.aload_n 0, 1) := by decide +kernel
theorem dX10_brings_1 : decode cX10_brings 1 = .ok (.iconst 0, 1) := by decide +kernel
theorem dX10_brings_2 : decode cX10_brings 2 = .ok (.putfield 78, 3) := by decide +kernel
theorem dX10_brings_5 : decode cX10_brings 5 = .ok (.aload_n 0, 1) := by decide +kernel
theorem dX10_brings_6 : decode cX10_brings 6 = .ok (.iload_n 1, 1) := by decide +kernel
theorem dX10_brings_7 : decode cX10_brings 7 = .ok (.invokevirtual 160, 3) := by decide +kernel
theorem dX10_brings_10 : decode cX10_brings 10 = .ok (.ifCond .eq 10, 3) := by decide +kernel
theorem dX10_brings_13 : decode cX10_brings 13 = .ok (.iload_n 2, 1) := by decide +kernel
theorem dX10_brings_14 : decode cX10_brings 14 = .ok (.invokestatic 217, 3) := by decide +kernel
theorem dX10_brings_17 : decode cX10_brings 17 = .ok (.ifCond .ne 9, 3) := by decide +kernel
theorem dX10_brings_20 : decode cX10_brings 20 = .ok (.aload_n 0, 1) := by decide +kernel
theorem dX10_brings_21 : decode cX10_brings 21 = .ok (.iconst (-1), 1) := by decide +kernel
theorem dX10_brings_22 : decode cX10_brings 22 = .ok (.invokevirtual 121, 3) := by decide +kernel
theorem dX10_brings_25 : decode cX10_brings 25 = .ok (.ireturn, 1) := by decide +kernel
theorem dX10_brings_26 : decode cX10_brings 26 = .ok (.aload_n 0, 1) := by decide +kernel
theorem dX10_brings_27 : decode cX10_brings 27 = .ok (.invokevirtual 220, 3) := by decide +kernel
theorem dX10_brings_30 : decode cX10_brings 30 = .ok (.aload_n 0, 1) := by decide +kernel
theorem dX10_brings_31 : decode cX10_brings 31 = .ok (.iload_n 1, 1) := by decide +kernel
theorem dX10_brings_32 : decode cX10_brings 32 = .ok (.iload_n 2, 1) := by decide +kernel
theorem dX10_brings_33 : decode cX10_brings 33 = .ok (.invokevirtual 166, 3) := by decide +kernel
theorem dX10_brings_36 : decode cX10_brings 36 = .ok (.aload_n 0, 1) := by decide +kernel
theorem dX10_brings_37 : decode cX10_brings 37 = .ok (.getfield 22, 3) := by decide +kernel
theorem dX10_brings_40 : decode cX10_brings 40 = .ok (.iload_n 1, 1) := by decide +kernel
theorem dX10_brings_41 : decode cX10_brings 41 = .ok (.iaload, 1) := by decide +kernel
theorem dX10_brings_42 : decode cX10_brings 42 = .ok (.ireturn, 1) := by decide +kernel
theorem dX10_turn_0 : decode cX10_turn 0 = .ok (.aload_n 0, 1) := by decide +kernel
theorem dX10_turn_1 : decode cX10_turn 1 = .ok (.iconst 0, 1) := by decide +kernel
theorem dX10_turn_2 : decode cX10_turn 2 = .ok (.putfield 78, 3) := by decide +kernel
theorem dX10_turn_5 : decode cX10_turn 5 = .ok (.aload_n 0, 1) := by decide +kernel
theorem dX10_turn_6 : decode cX10_turn 6 = .ok (.iload_n 1, 1) := by decide +kernel
theorem dX10_turn_7 : decode cX10_turn 7 = .ok (.invokevirtual 206, 3) := by decide +kernel
theorem dX10_turn_10 : decode cX10_turn 10 = .ok (.ifCond .ne 7, 3) := by decide +kernel
theorem dX10_turn_13 : decode cX10_turn 13 = .ok (.iconst (-1), 1) := by decide +kernel
theorem dX10_turn_14 : decode cX10_turn 14 = .ok (.goto 27, 3) := by decide +kernel
theorem dX10_turn_17 : decode cX10_turn 17 = .ok (.iload_n 2, 1) := by decide +kernel
theorem dX10_turn_18 : decode cX10_turn 18 = .ok (.i2l, 1) := by decide +kernel
theorem dX10_turn_19 : decode cX10_turn 19 = .ok (.lconst 0, 1) := by decide +kernel
theorem dX10_turn_20 : decode cX10_turn 20 = .ok (.ldc2_w 211, 3) := by decide +kernel
theorem dX10_turn_23 : decode cX10_turn 23 = .ok (.invokestatic 84, 3) := by decide +kernel
theorem dX10_turn_26 : decode cX10_turn 26 = .ok (.ifCond .ne 8, 3) := by decide +kernel
theorem dX10_turn_29 : decode cX10_turn 29 = .ok (.bipush (-2), 2) := by decide +kernel
theorem dX10_turn_31 : decode cX10_turn 31 = .ok (.goto 10, 3) := by decide +kernel
theorem dX10_turn_34 : decode cX10_turn 34 = .ok (.iload_n 3, 1) := by decide +kernel
theorem dX10_turn_35 : decode cX10_turn 35 = .ok (.iconst 0, 1) := by decide +kernel
theorem dX10_turn_36 : decode cX10_turn 36 = .ok (.bipush 9, 2) := by decide +kernel
theorem dX10_turn_38 : decode cX10_turn 38 = .ok (.invokestatic 213, 3) := by decide +kernel
theorem dX10_turn_41 : decode cX10_turn 41 = .ok (.istore 4, 2) := by decide +kernel
theorem dX10_turn_43 : decode cX10_turn 43 = .ok (.iload 4, 2) := by decide +kernel
theorem dX10_turn_45 : decode cX10_turn 45 = .ok (.ifCond .ge 10, 3) := by decide +kernel
theorem dX10_turn_48 : decode cX10_turn 48 = .ok (.aload_n 0, 1) := by decide +kernel
theorem dX10_turn_49 : decode cX10_turn 49 = .ok (.iload 4, 2) := by decide +kernel
theorem dX10_turn_51 : decode cX10_turn 51 = .ok (.invokevirtual 121, 3) := by decide +kernel
theorem dX10_turn_54 : decode cX10_turn 54 = .ok (.ireturn, 1) := by decide +kernel
theorem dX10_turn_55 : decode cX10_turn 55 = .ok (.aload_n 0, 1) := by decide +kernel
theorem dX10_turn_56 : decode cX10_turn 56 = .ok (.invokevirtual 220, 3) := by decide +kernel
theorem dX10_turn_59 : decode cX10_turn 59 = .ok (.bipush 10, 2) := by decide +kernel
theorem dX10_turn_61 : decode cX10_turn 61 = .ok (.aload_n 0, 1) := by decide +kernel
theorem dX10_turn_62 : decode cX10_turn 62 = .ok (.getfield 7, 3) := by decide +kernel
theorem dX10_turn_65 : decode cX10_turn 65 = .ok (.iload_n 1, 1) := by decide +kernel
theorem dX10_turn_66 : decode cX10_turn 66 = .ok (.iaload, 1) := by decide +kernel
theorem dX10_turn_67 : decode cX10_turn 67 = .ok (.imul, 1) := by decide +kernel
theorem dX10_turn_68 : decode cX10_turn 68 = .ok (.aload_n 0, 1) := by decide +kernel
theorem dX10_turn_69 : decode cX10_turn 69 = .ok (.getfield 13, 3) := by decide +kernel
theorem dX10_turn_72 : decode cX10_turn 72 = .ok (.iload_n 1, 1) := by decide +kernel
theorem dX10_turn_73 : decode cX10_turn 73 = .ok (.iaload, 1) := by decide +kernel
theorem dX10_turn_74 : decode cX10_turn 74 = .ok (.iadd, 1) := by decide +kernel
theorem dX10_turn_75 : decode cX10_turn 75 = .ok (.istore 5, 2) := by decide +kernel
theorem dX10_turn_77 : decode cX10_turn 77 = .ok (.aload_n 0, 1) := by decide +kernel
theorem dX10_turn_78 : decode cX10_turn 78 = .ok (.getfield 7, 3) := by decide +kernel
theorem dX10_turn_81 : decode cX10_turn 81 = .ok (.iload_n 1, 1) := by decide +kernel
theorem dX10_turn_82 : decode cX10_turn 82 = .ok (.iload_n 2, 1) := by decide +kernel
theorem dX10_turn_83 : decode cX10_turn 83 = .ok (.iastore, 1) := by decide +kernel
theorem dX10_turn_84 : decode cX10_turn 84 = .ok (.aload_n 0, 1) := by decide +kernel
theorem dX10_turn_85 : decode cX10_turn 85 = .ok (.getfield 13, 3) := by decide +kernel
theorem dX10_turn_88 : decode cX10_turn 88 = .ok (.iload_n 1, 1) := by decide +kernel
theorem dX10_turn_89 : decode cX10_turn 89 = .ok (.iload_n 3, 1) := by decide +kernel
theorem dX10_turn_90 : decode cX10_turn 90 = .ok (.iastore, 1) := by decide +kernel
theorem dX10_turn_91 : decode cX10_turn 91 = .ok (.iload 5, 2) := by decide +kernel
theorem dX10_turn_93 : decode cX10_turn 93 = .ok (.ireturn, 1) := by decide +kernel
theorem dX10_clears_0 : decode cX10_clears 0 = .ok (.aload_n 0, 1) := by decide +kernel
theorem dX10_clears_1 : decode cX10_clears 1 = .ok (.iconst 0, 1) := by decide +kernel
theorem dX10_clears_2 : decode cX10_clears 2 = .ok (.putfield 78, 3) := by decide +kernel
theorem dX10_clears_5 : decode cX10_clears 5 = .ok (.aload_n 0, 1) := by decide +kernel
theorem dX10_clears_6 : decode cX10_clears 6 = .ok (.getfield 97, 3) := by decide +kernel
theorem dX10_clears_9 : decode cX10_clears 9 = .ok (.istore_n 1, 1) := by decide +kernel
theorem dX10_clears_10 : decode cX10_clears 10 = .ok (.aload_n 0, 1) := by decide +kernel
theorem dX10_clears_11 : decode cX10_clears 11 = .ok (.iconst 0, 1) := by decide +kernel
theorem dX10_clears_12 : decode cX10_clears 12 = .ok (.putfield 97, 3) := by decide +kernel
theorem dX10_clears_15 : decode cX10_clears 15 = .ok (.aload_n 0, 1) := by decide +kernel
theorem dX10_clears_16 : decode cX10_clears 16 = .ok (.iconst 0, 1) := by decide +kernel
theorem dX10_clears_17 : decode cX10_clears 17 = .ok (.putfield 184, 3) := by decide +kernel
theorem dX10_clears_20 : decode cX10_clears 20 = .ok (.iload_n 1, 1) := by decide +kernel
theorem dX10_clears_21 : decode cX10_clears 21 = .ok (.ireturn, 1) := by decide +kernel
theorem dX10_day_0 : decode cX10_day 0 = .ok (.aload_n 0, 1) := by decide +kernel
theorem dX10_day_1 : decode cX10_day 1 = .ok (.iconst 0, 1) := by decide +kernel
theorem dX10_day_2 : decode cX10_day 2 = .ok (.putfield 78, 3) := by decide +kernel
theorem dX10_day_5 : decode cX10_day 5 = .ok (.aload_n 0, 1) := by decide +kernel
theorem dX10_day_6 : decode cX10_day 6 = .ok (.getfield 118, 3) := by decide +kernel
theorem dX10_day_9 : decode cX10_day 9 = .ok (.sipush 999, 3) := by decide +kernel
theorem dX10_day_12 : decode cX10_day 12 = .ok (.if_icmp .ne 10, 3) := by decide +kernel
theorem dX10_day_15 : decode cX10_day 15 = .ok (.aload_n 0, 1) := by decide +kernel
theorem dX10_day_16 : decode cX10_day 16 = .ok (.bipush (-6), 2) := by decide +kernel
theorem dX10_day_18 : decode cX10_day 18 = .ok (.invokevirtual 121, 3) := by decide +kernel
theorem dX10_day_21 : decode cX10_day 21 = .ok (.ireturn, 1) := by decide +kernel
theorem dX10_day_22 : decode cX10_day 22 = .ok (.aload_n 0, 1) := by decide +kernel
theorem dX10_day_23 : decode cX10_day 23 = .ok (.invokevirtual 220, 3) := by decide +kernel
theorem dX10_day_26 : decode cX10_day 26 = .ok (.aload_n 0, 1) := by decide +kernel
theorem dX10_day_27 : decode cX10_day 27 = .ok (.invokevirtual 169, 3) := by decide +kernel
theorem dX10_day_30 : decode cX10_day 30 = .ok (.ireturn, 1) := by decide +kernel
theorem dX10_at_0 : decode cX10_at 0 = .ok (.aload_n 0, 1) := by decide +kernel
theorem dX10_at_1 : decode cX10_at 1 = .ok (.iconst 0, 1) := by decide +kernel
theorem dX10_at_2 : decode cX10_at 2 = .ok (.putfield 78, 3) := by decide +kernel
theorem dX10_at_5 : decode cX10_at 5 = .ok (.aload_n 0, 1) := by decide +kernel
theorem dX10_at_6 : decode cX10_at 6 = .ok (.iload_n 1, 1) := by decide +kernel
theorem dX10_at_7 : decode cX10_at 7 = .ok (.invokevirtual 160, 3) := by decide +kernel
theorem dX10_at_10 : decode cX10_at 10 = .ok (.ifCond .eq 24, 3) := by decide +kernel
theorem dX10_at_13 : decode cX10_at 13 = .ok (.iload_n 2, 1) := by decide +kernel
theorem dX10_at_14 : decode cX10_at 14 = .ok (.i2l, 1) := by decide +kernel
theorem dX10_at_15 : decode cX10_at 15 = .ok (.lconst 0, 1) := by decide +kernel
theorem dX10_at_16 : decode cX10_at 16 = .ok (.ldc2_w 223, 3) := by decide +kernel
theorem dX10_at_19 : decode cX10_at 19 = .ok (.invokestatic 84, 3) := by decide +kernel
theorem dX10_at_22 : decode cX10_at 22 = .ok (.ifCond .eq 12, 3) := by decide +kernel
theorem dX10_at_25 : decode cX10_at 25 = .ok (.iconst 0, 1) := by decide +kernel
theorem dX10_at_26 : decode cX10_at 26 = .ok (.iload_n 3, 1) := by decide +kernel
theorem dX10_at_27 : decode cX10_at 27 = .ok (.iconst 1, 1) := by decide +kernel
theorem dX10_at_28 : decode cX10_at 28 = .ok (.invokestatic 225, 3) := by decide +kernel
theorem dX10_at_31 : decode cX10_at 31 = .ok (.goto 4, 3) := by decide +kernel
theorem dX10_at_34 : decode cX10_at 34 = .ok (.iconst (-1), 1) := by decide +kernel
theorem dX10_at_35 : decode cX10_at 35 = .ok (.istore 4, 2) := by decide +kernel
theorem dX10_at_37 : decode cX10_at 37 = .ok (.iload 4, 2) := by decide +kernel
theorem dX10_at_39 : decode cX10_at 39 = .ok (.ifCond .ge 10, 3) := by decide +kernel
theorem dX10_at_42 : decode cX10_at 42 = .ok (.aload_n 0, 1) := by decide +kernel
theorem dX10_at_43 : decode cX10_at 43 = .ok (.iload 4, 2) := by decide +kernel
theorem dX10_at_45 : decode cX10_at 45 = .ok (.invokevirtual 121, 3) := by decide +kernel
theorem dX10_at_48 : decode cX10_at 48 = .ok (.ireturn, 1) := by decide +kernel
theorem dX10_at_49 : decode cX10_at 49 = .ok (.aload_n 0, 1) := by decide +kernel
theorem dX10_at_50 : decode cX10_at 50 = .ok (.iload_n 1, 1) := by decide +kernel
theorem dX10_at_51 : decode cX10_at 51 = .ok (.invokevirtual 115, 3) := by decide +kernel
theorem dX10_at_54 : decode cX10_at 54 = .ok (.pop, 1) := by decide +kernel
theorem dX10_at_55 : decode cX10_at 55 = .ok (.iload_n 3, 1) := by decide +kernel
theorem dX10_at_56 : decode cX10_at 56 = .ok (.ifCond .ne 12, 3) := by decide +kernel
theorem dX10_at_59 : decode cX10_at 59 = .ok (.aload_n 0, 1) := by decide +kernel
theorem dX10_at_60 : decode cX10_at 60 = .ok (.getfield 32, 3) := by decide +kernel
theorem dX10_at_63 : decode cX10_at 63 = .ok (.iload_n 2, 1) := by decide +kernel
theorem dX10_at_64 : decode cX10_at 64 = .ok (.iaload, 1) := by decide +kernel
theorem dX10_at_65 : decode cX10_at 65 = .ok (.goto 9, 3) := by decide +kernel
theorem dX10_at_68 : decode cX10_at 68 = .ok (.aload_n 0, 1) := by decide +kernel
theorem dX10_at_69 : decode cX10_at 69 = .ok (.getfield 35, 3) := by decide +kernel
theorem dX10_at_72 : decode cX10_at 72 = .ok (.iload_n 2, 1) := by decide +kernel
theorem dX10_at_73 : decode cX10_at 73 = .ok (.iaload, 1) := by decide +kernel
theorem dX10_at_74 : decode cX10_at 74 = .ok (.ireturn, 1) := by decide +kernel
theorem dX10_done_0 : decode cX10_done 0 = .ok (.aload_n 0, 1) := by decide +kernel
theorem dX10_done_1 : decode cX10_done 1 = .ok (.iconst 0, 1) := by decide +kernel
theorem dX10_done_2 : decode cX10_done 2 = .ok (.putfield 78, 3) := by decide +kernel
theorem dX10_done_5 : decode cX10_done 5 = .ok (.aload_n 0, 1) := by decide +kernel
theorem dX10_done_6 : decode cX10_done 6 = .ok (.iload_n 1, 1) := by decide +kernel
theorem dX10_done_7 : decode cX10_done 7 = .ok (.invokevirtual 160, 3) := by decide +kernel
theorem dX10_done_10 : decode cX10_done 10 = .ok (.ifCond .eq 12, 3) := by decide +kernel
theorem dX10_done_13 : decode cX10_done 13 = .ok (.iconst 0, 1) := by decide +kernel
theorem dX10_done_14 : decode cX10_done 14 = .ok (.iload_n 2, 1) := by decide +kernel
theorem dX10_done_15 : decode cX10_done 15 = .ok (.iconst 3, 1) := by decide +kernel
theorem dX10_done_16 : decode cX10_done 16 = .ok (.invokestatic 225, 3) := by decide +kernel
theorem dX10_done_19 : decode cX10_done 19 = .ok (.goto 4, 3) := by decide +kernel
theorem dX10_done_22 : decode cX10_done 22 = .ok (.iconst (-1), 1) := by decide +kernel
theorem dX10_done_23 : decode cX10_done 23 = .ok (.istore_n 3, 1) := by decide +kernel
theorem dX10_done_24 : decode cX10_done 24 = .ok (.iload_n 3, 1) := by decide +kernel
theorem dX10_done_25 : decode cX10_done 25 = .ok (.ifCond .ge 9, 3) := by decide +kernel
theorem dX10_done_28 : decode cX10_done 28 = .ok (.aload_n 0, 1) := by decide +kernel
theorem dX10_done_29 : decode cX10_done 29 = .ok (.iload_n 3, 1) := by decide +kernel
theorem dX10_done_30 : decode cX10_done 30 = .ok (.invokevirtual 121, 3) := by decide +kernel
theorem dX10_done_33 : decode cX10_done 33 = .ok (.ireturn, 1) := by decide +kernel
theorem dX10_done_34 : decode cX10_done 34 = .ok (.aload_n 0, 1) := by decide +kernel
theorem dX10_done_35 : decode cX10_done 35 = .ok (.iload_n 1, 1) := by decide +kernel
theorem dX10_done_36 : decode cX10_done 36 = .ok (.invokevirtual 115, 3) := by decide +kernel
theorem dX10_done_39 : decode cX10_done 39 = .ok (.istore 4, 2) := by decide +kernel
theorem dX10_done_41 : decode cX10_done 41 = .ok (.aload_n 0, 1) := by decide +kernel
theorem dX10_done_42 : decode cX10_done 42 = .ok (.getfield 22, 3) := by decide +kernel
theorem dX10_done_45 : decode cX10_done 45 = .ok (.iload_n 1, 1) := by decide +kernel
theorem dX10_done_46 : decode cX10_done 46 = .ok (.iaload, 1) := by decide +kernel
theorem dX10_done_47 : decode cX10_done 47 = .ok (.istore 5, 2) := by decide +kernel
theorem dX10_done_49 : decode cX10_done 49 = .ok (.iload_n 2, 1) := by decide +kernel
theorem dX10_done_50 : decode cX10_done 50 = .ok (.ifCond .ne 8, 3) := by decide +kernel
theorem dX10_done_53 : decode cX10_done 53 = .ok (.iload 4, 2) := by decide +kernel
theorem dX10_done_55 : decode cX10_done 55 = .ok (.goto 48, 3) := by decide +kernel
theorem dX10_done_58 : decode cX10_done 58 = .ok (.iload_n 2, 1) := by decide +kernel
theorem dX10_done_59 : decode cX10_done 59 = .ok (.iconst 1, 1) := by decide +kernel
theorem dX10_done_60 : decode cX10_done 60 = .ok (.if_icmp .ne 11, 3) := by decide +kernel
theorem dX10_done_63 : decode cX10_done 63 = .ok (.iload 4, 2) := by decide +kernel
theorem dX10_done_65 : decode cX10_done 65 = .ok (.invokestatic 112, 3) := by decide +kernel
theorem dX10_done_68 : decode cX10_done 68 = .ok (.goto 35, 3) := by decide +kernel
theorem dX10_done_71 : decode cX10_done 71 = .ok (.iload_n 2, 1) := by decide +kernel
theorem dX10_done_72 : decode cX10_done 72 = .ok (.iconst 2, 1) := by decide +kernel
theorem dX10_done_73 : decode cX10_done 73 = .ok (.if_icmp .ne 18, 3) := by decide +kernel
theorem dX10_done_76 : decode cX10_done 76 = .ok (.iload 5, 2) := by decide +kernel
theorem dX10_done_78 : decode cX10_done 78 = .ok (.aload_n 0, 1) := by decide +kernel
theorem dX10_done_79 : decode cX10_done 79 = .ok (.getfield 35, 3) := by decide +kernel
theorem dX10_done_82 : decode cX10_done 82 = .ok (.bipush 11, 2) := by decide +kernel
theorem dX10_done_84 : decode cX10_done 84 = .ok (.iaload, 1) := by decide +kernel
theorem dX10_done_85 : decode cX10_done 85 = .ok (.iconst (-1), 1) := by decide +kernel
theorem dX10_done_86 : decode cX10_done 86 = .ok (.ixor, 1) := by decide +kernel
theorem dX10_done_87 : decode cX10_done 87 = .ok (.iand, 1) := by decide +kernel
theorem dX10_done_88 : decode cX10_done 88 = .ok (.goto 15, 3) := by decide +kernel
theorem dX10_done_91 : decode cX10_done 91 = .ok (.aload_n 0, 1) := by decide +kernel
theorem dX10_done_92 : decode cX10_done 92 = .ok (.getfield 35, 3) := by decide +kernel
theorem dX10_done_95 : decode cX10_done 95 = .ok (.bipush 11, 2) := by decide +kernel
theorem dX10_done_97 : decode cX10_done 97 = .ok (.iaload, 1) := by decide +kernel
theorem dX10_done_98 : decode cX10_done 98 = .ok (.iload 5, 2) := by decide +kernel
theorem dX10_done_100 : decode cX10_done 100 = .ok (.iconst (-1), 1) := by decide +kernel
theorem dX10_done_101 : decode cX10_done 101 = .ok (.ixor, 1) := by decide +kernel
theorem dX10_done_102 : decode cX10_done 102 = .ok (.iand, 1) := by decide +kernel
theorem dX10_done_103 : decode cX10_done 103 = .ok (.ireturn, 1) := by decide +kernel
theorem dX10_when_0 : decode cX10_when 0 = .ok (.aload_n 0, 1) := by decide +kernel
theorem dX10_when_1 : decode cX10_when 1 = .ok (.iconst 0, 1) := by decide +kernel
theorem dX10_when_2 : decode cX10_when 2 = .ok (.putfield 78, 3) := by decide +kernel
theorem dX10_when_5 : decode cX10_when 5 = .ok (.aload_n 0, 1) := by decide +kernel
theorem dX10_when_6 : decode cX10_when 6 = .ok (.iload_n 1, 1) := by decide +kernel
theorem dX10_when_7 : decode cX10_when 7 = .ok (.invokevirtual 160, 3) := by decide +kernel
theorem dX10_when_10 : decode cX10_when 10 = .ok (.ifCond .eq 11, 3) := by decide +kernel
theorem dX10_when_13 : decode cX10_when 13 = .ok (.aload_n 0, 1) := by decide +kernel
theorem dX10_when_14 : decode cX10_when 14 = .ok (.iload_n 2, 1) := by decide +kernel
theorem dX10_when_15 : decode cX10_when 15 = .ok (.invokevirtual 206, 3) := by decide +kernel
theorem dX10_when_18 : decode cX10_when 18 = .ok (.ifCond .ne 9, 3) := by decide +kernel
theorem dX10_when_21 : decode cX10_when 21 = .ok (.aload_n 0, 1) := by decide +kernel
theorem dX10_when_22 : decode cX10_when 22 = .ok (.iconst (-1), 1) := by decide +kernel
theorem dX10_when_23 : decode cX10_when 23 = .ok (.invokevirtual 121, 3) := by decide +kernel
theorem dX10_when_26 : decode cX10_when 26 = .ok (.ireturn, 1) := by decide +kernel
theorem dX10_when_27 : decode cX10_when 27 = .ok (.aload_n 0, 1) := by decide +kernel
theorem dX10_when_28 : decode cX10_when 28 = .ok (.iload_n 1, 1) := by decide +kernel
theorem dX10_when_29 : decode cX10_when 29 = .ok (.invokevirtual 115, 3) := by decide +kernel
theorem dX10_when_32 : decode cX10_when 32 = .ok (.pop, 1) := by decide +kernel
theorem dX10_when_33 : decode cX10_when 33 = .ok (.bipush (-9), 2) := by decide +kernel
theorem dX10_when_35 : decode cX10_when 35 = .ok (.istore_n 3, 1) := by decide +kernel
theorem dX10_when_36 : decode cX10_when 36 = .ok (.bipush 11, 2) := by decide +kernel
theorem dX10_when_38 : decode cX10_when 38 = .ok (.istore 4, 2) := by decide +kernel
theorem dX10_when_40 : decode cX10_when 40 = .ok (.iload 4, 2) := by decide +kernel
theorem dX10_when_42 : decode cX10_when 42 = .ok (.ifCond .lt 27, 3) := by decide +kernel
theorem dX10_when_45 : decode cX10_when 45 = .ok (.aload_n 0, 1) := by decide +kernel
theorem dX10_when_46 : decode cX10_when 46 = .ok (.getfield 32, 3) := by decide +kernel
theorem dX10_when_49 : decode cX10_when 49 = .ok (.iload 4, 2) := by decide +kernel
theorem dX10_when_51 : decode cX10_when 51 = .ok (.iaload, 1) := by decide +kernel
theorem dX10_when_52 : decode cX10_when 52 = .ok (.iload_n 2, 1) := by decide +kernel
theorem dX10_when_53 : decode cX10_when 53 = .ok (.if_icmp .ne 8, 3) := by decide +kernel
theorem dX10_when_56 : decode cX10_when 56 = .ok (.iload 4, 2) := by decide +kernel
theorem dX10_when_58 : decode cX10_when 58 = .ok (.goto 4, 3) := by decide +kernel
theorem dX10_when_61 : decode cX10_when 61 = .ok (.iload_n 3, 1) := by decide +kernel
theorem dX10_when_62 : decode cX10_when 62 = .ok (.istore_n 3, 1) := by decide +kernel
theorem dX10_when_63 : decode cX10_when 63 = .ok (.iinc 4 (-1), 3) := by decide +kernel
theorem dX10_when_66 : decode cX10_when 66 = .ok (.goto (-26), 3) := by decide +kernel
theorem dX10_when_69 : decode cX10_when 69 = .ok (.iload_n 3, 1) := by decide +kernel
theorem dX10_when_70 : decode cX10_when 70 = .ok (.ireturn, 1) := by decide +kernel
theorem dX10_instead_0 : decode cX10_instead 0 = .ok (.aload_n 0, 1) := by decide +kernel
theorem dX10_instead_1 : decode cX10_instead 1 = .ok (.iconst 0, 1) := by decide +kernel
theorem dX10_instead_2 : decode cX10_instead 2 = .ok (.putfield 78, 3) := by decide +kernel
theorem dX10_instead_5 : decode cX10_instead 5 = .ok (.aload_n 0, 1) := by decide +kernel
theorem dX10_instead_6 : decode cX10_instead 6 = .ok (.iload_n 1, 1) := by decide +kernel
theorem dX10_instead_7 : decode cX10_instead 7 = .ok (.invokevirtual 160, 3) := by decide +kernel
theorem dX10_instead_10 : decode cX10_instead 10 = .ok (.ifCond .eq 14, 3) := by decide +kernel
theorem dX10_instead_13 : decode cX10_instead 13 = .ok (.iload_n 2, 1) := by decide +kernel
theorem dX10_instead_14 : decode cX10_instead 14 = .ok (.iconst 0, 1) := by decide +kernel
theorem dX10_instead_15 : decode cX10_instead 15 = .ok (.sipush 255, 3) := by decide +kernel
theorem dX10_instead_18 : decode cX10_instead 18 = .ok (.invokestatic 213, 3) := by decide +kernel
theorem dX10_instead_21 : decode cX10_instead 21 = .ok (.goto 4, 3) := by decide +kernel
theorem dX10_instead_24 : decode cX10_instead 24 = .ok (.iconst (-1), 1) := by decide +kernel
theorem dX10_instead_25 : decode cX10_instead 25 = .ok (.iload_n 3, 1) := by decide +kernel
theorem dX10_instead_26 : decode cX10_instead 26 = .ok (.iconst 1, 1) := by decide +kernel
theorem dX10_instead_27 : decode cX10_instead 27 = .ok (.invokestatic 225, 3) := by decide +kernel
theorem dX10_instead_30 : decode cX10_instead 30 = .ok (.istore 4, 2) := by decide +kernel
theorem dX10_instead_32 : decode cX10_instead 32 = .ok (.iload 4, 2) := by decide +kernel
theorem dX10_instead_34 : decode cX10_instead 34 = .ok (.ifCond .ge 10, 3) := by decide +kernel
theorem dX10_instead_37 : decode cX10_instead 37 = .ok (.aload_n 0, 1) := by decide +kernel
theorem dX10_instead_38 : decode cX10_instead 38 = .ok (.iload 4, 2) := by decide +kernel
theorem dX10_instead_40 : decode cX10_instead 40 = .ok (.invokevirtual 121, 3) := by decide +kernel
theorem dX10_instead_43 : decode cX10_instead 43 = .ok (.ireturn, 1) := by decide +kernel
theorem dX10_instead_44 : decode cX10_instead 44 = .ok (.aload_n 0, 1) := by decide +kernel
theorem dX10_instead_45 : decode cX10_instead 45 = .ok (.iload_n 1, 1) := by decide +kernel
theorem dX10_instead_46 : decode cX10_instead 46 = .ok (.invokevirtual 115, 3) := by decide +kernel
theorem dX10_instead_49 : decode cX10_instead 49 = .ok (.istore 5, 2) := by decide +kernel
theorem dX10_instead_51 : decode cX10_instead 51 = .ok (.aload_n 0, 1) := by decide +kernel
theorem dX10_instead_52 : decode cX10_instead 52 = .ok (.aload_n 0, 1) := by decide +kernel
theorem dX10_instead_53 : decode cX10_instead 53 = .ok (.getfield 22, 3) := by decide +kernel
theorem dX10_instead_56 : decode cX10_instead 56 = .ok (.iload_n 1, 1) := by decide +kernel
theorem dX10_instead_57 : decode cX10_instead 57 = .ok (.iaload, 1) := by decide +kernel
theorem dX10_instead_58 : decode cX10_instead 58 = .ok (.iload_n 2, 1) := by decide +kernel
theorem dX10_instead_59 : decode cX10_instead 59 = .ok (.iconst (-1), 1) := by decide +kernel
theorem dX10_instead_60 : decode cX10_instead 60 = .ok (.ixor, 1) := by decide +kernel
theorem dX10_instead_61 : decode cX10_instead 61 = .ok (.iand, 1) := by decide +kernel
theorem dX10_instead_62 : decode cX10_instead 62 = .ok (.invokevirtual 108, 3) := by decide +kernel
theorem dX10_instead_65 : decode cX10_instead 65 = .ok (.istore 6, 2) := by decide +kernel
theorem dX10_instead_67 : decode cX10_instead 67 = .ok (.iload_n 3, 1) := by decide +kernel
theorem dX10_instead_68 : decode cX10_instead 68 = .ok (.ifCond .ne 8, 3) := by decide +kernel
theorem dX10_instead_71 : decode cX10_instead 71 = .ok (.iload 6, 2) := by decide +kernel
theorem dX10_instead_73 : decode cX10_instead 73 = .ok (.goto 10, 3) := by decide +kernel
theorem dX10_instead_76 : decode cX10_instead 76 = .ok (.iload 6, 2) := by decide +kernel
theorem dX10_instead_78 : decode cX10_instead 78 = .ok (.iload 5, 2) := by decide +kernel
theorem dX10_instead_80 : decode cX10_instead 80 = .ok (.iconst (-1), 1) := by decide +kernel
theorem dX10_instead_81 : decode cX10_instead 81 = .ok (.ixor, 1) := by decide +kernel
theorem dX10_instead_82 : decode cX10_instead 82 = .ok (.iand, 1) := by decide +kernel
theorem dX10_instead_83 : decode cX10_instead 83 = .ok (.ireturn, 1) := by decide +kernel
theorem dX10_fewestFor_0 : decode cX10_fewestFor 0 = .ok (.bipush (-9), 2) := by decide +kernel
theorem dX10_fewestFor_2 : decode cX10_fewestFor 2 = .ok (.istore_n 3, 1) := by decide +kernel
theorem dX10_fewestFor_3 : decode cX10_fewestFor 3 = .ok (.iconst 0, 1) := by decide +kernel
theorem dX10_fewestFor_4 : decode cX10_fewestFor 4 = .ok (.istore 4, 2) := by decide +kernel
theorem dX10_fewestFor_6 : decode cX10_fewestFor 6 = .ok (.iload 4, 2) := by decide +kernel
theorem dX10_fewestFor_8 : decode cX10_fewestFor 8 = .ok (.sipush 256, 3) := by decide +kernel
theorem dX10_fewestFor_11 : decode cX10_fewestFor 11 = .ok (.if_icmp .ge 56, 3) := by decide +kernel
theorem dX10_fewestFor_14 : decode cX10_fewestFor 14 = .ok (.iload 4, 2) := by decide +kernel
theorem dX10_fewestFor_16 : decode cX10_fewestFor 16 = .ok (.iload_n 1, 1) := by decide +kernel
theorem dX10_fewestFor_17 : decode cX10_fewestFor 17 = .ok (.iconst (-1), 1) := by decide +kernel
theorem dX10_fewestFor_18 : decode cX10_fewestFor 18 = .ok (.ixor, 1) := by decide +kernel
theorem dX10_fewestFor_19 : decode cX10_fewestFor 19 = .ok (.iand, 1) := by decide +kernel
theorem dX10_fewestFor_20 : decode cX10_fewestFor 20 = .ok (.ifCond .ne 41, 3) := by decide +kernel
theorem dX10_fewestFor_23 : decode cX10_fewestFor 23 = .ok (.iload_n 3, 1) := by decide +kernel
theorem dX10_fewestFor_24 : decode cX10_fewestFor 24 = .ok (.ifCond .lt 15, 3) := by decide +kernel
theorem dX10_fewestFor_27 : decode cX10_fewestFor 27 = .ok (.iload 4, 2) := by decide +kernel
theorem dX10_fewestFor_29 : decode cX10_fewestFor 29 = .ok (.invokestatic 112, 3) := by decide +kernel
theorem dX10_fewestFor_32 : decode cX10_fewestFor 32 = .ok (.iload_n 3, 1) := by decide +kernel
theorem dX10_fewestFor_33 : decode cX10_fewestFor 33 = .ok (.invokestatic 112, 3) := by decide +kernel
theorem dX10_fewestFor_36 : decode cX10_fewestFor 36 = .ok (.if_icmp .ge 25, 3) := by decide +kernel
theorem dX10_fewestFor_39 : decode cX10_fewestFor 39 = .ok (.aload_n 0, 1) := by decide +kernel
theorem dX10_fewestFor_40 : decode cX10_fewestFor 40 = .ok (.iload_n 1, 1) := by decide +kernel
theorem dX10_fewestFor_41 : decode cX10_fewestFor 41 = .ok (.iload 4, 2) := by decide +kernel
theorem dX10_fewestFor_43 : decode cX10_fewestFor 43 = .ok (.iconst (-1), 1) := by decide +kernel
theorem dX10_fewestFor_44 : decode cX10_fewestFor 44 = .ok (.ixor, 1) := by decide +kernel
theorem dX10_fewestFor_45 : decode cX10_fewestFor 45 = .ok (.iand, 1) := by decide +kernel
theorem dX10_fewestFor_46 : decode cX10_fewestFor 46 = .ok (.invokevirtual 108, 3) := by decide +kernel
theorem dX10_fewestFor_49 : decode cX10_fewestFor 49 = .ok (.iload_n 2, 1) := by decide +kernel
theorem dX10_fewestFor_50 : decode cX10_fewestFor 50 = .ok (.iand, 1) := by decide +kernel
theorem dX10_fewestFor_51 : decode cX10_fewestFor 51 = .ok (.ifCond .ne 8, 3) := by decide +kernel
theorem dX10_fewestFor_54 : decode cX10_fewestFor 54 = .ok (.iload 4, 2) := by decide +kernel
theorem dX10_fewestFor_56 : decode cX10_fewestFor 56 = .ok (.goto 4, 3) := by decide +kernel
theorem dX10_fewestFor_59 : decode cX10_fewestFor 59 = .ok (.iload_n 3, 1) := by decide +kernel
theorem dX10_fewestFor_60 : decode cX10_fewestFor 60 = .ok (.istore_n 3, 1) := by decide +kernel
theorem dX10_fewestFor_61 : decode cX10_fewestFor 61 = .ok (.iinc 4 1, 3) := by decide +kernel
theorem dX10_fewestFor_64 : decode cX10_fewestFor 64 = .ok (.goto (-58), 3) := by decide +kernel
theorem dX10_fewestFor_67 : decode cX10_fewestFor 67 = .ok (.iload_n 3, 1) := by decide +kernel
theorem dX10_fewestFor_68 : decode cX10_fewestFor 68 = .ok (.ireturn, 1) := by decide +kernel
theorem dX10_stopped_0 : decode cX10_stopped 0 = .ok (.aload_n 0, 1) := by decide +kernel
theorem dX10_stopped_1 : decode cX10_stopped 1 = .ok (.iconst 0, 1) := by decide +kernel
theorem dX10_stopped_2 : decode cX10_stopped 2 = .ok (.putfield 78, 3) := by decide +kernel
theorem dX10_stopped_5 : decode cX10_stopped 5 = .ok (.aload_n 0, 1) := by decide +kernel
theorem dX10_stopped_6 : decode cX10_stopped 6 = .ok (.iload_n 1, 1) := by decide +kernel
theorem dX10_stopped_7 : decode cX10_stopped 7 = .ok (.invokevirtual 160, 3) := by decide +kernel
theorem dX10_stopped_10 : decode cX10_stopped 10 = .ok (.ifCond .eq 27, 3) := by decide +kernel
theorem dX10_stopped_13 : decode cX10_stopped 13 = .ok (.aload_n 0, 1) := by decide +kernel
theorem dX10_stopped_14 : decode cX10_stopped 14 = .ok (.iload_n 2, 1) := by decide +kernel
theorem dX10_stopped_15 : decode cX10_stopped 15 = .ok (.invokevirtual 206, 3) := by decide +kernel
theorem dX10_stopped_18 : decode cX10_stopped 18 = .ok (.ifCond .eq 19, 3) := by decide +kernel
theorem dX10_stopped_21 : decode cX10_stopped 21 = .ok (.aload_n 0, 1) := by decide +kernel
theorem dX10_stopped_22 : decode cX10_stopped 22 = .ok (.aload_n 0, 1) := by decide +kernel
theorem dX10_stopped_23 : decode cX10_stopped 23 = .ok (.getfield 22, 3) := by decide +kernel
theorem dX10_stopped_26 : decode cX10_stopped 26 = .ok (.iload_n 1, 1) := by decide +kernel
theorem dX10_stopped_27 : decode cX10_stopped 27 = .ok (.iaload, 1) := by decide +kernel
theorem dX10_stopped_28 : decode cX10_stopped 28 = .ok (.iconst 1, 1) := by decide +kernel
theorem dX10_stopped_29 : decode cX10_stopped 29 = .ok (.iload_n 2, 1) := by decide +kernel
theorem dX10_stopped_30 : decode cX10_stopped 30 = .ok (.ishl, 1) := by decide +kernel
theorem dX10_stopped_31 : decode cX10_stopped 31 = .ok (.invokevirtual 228, 3) := by decide +kernel
theorem dX10_stopped_34 : decode cX10_stopped 34 = .ok (.goto 8, 3) := by decide +kernel
theorem dX10_stopped_37 : decode cX10_stopped 37 = .ok (.aload_n 0, 1) := by decide +kernel
theorem dX10_stopped_38 : decode cX10_stopped 38 = .ok (.iconst (-1), 1) := by decide +kernel
theorem dX10_stopped_39 : decode cX10_stopped 39 = .ok (.invokevirtual 121, 3) := by decide +kernel
theorem dX10_stopped_42 : decode cX10_stopped 42 = .ok (.ireturn, 1) := by decide +kernel
theorem dX10_allStopped_0 : decode cX10_allStopped 0 = .ok (.aload_n 0, 1) := by decide +kernel
theorem dX10_allStopped_1 : decode cX10_allStopped 1 = .ok (.iconst 0, 1) := by decide +kernel
theorem dX10_allStopped_2 : decode cX10_allStopped 2 = .ok (.putfield 78, 3) := by decide +kernel
theorem dX10_allStopped_5 : decode cX10_allStopped 5 = .ok (.aload_n 0, 1) := by decide +kernel
theorem dX10_allStopped_6 : decode cX10_allStopped 6 = .ok (.iload_n 1, 1) := by decide +kernel
theorem dX10_allStopped_7 : decode cX10_allStopped 7 = .ok (.invokevirtual 160, 3) := by decide +kernel
theorem dX10_allStopped_10 : decode cX10_allStopped 10 = .ok (.ifCond .eq 19, 3) := by decide +kernel
theorem dX10_allStopped_13 : decode cX10_allStopped 13 = .ok (.iload_n 2, 1) := by decide +kernel
theorem dX10_allStopped_14 : decode cX10_allStopped 14 = .ok (.iconst 0, 1) := by decide +kernel
theorem dX10_allStopped_15 : decode cX10_allStopped 15 = .ok (.iconst 1, 1) := by decide +kernel
theorem dX10_allStopped_16 : decode cX10_allStopped 16 = .ok (.aload_n 0, 1) := by decide +kernel
theorem dX10_allStopped_17 : decode cX10_allStopped 17 = .ok (.getfield 88, 3) := by decide +kernel
theorem dX10_allStopped_20 : decode cX10_allStopped 20 = .ok (.ishl, 1) := by decide +kernel
theorem dX10_allStopped_21 : decode cX10_allStopped 21 = .ok (.iconst 1, 1) := by decide +kernel
theorem dX10_allStopped_22 : decode cX10_allStopped 22 = .ok (.isub, 1) := by decide +kernel
theorem dX10_allStopped_23 : decode cX10_allStopped 23 = .ok (.invokestatic 213, 3) := by decide +kernel
theorem dX10_allStopped_26 : decode cX10_allStopped 26 = .ok (.goto 4, 3) := by decide +kernel
theorem dX10_allStopped_29 : decode cX10_allStopped 29 = .ok (.iconst (-1), 1) := by decide +kernel
theorem dX10_allStopped_30 : decode cX10_allStopped 30 = .ok (.istore_n 3, 1) := by decide +kernel
theorem dX10_allStopped_31 : decode cX10_allStopped 31 = .ok (.iload_n 3, 1) := by decide +kernel
theorem dX10_allStopped_32 : decode cX10_allStopped 32 = .ok (.ifCond .ge 11, 3) := by decide +kernel
theorem dX10_allStopped_35 : decode cX10_allStopped 35 = .ok (.aload_n 0, 1) := by decide +kernel
theorem dX10_allStopped_36 : decode cX10_allStopped 36 = .ok (.iload_n 3, 1) := by decide +kernel
theorem dX10_allStopped_37 : decode cX10_allStopped 37 = .ok (.invokevirtual 121, 3) := by decide +kernel
theorem dX10_allStopped_40 : decode cX10_allStopped 40 = .ok (.goto 14, 3) := by decide +kernel
theorem dX10_allStopped_43 : decode cX10_allStopped 43 = .ok (.aload_n 0, 1) := by decide +kernel
theorem dX10_allStopped_44 : decode cX10_allStopped 44 = .ok (.aload_n 0, 1) := by decide +kernel
theorem dX10_allStopped_45 : decode cX10_allStopped 45 = .ok (.getfield 22, 3) := by decide +kernel
theorem dX10_allStopped_48 : decode cX10_allStopped 48 = .ok (.iload_n 1, 1) := by decide +kernel
theorem dX10_allStopped_49 : decode cX10_allStopped 49 = .ok (.iaload, 1) := by decide +kernel
theorem dX10_allStopped_50 : decode cX10_allStopped 50 = .ok (.iload_n 2, 1) := by decide +kernel
theorem dX10_allStopped_51 : decode cX10_allStopped 51 = .ok (.invokevirtual 228, 3) := by decide +kernel
theorem dX10_allStopped_54 : decode cX10_allStopped 54 = .ok (.ireturn, 1) := by decide +kernel
theorem dX10_agrees_0 : decode cX10_agrees 0 = .ok (.aload_n 0, 1) := by decide +kernel
theorem dX10_agrees_1 : decode cX10_agrees 1 = .ok (.iconst 0, 1) := by decide +kernel
theorem dX10_agrees_2 : decode cX10_agrees 2 = .ok (.putfield 78, 3) := by decide +kernel
theorem dX10_agrees_5 : decode cX10_agrees 5 = .ok (.aload_n 0, 1) := by decide +kernel
theorem dX10_agrees_6 : decode cX10_agrees 6 = .ok (.iload_n 1, 1) := by decide +kernel
theorem dX10_agrees_7 : decode cX10_agrees 7 = .ok (.invokevirtual 160, 3) := by decide +kernel
theorem dX10_agrees_10 : decode cX10_agrees 10 = .ok (.ifCond .eq 12, 3) := by decide +kernel
theorem dX10_agrees_13 : decode cX10_agrees 13 = .ok (.iconst 0, 1) := by decide +kernel
theorem dX10_agrees_14 : decode cX10_agrees 14 = .ok (.iload_n 2, 1) := by decide +kernel
theorem dX10_agrees_15 : decode cX10_agrees 15 = .ok (.iconst 1, 1) := by decide +kernel
theorem dX10_agrees_16 : decode cX10_agrees 16 = .ok (.invokestatic 225, 3) := by decide +kernel
theorem dX10_agrees_19 : decode cX10_agrees 19 = .ok (.goto 4, 3) := by decide +kernel
theorem dX10_agrees_22 : decode cX10_agrees 22 = .ok (.iconst (-1), 1) := by decide +kernel
theorem dX10_agrees_23 : decode cX10_agrees 23 = .ok (.istore_n 3, 1) := by decide +kernel
theorem dX10_agrees_24 : decode cX10_agrees 24 = .ok (.iload_n 3, 1) := by decide +kernel
theorem dX10_agrees_25 : decode cX10_agrees 25 = .ok (.ifCond .ge 9, 3) := by decide +kernel
theorem dX10_agrees_28 : decode cX10_agrees 28 = .ok (.aload_n 0, 1) := by decide +kernel
theorem dX10_agrees_29 : decode cX10_agrees 29 = .ok (.iload_n 3, 1) := by decide +kernel
theorem dX10_agrees_30 : decode cX10_agrees 30 = .ok (.invokevirtual 121, 3) := by decide +kernel
theorem dX10_agrees_33 : decode cX10_agrees 33 = .ok (.ireturn, 1) := by decide +kernel
theorem dX10_agrees_34 : decode cX10_agrees 34 = .ok (.iconst 0, 1) := by decide +kernel
theorem dX10_agrees_35 : decode cX10_agrees 35 = .ok (.istore 4, 2) := by decide +kernel
theorem dX10_agrees_37 : decode cX10_agrees 37 = .ok (.bipush (-9), 2) := by decide +kernel
theorem dX10_agrees_39 : decode cX10_agrees 39 = .ok (.istore 5, 2) := by decide +kernel
theorem dX10_agrees_41 : decode cX10_agrees 41 = .ok (.iconst 0, 1) := by decide +kernel
theorem dX10_agrees_42 : decode cX10_agrees 42 = .ok (.istore 6, 2) := by decide +kernel
theorem dX10_agrees_44 : decode cX10_agrees 44 = .ok (.iload 6, 2) := by decide +kernel
theorem dX10_agrees_46 : decode cX10_agrees 46 = .ok (.sipush 256, 3) := by decide +kernel
theorem dX10_agrees_49 : decode cX10_agrees 49 = .ok (.if_icmp .ge 112, 3) := by decide +kernel
theorem dX10_agrees_52 : decode cX10_agrees 52 = .ok (.iload 6, 2) := by decide +kernel
theorem dX10_agrees_54 : decode cX10_agrees 54 = .ok (.aload_n 0, 1) := by decide +kernel
theorem dX10_agrees_55 : decode cX10_agrees 55 = .ok (.getfield 22, 3) := by decide +kernel
theorem dX10_agrees_58 : decode cX10_agrees 58 = .ok (.iload_n 1, 1) := by decide +kernel
theorem dX10_agrees_59 : decode cX10_agrees 59 = .ok (.iaload, 1) := by decide +kernel
theorem dX10_agrees_60 : decode cX10_agrees 60 = .ok (.iconst (-1), 1) := by decide +kernel
theorem dX10_agrees_61 : decode cX10_agrees 61 = .ok (.ixor, 1) := by decide +kernel
theorem dX10_agrees_62 : decode cX10_agrees 62 = .ok (.iand, 1) := by decide +kernel
theorem dX10_agrees_63 : decode cX10_agrees 63 = .ok (.ifCond .ne 92, 3) := by decide +kernel
theorem dX10_agrees_66 : decode cX10_agrees 66 = .ok (.aload_n 0, 1) := by decide +kernel
theorem dX10_agrees_67 : decode cX10_agrees 67 = .ok (.getfield 22, 3) := by decide +kernel
theorem dX10_agrees_70 : decode cX10_agrees 70 = .ok (.iload_n 1, 1) := by decide +kernel
theorem dX10_agrees_71 : decode cX10_agrees 71 = .ok (.iaload, 1) := by decide +kernel
theorem dX10_agrees_72 : decode cX10_agrees 72 = .ok (.iload 6, 2) := by decide +kernel
theorem dX10_agrees_74 : decode cX10_agrees 74 = .ok (.iconst (-1), 1) := by decide +kernel
theorem dX10_agrees_75 : decode cX10_agrees 75 = .ok (.ixor, 1) := by decide +kernel
theorem dX10_agrees_76 : decode cX10_agrees 76 = .ok (.iand, 1) := by decide +kernel
theorem dX10_agrees_77 : decode cX10_agrees 77 = .ok (.istore 7, 2) := by decide +kernel
theorem dX10_agrees_79 : decode cX10_agrees 79 = .ok (.aload_n 0, 1) := by decide +kernel
theorem dX10_agrees_80 : decode cX10_agrees 80 = .ok (.iload 7, 2) := by decide +kernel
theorem dX10_agrees_82 : decode cX10_agrees 82 = .ok (.invokevirtual 108, 3) := by decide +kernel
theorem dX10_agrees_85 : decode cX10_agrees 85 = .ok (.pop, 1) := by decide +kernel
theorem dX10_agrees_86 : decode cX10_agrees 86 = .ok (.iload 7, 2) := by decide +kernel
theorem dX10_agrees_88 : decode cX10_agrees 88 = .ok (.aload_n 0, 1) := by decide +kernel
theorem dX10_agrees_89 : decode cX10_agrees 89 = .ok (.getfield 35, 3) := by decide +kernel
theorem dX10_agrees_92 : decode cX10_agrees 92 = .ok (.bipush 11, 2) := by decide +kernel
theorem dX10_agrees_94 : decode cX10_agrees 94 = .ok (.iaload, 1) := by decide +kernel
theorem dX10_agrees_95 : decode cX10_agrees 95 = .ok (.iconst (-1), 1) := by decide +kernel
theorem dX10_agrees_96 : decode cX10_agrees 96 = .ok (.ixor, 1) := by decide +kernel
theorem dX10_agrees_97 : decode cX10_agrees 97 = .ok (.iand, 1) := by decide +kernel
theorem dX10_agrees_98 : decode cX10_agrees 98 = .ok (.ifCond .ne 7, 3) := by decide +kernel
theorem dX10_agrees_101 : decode cX10_agrees 101 = .ok (.iconst 1, 1) := by decide +kernel
theorem dX10_agrees_102 : decode cX10_agrees 102 = .ok (.goto 4, 3) := by decide +kernel
theorem dX10_agrees_105 : decode cX10_agrees 105 = .ok (.iconst 0, 1) := by decide +kernel
theorem dX10_agrees_106 : decode cX10_agrees 106 = .ok (.istore 8, 2) := by decide +kernel
theorem dX10_agrees_108 : decode cX10_agrees 108 = .ok (.iload 4, 2) := by decide +kernel
theorem dX10_agrees_110 : decode cX10_agrees 110 = .ok (.iload 8, 2) := by decide +kernel
theorem dX10_agrees_112 : decode cX10_agrees 112 = .ok (.ifCond .eq 7, 3) := by decide +kernel
theorem dX10_agrees_115 : decode cX10_agrees 115 = .ok (.iconst 1, 1) := by decide +kernel
theorem dX10_agrees_116 : decode cX10_agrees 116 = .ok (.goto 4, 3) := by decide +kernel
theorem dX10_agrees_119 : decode cX10_agrees 119 = .ok (.iconst 0, 1) := by decide +kernel
theorem dX10_agrees_120 : decode cX10_agrees 120 = .ok (.iadd, 1) := by decide +kernel
theorem dX10_agrees_121 : decode cX10_agrees 121 = .ok (.istore 4, 2) := by decide +kernel
theorem dX10_agrees_123 : decode cX10_agrees 123 = .ok (.iload 8, 2) := by decide +kernel
theorem dX10_agrees_125 : decode cX10_agrees 125 = .ok (.ifCond .eq 26, 3) := by decide +kernel
theorem dX10_agrees_128 : decode cX10_agrees 128 = .ok (.iload 5, 2) := by decide +kernel
theorem dX10_agrees_130 : decode cX10_agrees 130 = .ok (.ifCond .lt 16, 3) := by decide +kernel
theorem dX10_agrees_133 : decode cX10_agrees 133 = .ok (.iload 6, 2) := by decide +kernel
theorem dX10_agrees_135 : decode cX10_agrees 135 = .ok (.invokestatic 112, 3) := by decide +kernel
theorem dX10_agrees_138 : decode cX10_agrees 138 = .ok (.iload 5, 2) := by decide +kernel
theorem dX10_agrees_140 : decode cX10_agrees 140 = .ok (.invokestatic 112, 3) := by decide +kernel
theorem dX10_agrees_143 : decode cX10_agrees 143 = .ok (.if_icmp .ge 8, 3) := by decide +kernel
theorem dX10_agrees_146 : decode cX10_agrees 146 = .ok (.iload 6, 2) := by decide +kernel
theorem dX10_agrees_148 : decode cX10_agrees 148 = .ok (.goto 5, 3) := by decide +kernel
theorem dX10_agrees_151 : decode cX10_agrees 151 = .ok (.iload 5, 2) := by decide +kernel
theorem dX10_agrees_153 : decode cX10_agrees 153 = .ok (.istore 5, 2) := by decide +kernel
theorem dX10_agrees_155 : decode cX10_agrees 155 = .ok (.iinc 6 1, 3) := by decide +kernel
theorem dX10_agrees_158 : decode cX10_agrees 158 = .ok (.goto (-114), 3) := by decide +kernel
theorem dX10_agrees_161 : decode cX10_agrees 161 = .ok (.iload_n 2, 1) := by decide +kernel
theorem dX10_agrees_162 : decode cX10_agrees 162 = .ok (.ifCond .ne 8, 3) := by decide +kernel
theorem dX10_agrees_165 : decode cX10_agrees 165 = .ok (.iload 4, 2) := by decide +kernel
theorem dX10_agrees_167 : decode cX10_agrees 167 = .ok (.goto 5, 3) := by decide +kernel
theorem dX10_agrees_170 : decode cX10_agrees 170 = .ok (.iload 5, 2) := by decide +kernel
theorem dX10_agrees_172 : decode cX10_agrees 172 = .ok (.ireturn, 1) := by decide +kernel
theorem dX10_bring_0 : decode cX10_bring 0 = .ok (.aload_n 0, 1) := by decide +kernel
theorem dX10_bring_1 : decode cX10_bring 1 = .ok (.iconst 0, 1) := by decide +kernel
theorem dX10_bring_2 : decode cX10_bring 2 = .ok (.putfield 78, 3) := by decide +kernel
theorem dX10_bring_5 : decode cX10_bring 5 = .ok (.aload_n 0, 1) := by decide +kernel
theorem dX10_bring_6 : decode cX10_bring 6 = .ok (.iload_n 1, 1) := by decide +kernel
theorem dX10_bring_7 : decode cX10_bring 7 = .ok (.invokevirtual 160, 3) := by decide +kernel
theorem dX10_bring_10 : decode cX10_bring 10 = .ok (.ifCond .eq 11, 3) := by decide +kernel
theorem dX10_bring_13 : decode cX10_bring 13 = .ok (.aload_n 0, 1) := by decide +kernel
theorem dX10_bring_14 : decode cX10_bring 14 = .ok (.iload_n 2, 1) := by decide +kernel
theorem dX10_bring_15 : decode cX10_bring 15 = .ok (.invokevirtual 206, 3) := by decide +kernel
theorem dX10_bring_18 : decode cX10_bring 18 = .ok (.ifCond .ne 9, 3) := by decide +kernel
theorem dX10_bring_21 : decode cX10_bring 21 = .ok (.aload_n 0, 1) := by decide +kernel
theorem dX10_bring_22 : decode cX10_bring 22 = .ok (.iconst (-1), 1) := by decide +kernel
theorem dX10_bring_23 : decode cX10_bring 23 = .ok (.invokevirtual 121, 3) := by decide +kernel
theorem dX10_bring_26 : decode cX10_bring 26 = .ok (.ireturn, 1) := by decide +kernel
theorem dX10_bring_27 : decode cX10_bring 27 = .ok (.bipush (-9), 2) := by decide +kernel
theorem dX10_bring_29 : decode cX10_bring 29 = .ok (.istore_n 3, 1) := by decide +kernel
theorem dX10_bring_30 : decode cX10_bring 30 = .ok (.iconst 0, 1) := by decide +kernel
theorem dX10_bring_31 : decode cX10_bring 31 = .ok (.istore 4, 2) := by decide +kernel
theorem dX10_bring_33 : decode cX10_bring 33 = .ok (.iload 4, 2) := by decide +kernel
theorem dX10_bring_35 : decode cX10_bring 35 = .ok (.sipush 256, 3) := by decide +kernel
theorem dX10_bring_38 : decode cX10_bring 38 = .ok (.if_icmp .ge 64, 3) := by decide +kernel
theorem dX10_bring_41 : decode cX10_bring 41 = .ok (.iload 4, 2) := by decide +kernel
theorem dX10_bring_43 : decode cX10_bring 43 = .ok (.aload_n 0, 1) := by decide +kernel
theorem dX10_bring_44 : decode cX10_bring 44 = .ok (.getfield 22, 3) := by decide +kernel
theorem dX10_bring_47 : decode cX10_bring 47 = .ok (.iload_n 1, 1) := by decide +kernel
theorem dX10_bring_48 : decode cX10_bring 48 = .ok (.iaload, 1) := by decide +kernel
theorem dX10_bring_49 : decode cX10_bring 49 = .ok (.iand, 1) := by decide +kernel
theorem dX10_bring_50 : decode cX10_bring 50 = .ok (.ifCond .ne 46, 3) := by decide +kernel
theorem dX10_bring_53 : decode cX10_bring 53 = .ok (.iload_n 3, 1) := by decide +kernel
theorem dX10_bring_54 : decode cX10_bring 54 = .ok (.ifCond .lt 15, 3) := by decide +kernel
theorem dX10_bring_57 : decode cX10_bring 57 = .ok (.iload 4, 2) := by decide +kernel
theorem dX10_bring_59 : decode cX10_bring 59 = .ok (.invokestatic 112, 3) := by decide +kernel
theorem dX10_bring_62 : decode cX10_bring 62 = .ok (.iload_n 3, 1) := by decide +kernel
theorem dX10_bring_63 : decode cX10_bring 63 = .ok (.invokestatic 112, 3) := by decide +kernel
theorem dX10_bring_66 : decode cX10_bring 66 = .ok (.if_icmp .ge 30, 3) := by decide +kernel
theorem dX10_bring_69 : decode cX10_bring 69 = .ok (.aload_n 0, 1) := by decide +kernel
theorem dX10_bring_70 : decode cX10_bring 70 = .ok (.aload_n 0, 1) := by decide +kernel
theorem dX10_bring_71 : decode cX10_bring 71 = .ok (.getfield 22, 3) := by decide +kernel
theorem dX10_bring_74 : decode cX10_bring 74 = .ok (.iload_n 1, 1) := by decide +kernel
theorem dX10_bring_75 : decode cX10_bring 75 = .ok (.iaload, 1) := by decide +kernel
theorem dX10_bring_76 : decode cX10_bring 76 = .ok (.iload 4, 2) := by decide +kernel
theorem dX10_bring_78 : decode cX10_bring 78 = .ok (.ior, 1) := by decide +kernel
theorem dX10_bring_79 : decode cX10_bring 79 = .ok (.invokevirtual 108, 3) := by decide +kernel
theorem dX10_bring_82 : decode cX10_bring 82 = .ok (.iload_n 2, 1) := by decide +kernel
theorem dX10_bring_83 : decode cX10_bring 83 = .ok (.invokestatic 93, 3) := by decide +kernel
theorem dX10_bring_86 : decode cX10_bring 86 = .ok (.ifCond .eq 8, 3) := by decide +kernel
theorem dX10_bring_89 : decode cX10_bring 89 = .ok (.iload 4, 2) := by decide +kernel
theorem dX10_bring_91 : decode cX10_bring 91 = .ok (.goto 4, 3) := by decide +kernel
theorem dX10_bring_94 : decode cX10_bring 94 = .ok (.iload_n 3, 1) := by decide +kernel
theorem dX10_bring_95 : decode cX10_bring 95 = .ok (.istore_n 3, 1) := by decide +kernel
theorem dX10_bring_96 : decode cX10_bring 96 = .ok (.iinc 4 1, 3) := by decide +kernel
theorem dX10_bring_99 : decode cX10_bring 99 = .ok (.goto (-66), 3) := by decide +kernel
theorem dX10_bring_102 : decode cX10_bring 102 = .ok (.iload_n 3, 1) := by decide +kernel
theorem dX10_bring_103 : decode cX10_bring 103 = .ok (.ireturn, 1) := by decide +kernel
theorem dX10_empty_0 : decode cX10_empty 0 = .ok (.aload_n 0, 1) := by decide +kernel
theorem dX10_empty_1 : decode cX10_empty 1 = .ok (.iconst 0, 1) := by decide +kernel
theorem dX10_empty_2 : decode cX10_empty 2 = .ok (.putfield 78, 3) := by decide +kernel
theorem dX10_empty_5 : decode cX10_empty 5 = .ok (.iload_n 1, 1) := by decide +kernel
theorem dX10_empty_6 : decode cX10_empty 6 = .ok (.i2l, 1) := by decide +kernel
theorem dX10_empty_7 : decode cX10_empty 7 = .ok (.lconst 0, 1) := by decide +kernel
theorem dX10_empty_8 : decode cX10_empty 8 = .ok (.ldc2_w 231, 3) := by decide +kernel
theorem dX10_empty_11 : decode cX10_empty 11 = .ok (.invokestatic 84, 3) := by decide +kernel
theorem dX10_empty_14 : decode cX10_empty 14 = .ok (.ifCond .ne 10, 3) := by decide +kernel
theorem dX10_empty_17 : decode cX10_empty 17 = .ok (.aload_n 0, 1) := by decide +kernel
theorem dX10_empty_18 : decode cX10_empty 18 = .ok (.bipush (-2), 2) := by decide +kernel
theorem dX10_empty_20 : decode cX10_empty 20 = .ok (.invokevirtual 121, 3) := by decide +kernel
theorem dX10_empty_23 : decode cX10_empty 23 = .ok (.ireturn, 1) := by decide +kernel
theorem dX10_empty_24 : decode cX10_empty 24 = .ok (.iload_n 1, 1) := by decide +kernel
theorem dX10_empty_25 : decode cX10_empty 25 = .ok (.ifCond .ne 9, 3) := by decide +kernel
theorem dX10_empty_28 : decode cX10_empty 28 = .ok (.aload_n 0, 1) := by decide +kernel
theorem dX10_empty_29 : decode cX10_empty 29 = .ok (.iconst 0, 1) := by decide +kernel
theorem dX10_empty_30 : decode cX10_empty 30 = .ok (.invokevirtual 108, 3) := by decide +kernel
theorem dX10_empty_33 : decode cX10_empty 33 = .ok (.ireturn, 1) := by decide +kernel
theorem dX10_empty_34 : decode cX10_empty 34 = .ok (.iconst 0, 1) := by decide +kernel
theorem dX10_empty_35 : decode cX10_empty 35 = .ok (.istore_n 2, 1) := by decide +kernel
theorem dX10_empty_36 : decode cX10_empty 36 = .ok (.iconst (-1), 1) := by decide +kernel
theorem dX10_empty_37 : decode cX10_empty 37 = .ok (.istore_n 3, 1) := by decide +kernel
theorem dX10_empty_38 : decode cX10_empty 38 = .ok (.iconst 0, 1) := by decide +kernel
theorem dX10_empty_39 : decode cX10_empty 39 = .ok (.istore 4, 2) := by decide +kernel
