theorem dX5_cut_25 : decode cX5_cut 25 = .ok (.istore_n 2, 1) := by decide +kernel
theorem dX5_cut_26 : decode cX5_cut 26 = .ok (.aload_n 0, 1) := by decide +kernel
theorem dX5_cut_27 : decode cX5_cut 27 = .ok (.invokevirtual 117, 3) := by decide +kernel
theorem dX5_cut_30 : decode cX5_cut 30 = .ok (.istore_n 3, 1) := by decide +kernel
theorem dX5_cut_31 : decode cX5_cut 31 = .ok (.iload_n 2, 1) := by decide +kernel
theorem dX5_cut_32 : decode cX5_cut 32 = .ok (.ifCond .ne 12, 3) := by decide +kernel
theorem dX5_cut_35 : decode cX5_cut 35 = .ok (.iload_n 3, 1) := by decide +kernel
theorem dX5_cut_36 : decode cX5_cut 36 = .ok (.sipush 500, 3) := by decide +kernel
theorem dX5_cut_39 : decode cX5_cut 39 = .ok (.if_icmp .le 5, 3) := by decide +kernel
theorem dX5_cut_42 : decode cX5_cut 42 = .ok (.iconst 5, 1) := by decide +kernel
theorem dX5_cut_43 : decode cX5_cut 43 = .ok (.istore_n 2, 1) := by decide +kernel
theorem dX5_cut_44 : decode cX5_cut 44 = .ok (.iload_n 2, 1) := by decide +kernel
theorem dX5_cut_45 : decode cX5_cut 45 = .ok (.ifCond .eq 9, 3) := by decide +kernel
theorem dX5_cut_48 : decode cX5_cut 48 = .ok (.aload_n 0, 1) := by decide +kernel
theorem dX5_cut_49 : decode cX5_cut 49 = .ok (.iload_n 2, 1) := by decide +kernel
theorem dX5_cut_50 : decode cX5_cut 50 = .ok (.invokevirtual 68, 3) := by decide +kernel
theorem dX5_cut_53 : decode cX5_cut 53 = .ok (.ireturn, 1) := by decide +kernel
theorem dX5_cut_54 : decode cX5_cut 54 = .ok (.iload_n 3, 1) := by decide +kernel
theorem dX5_cut_55 : decode cX5_cut 55 = .ok (.ifCond .eq 11, 3) := by decide +kernel
theorem dX5_cut_58 : decode cX5_cut 58 = .ok (.aload_n 0, 1) := by decide +kernel
theorem dX5_cut_59 : decode cX5_cut 59 = .ok (.getfield 72, 3) := by decide +kernel
theorem dX5_cut_62 : decode cX5_cut 62 = .ok (.iconst 2, 1) := by decide +kernel
theorem dX5_cut_63 : decode cX5_cut 63 = .ok (.if_icmp .ge 7, 3) := by decide +kernel
theorem dX5_cut_66 : decode cX5_cut 66 = .ok (.iconst 1, 1) := by decide +kernel
theorem dX5_cut_67 : decode cX5_cut 67 = .ok (.goto 19, 3) := by decide +kernel
theorem dX5_cut_70 : decode cX5_cut 70 = .ok (.aload_n 0, 1) := by decide +kernel
theorem dX5_cut_71 : decode cX5_cut 71 = .ok (.getfield 13, 3) := by decide +kernel
theorem dX5_cut_74 : decode cX5_cut 74 = .ok (.iconst 1, 1) := by decide +kernel
theorem dX5_cut_75 : decode cX5_cut 75 = .ok (.iaload, 1) := by decide +kernel
theorem dX5_cut_76 : decode cX5_cut 76 = .ok (.aload_n 0, 1) := by decide +kernel
theorem dX5_cut_77 : decode cX5_cut 77 = .ok (.getfield 17, 3) := by decide +kernel
theorem dX5_cut_80 : decode cX5_cut 80 = .ok (.iconst 1, 1) := by decide +kernel
theorem dX5_cut_81 : decode cX5_cut 81 = .ok (.iaload, 1) := by decide +kernel
theorem dX5_cut_82 : decode cX5_cut 82 = .ok (.invokestatic 78, 3) := by decide +kernel
theorem dX5_cut_85 : decode cX5_cut 85 = .ok (.l2i, 1) := by decide +kernel
theorem dX5_cut_86 : decode cX5_cut 86 = .ok (.istore 4, 2) := by decide +kernel
theorem dX5_cut_88 : decode cX5_cut 88 = .ok (.iload_n 3, 1) := by decide +kernel
theorem dX5_cut_89 : decode cX5_cut 89 = .ok (.ifCond .eq 11, 3) := by decide +kernel
theorem dX5_cut_92 : decode cX5_cut 92 = .ok (.aload_n 0, 1) := by decide +kernel
theorem dX5_cut_93 : decode cX5_cut 93 = .ok (.getfield 72, 3) := by decide +kernel
theorem dX5_cut_96 : decode cX5_cut 96 = .ok (.iconst 3, 1) := by decide +kernel
theorem dX5_cut_97 : decode cX5_cut 97 = .ok (.if_icmp .ge 7, 3) := by decide +kernel
theorem dX5_cut_100 : decode cX5_cut 100 = .ok (.iconst 1, 1) := by decide +kernel
theorem dX5_cut_101 : decode cX5_cut 101 = .ok (.goto 19, 3) := by decide +kernel
theorem dX5_cut_104 : decode cX5_cut 104 = .ok (.aload_n 0, 1) := by decide +kernel
theorem dX5_cut_105 : decode cX5_cut 105 = .ok (.getfield 13, 3) := by decide +kernel
theorem dX5_cut_108 : decode cX5_cut 108 = .ok (.iconst 2, 1) := by decide +kernel
theorem dX5_cut_109 : decode cX5_cut 109 = .ok (.iaload, 1) := by decide +kernel
theorem dX5_cut_110 : decode cX5_cut 110 = .ok (.aload_n 0, 1) := by decide +kernel
theorem dX5_cut_111 : decode cX5_cut 111 = .ok (.getfield 17, 3) := by decide +kernel
theorem dX5_cut_114 : decode cX5_cut 114 = .ok (.iconst 2, 1) := by decide +kernel
theorem dX5_cut_115 : decode cX5_cut 115 = .ok (.iaload, 1) := by decide +kernel
theorem dX5_cut_116 : decode cX5_cut 116 = .ok (.invokestatic 78, 3) := by decide +kernel
theorem dX5_cut_119 : decode cX5_cut 119 = .ok (.l2i, 1) := by decide +kernel
theorem dX5_cut_120 : decode cX5_cut 120 = .ok (.istore 5, 2) := by decide +kernel
theorem dX5_cut_122 : decode cX5_cut 122 = .ok (.iconst 0, 1) := by decide +kernel
theorem dX5_cut_123 : decode cX5_cut 123 = .ok (.istore 6, 2) := by decide +kernel
theorem dX5_cut_125 : decode cX5_cut 125 = .ok (.iload 6, 2) := by decide +kernel
theorem dX5_cut_127 : decode cX5_cut 127 = .ok (.iload_n 3, 1) := by decide +kernel
theorem dX5_cut_128 : decode cX5_cut 128 = .ok (.if_icmp .ge 75, 3) := by decide +kernel
theorem dX5_cut_131 : decode cX5_cut 131 = .ok (.aload_n 0, 1) := by decide +kernel
theorem dX5_cut_132 : decode cX5_cut 132 = .ok (.iload_n 1, 1) := by decide +kernel
theorem dX5_cut_133 : decode cX5_cut 133 = .ok (.aload_n 0, 1) := by decide +kernel
theorem dX5_cut_134 : decode cX5_cut 134 = .ok (.getfield 13, 3) := by decide +kernel
theorem dX5_cut_137 : decode cX5_cut 137 = .ok (.iconst 0, 1) := by decide +kernel
theorem dX5_cut_138 : decode cX5_cut 138 = .ok (.iaload, 1) := by decide +kernel
theorem dX5_cut_139 : decode cX5_cut 139 = .ok (.iload 6, 2) := by decide +kernel
theorem dX5_cut_141 : decode cX5_cut 141 = .ok (.iload 5, 2) := by decide +kernel
theorem dX5_cut_143 : decode cX5_cut 143 = .ok (.idiv, 1) := by decide +kernel
theorem dX5_cut_144 : decode cX5_cut 144 = .ok (.iload 4, 2) := by decide +kernel
theorem dX5_cut_146 : decode cX5_cut 146 = .ok (.idiv, 1) := by decide +kernel
theorem dX5_cut_147 : decode cX5_cut 147 = .ok (.invokestatic 145, 3) := by decide +kernel
theorem dX5_cut_150 : decode cX5_cut 150 = .ok (.aload_n 0, 1) := by decide +kernel
theorem dX5_cut_151 : decode cX5_cut 151 = .ok (.getfield 13, 3) := by decide +kernel
theorem dX5_cut_154 : decode cX5_cut 154 = .ok (.iconst 1, 1) := by decide +kernel
theorem dX5_cut_155 : decode cX5_cut 155 = .ok (.iaload, 1) := by decide +kernel
theorem dX5_cut_156 : decode cX5_cut 156 = .ok (.iload 6, 2) := by decide +kernel
theorem dX5_cut_158 : decode cX5_cut 158 = .ok (.iload 5, 2) := by decide +kernel
theorem dX5_cut_160 : decode cX5_cut 160 = .ok (.idiv, 1) := by decide +kernel
theorem dX5_cut_161 : decode cX5_cut 161 = .ok (.iload 4, 2) := by decide +kernel
theorem dX5_cut_163 : decode cX5_cut 163 = .ok (.irem, 1) := by decide +kernel
theorem dX5_cut_164 : decode cX5_cut 164 = .ok (.invokestatic 145, 3) := by decide +kernel
theorem dX5_cut_167 : decode cX5_cut 167 = .ok (.aload_n 0, 1) := by decide +kernel
theorem dX5_cut_168 : decode cX5_cut 168 = .ok (.getfield 13, 3) := by decide +kernel
theorem dX5_cut_171 : decode cX5_cut 171 = .ok (.iconst 2, 1) := by decide +kernel
theorem dX5_cut_172 : decode cX5_cut 172 = .ok (.iaload, 1) := by decide +kernel
theorem dX5_cut_173 : decode cX5_cut 173 = .ok (.iload 6, 2) := by decide +kernel
theorem dX5_cut_175 : decode cX5_cut 175 = .ok (.iload 5, 2) := by decide +kernel
theorem dX5_cut_177 : decode cX5_cut 177 = .ok (.irem, 1) := by decide +kernel
theorem dX5_cut_178 : decode cX5_cut 178 = .ok (.invokestatic 145, 3) := by decide +kernel
theorem dX5_cut_181 : decode cX5_cut 181 = .ok (.invokevirtual 148, 3) := by decide +kernel
theorem dX5_cut_184 : decode cX5_cut 184 = .ok (.iconst (-1), 1) := by decide +kernel
theorem dX5_cut_185 : decode cX5_cut 185 = .ok (.if_icmp .ne 12, 3) := by decide +kernel
theorem dX5_cut_188 : decode cX5_cut 188 = .ok (.aload_n 0, 1) := by decide +kernel
theorem dX5_cut_189 : decode cX5_cut 189 = .ok (.aload_n 0, 1) := by decide +kernel
theorem dX5_cut_190 : decode cX5_cut 190 = .ok (.getfield 142, 3) := by decide +kernel
theorem dX5_cut_193 : decode cX5_cut 193 = .ok (.invokevirtual 152, 3) := by decide +kernel
theorem dX5_cut_196 : decode cX5_cut 196 = .ok (.ireturn, 1) := by decide +kernel
theorem dX5_cut_197 : decode cX5_cut 197 = .ok (.iinc 6 1, 3) := by decide +kernel
theorem dX5_cut_200 : decode cX5_cut 200 = .ok (.goto (-75), 3) := by decide +kernel
theorem dX5_cut_203 : decode cX5_cut 203 = .ok (.aload_n 0, 1) := by decide +kernel
theorem dX5_cut_204 : decode cX5_cut 204 = .ok (.getfield 98, 3) := by decide +kernel
theorem dX5_cut_207 : decode cX5_cut 207 = .ok (.bipush 24, 2) := by decide +kernel
theorem dX5_cut_209 : decode cX5_cut 209 = .ok (.if_icmp .ne 10, 3) := by decide +kernel
theorem dX5_cut_212 : decode cX5_cut 212 = .ok (.aload_n 0, 1) := by decide +kernel
theorem dX5_cut_213 : decode cX5_cut 213 = .ok (.bipush 8, 2) := by decide +kernel
theorem dX5_cut_215 : decode cX5_cut 215 = .ok (.invokevirtual 68, 3) := by decide +kernel
theorem dX5_cut_218 : decode cX5_cut 218 = .ok (.ireturn, 1) := by decide +kernel
theorem dX5_cut_219 : decode cX5_cut 219 = .ok (.aload_n 0, 1) := by decide +kernel
theorem dX5_cut_220 : decode cX5_cut 220 = .ok (.aload_n 0, 1) := by decide +kernel
theorem dX5_cut_221 : decode cX5_cut 221 = .ok (.getfield 20, 3) := by decide +kernel
theorem dX5_cut_224 : decode cX5_cut 224 = .ok (.iload_n 1, 1) := by decide +kernel
theorem dX5_cut_225 : decode cX5_cut 225 = .ok (.iaload, 1) := by decide +kernel
theorem dX5_cut_226 : decode cX5_cut 226 = .ok (.iconst (-1), 1) := by decide +kernel
theorem dX5_cut_227 : decode cX5_cut 227 = .ok (.invokevirtual 121, 3) := by decide +kernel
theorem dX5_cut_230 : decode cX5_cut 230 = .ok (.istore 6, 2) := by decide +kernel
theorem dX5_cut_232 : decode cX5_cut 232 = .ok (.aload_n 0, 1) := by decide +kernel
theorem dX5_cut_233 : decode cX5_cut 233 = .ok (.getfield 32, 3) := by decide +kernel
theorem dX5_cut_236 : decode cX5_cut 236 = .ok (.iload 6, 2) := by decide +kernel
theorem dX5_cut_238 : decode cX5_cut 238 = .ok (.aload_n 0, 1) := by decide +kernel
theorem dX5_cut_239 : decode cX5_cut 239 = .ok (.iload_n 3, 1) := by decide +kernel
theorem dX5_cut_240 : decode cX5_cut 240 = .ok (.invokevirtual 111, 3) := by decide +kernel
theorem dX5_cut_243 : decode cX5_cut 243 = .ok (.iastore, 1) := by decide +kernel
theorem dX5_cut_244 : decode cX5_cut 244 = .ok (.iconst 0, 1) := by decide +kernel
theorem dX5_cut_245 : decode cX5_cut 245 = .ok (.istore 7, 2) := by decide +kernel
theorem dX5_cut_247 : decode cX5_cut 247 = .ok (.iload 7, 2) := by decide +kernel
theorem dX5_cut_249 : decode cX5_cut 249 = .ok (.iload_n 3, 1) := by decide +kernel
theorem dX5_cut_250 : decode cX5_cut 250 = .ok (.if_icmp .ge 97, 3) := by decide +kernel
theorem dX5_cut_253 : decode cX5_cut 253 = .ok (.aload_n 0, 1) := by decide +kernel
theorem dX5_cut_254 : decode cX5_cut 254 = .ok (.iload_n 1, 1) := by decide +kernel
theorem dX5_cut_255 : decode cX5_cut 255 = .ok (.aload_n 0, 1) := by decide +kernel
theorem dX5_cut_256 : decode cX5_cut 256 = .ok (.getfield 13, 3) := by decide +kernel
theorem dX5_cut_259 : decode cX5_cut 259 = .ok (.iconst 0, 1) := by decide +kernel
theorem dX5_cut_260 : decode cX5_cut 260 = .ok (.iaload, 1) := by decide +kernel
theorem dX5_cut_261 : decode cX5_cut 261 = .ok (.iload 7, 2) := by decide +kernel
theorem dX5_cut_263 : decode cX5_cut 263 = .ok (.iload 5, 2) := by decide +kernel
theorem dX5_cut_265 : decode cX5_cut 265 = .ok (.idiv, 1) := by decide +kernel
theorem dX5_cut_266 : decode cX5_cut 266 = .ok (.iload 4, 2) := by decide +kernel
theorem dX5_cut_268 : decode cX5_cut 268 = .ok (.idiv, 1) := by decide +kernel
theorem dX5_cut_269 : decode cX5_cut 269 = .ok (.invokestatic 145, 3) := by decide +kernel
theorem dX5_cut_272 : decode cX5_cut 272 = .ok (.aload_n 0, 1) := by decide +kernel
theorem dX5_cut_273 : decode cX5_cut 273 = .ok (.getfield 13, 3) := by decide +kernel
theorem dX5_cut_276 : decode cX5_cut 276 = .ok (.iconst 1, 1) := by decide +kernel
theorem dX5_cut_277 : decode cX5_cut 277 = .ok (.iaload, 1) := by decide +kernel
theorem dX5_cut_278 : decode cX5_cut 278 = .ok (.iload 7, 2) := by decide +kernel
theorem dX5_cut_280 : decode cX5_cut 280 = .ok (.iload 5, 2) := by decide +kernel
theorem dX5_cut_282 : decode cX5_cut 282 = .ok (.idiv, 1) := by decide +kernel
theorem dX5_cut_283 : decode cX5_cut 283 = .ok (.iload 4, 2) := by decide +kernel
theorem dX5_cut_285 : decode cX5_cut 285 = .ok (.irem, 1) := by decide +kernel
theorem dX5_cut_286 : decode cX5_cut 286 = .ok (.invokestatic 145, 3) := by decide +kernel
theorem dX5_cut_289 : decode cX5_cut 289 = .ok (.aload_n 0, 1) := by decide +kernel
theorem dX5_cut_290 : decode cX5_cut 290 = .ok (.getfield 13, 3) := by decide +kernel
theorem dX5_cut_293 : decode cX5_cut 293 = .ok (.iconst 2, 1) := by decide +kernel
theorem dX5_cut_294 : decode cX5_cut 294 = .ok (.iaload, 1) := by decide +kernel
theorem dX5_cut_295 : decode cX5_cut 295 = .ok (.iload 7, 2) := by decide +kernel
theorem dX5_cut_297 : decode cX5_cut 297 = .ok (.iload 5, 2) := by decide +kernel
theorem dX5_cut_299 : decode cX5_cut 299 = .ok (.irem, 1) := by decide +kernel
theorem dX5_cut_300 : decode cX5_cut 300 = .ok (.invokestatic 145, 3) := by decide +kernel
theorem dX5_cut_303 : decode cX5_cut 303 = .ok (.invokevirtual 148, 3) := by decide +kernel
theorem dX5_cut_306 : decode cX5_cut 306 = .ok (.istore 8, 2) := by decide +kernel
theorem dX5_cut_308 : decode cX5_cut 308 = .ok (.aload_n 0, 1) := by decide +kernel
theorem dX5_cut_309 : decode cX5_cut 309 = .ok (.aload_n 0, 1) := by decide +kernel
theorem dX5_cut_310 : decode cX5_cut 310 = .ok (.getfield 35, 3) := by decide +kernel
theorem dX5_cut_313 : decode cX5_cut 313 = .ok (.aload_n 0, 1) := by decide +kernel
theorem dX5_cut_314 : decode cX5_cut 314 = .ok (.getfield 32, 3) := by decide +kernel
theorem dX5_cut_317 : decode cX5_cut 317 = .ok (.iload_n 1, 1) := by decide +kernel
theorem dX5_cut_318 : decode cX5_cut 318 = .ok (.iaload, 1) := by decide +kernel
theorem dX5_cut_319 : decode cX5_cut 319 = .ok (.iaload, 1) := by decide +kernel
theorem dX5_cut_320 : decode cX5_cut 320 = .ok (.iload 8, 2) := by decide +kernel
theorem dX5_cut_322 : decode cX5_cut 322 = .ok (.iadd, 1) := by decide +kernel
theorem dX5_cut_323 : decode cX5_cut 323 = .ok (.aload_n 0, 1) := by decide +kernel
theorem dX5_cut_324 : decode cX5_cut 324 = .ok (.getfield 35, 3) := by decide +kernel
theorem dX5_cut_327 : decode cX5_cut 327 = .ok (.aload_n 0, 1) := by decide +kernel
theorem dX5_cut_328 : decode cX5_cut 328 = .ok (.getfield 32, 3) := by decide +kernel
theorem dX5_cut_331 : decode cX5_cut 331 = .ok (.iload 6, 2) := by decide +kernel
theorem dX5_cut_333 : decode cX5_cut 333 = .ok (.iaload, 1) := by decide +kernel
theorem dX5_cut_334 : decode cX5_cut 334 = .ok (.iaload, 1) := by decide +kernel
theorem dX5_cut_335 : decode cX5_cut 335 = .ok (.iload 7, 2) := by decide +kernel
theorem dX5_cut_337 : decode cX5_cut 337 = .ok (.iadd, 1) := by decide +kernel
theorem dX5_cut_338 : decode cX5_cut 338 = .ok (.invokevirtual 138, 3) := by decide +kernel
theorem dX5_cut_341 : decode cX5_cut 341 = .ok (.iinc 7 1, 3) := by decide +kernel
theorem dX5_cut_344 : decode cX5_cut 344 = .ok (.goto (-97), 3) := by decide +kernel
theorem dX5_cut_347 : decode cX5_cut 347 = .ok (.aload_n 0, 1) := by decide +kernel
theorem dX5_cut_348 : decode cX5_cut 348 = .ok (.iconst 0, 1) := by decide +kernel
theorem dX5_cut_349 : decode cX5_cut 349 = .ok (.putfield 72, 3) := by decide +kernel
theorem dX5_cut_352 : decode cX5_cut 352 = .ok (.aload_n 0, 1) := by decide +kernel
theorem dX5_cut_353 : decode cX5_cut 353 = .ok (.iload 6, 2) := by decide +kernel
theorem dX5_cut_355 : decode cX5_cut 355 = .ok (.invokevirtual 75, 3) := by decide +kernel
theorem dX5_cut_358 : decode cX5_cut 358 = .ok (.ireturn, 1) := by decide +kernel
theorem dX5_deep_0 : decode cX5_deep 0 = .ok (.aload_n 0, 1) := by decide +kernel
theorem dX5_deep_1 : decode cX5_deep 1 = .ok (.iload_n 1, 1) := by decide +kernel
theorem dX5_deep_2 : decode cX5_deep 2 = .ok (.invokevirtual 131, 3) := by decide +kernel
theorem dX5_deep_5 : decode cX5_deep 5 = .ok (.ifCond .ne 8, 3) := by decide +kernel
theorem dX5_deep_8 : decode cX5_deep 8 = .ok (.bipush 7, 2) := by decide +kernel
theorem dX5_deep_10 : decode cX5_deep 10 = .ok (.goto 64, 3) := by decide +kernel
theorem dX5_deep_13 : decode cX5_deep 13 = .ok (.aload_n 0, 1) := by decide +kernel
theorem dX5_deep_14 : decode cX5_deep 14 = .ok (.getfield 20, 3) := by decide +kernel
theorem dX5_deep_17 : decode cX5_deep 17 = .ok (.iload_n 1, 1) := by decide +kernel
theorem dX5_deep_18 : decode cX5_deep 18 = .ok (.iaload, 1) := by decide +kernel
theorem dX5_deep_19 : decode cX5_deep 19 = .ok (.iconst 1, 1) := by decide +kernel
theorem dX5_deep_20 : decode cX5_deep 20 = .ok (.if_icmp .eq 7, 3) := by decide +kernel
theorem dX5_deep_23 : decode cX5_deep 23 = .ok (.iconst 2, 1) := by decide +kernel
theorem dX5_deep_24 : decode cX5_deep 24 = .ok (.goto 50, 3) := by decide +kernel
theorem dX5_deep_27 : decode cX5_deep 27 = .ok (.aload_n 0, 1) := by decide +kernel
theorem dX5_deep_28 : decode cX5_deep 28 = .ok (.getfield 23, 3) := by decide +kernel
theorem dX5_deep_31 : decode cX5_deep 31 = .ok (.iload_n 1, 1) := by decide +kernel
theorem dX5_deep_32 : decode cX5_deep 32 = .ok (.iaload, 1) := by decide +kernel
theorem dX5_deep_33 : decode cX5_deep 33 = .ok (.iconst 2, 1) := by decide +kernel
theorem dX5_deep_34 : decode cX5_deep 34 = .ok (.if_icmp .eq 8, 3) := by decide +kernel
theorem dX5_deep_37 : decode cX5_deep 37 = .ok (.bipush 9, 2) := by decide +kernel
theorem dX5_deep_39 : decode cX5_deep 39 = .ok (.goto 35, 3) := by decide +kernel
theorem dX5_deep_42 : decode cX5_deep 42 = .ok (.aload_n 0, 1) := by decide +kernel
theorem dX5_deep_43 : decode cX5_deep 43 = .ok (.iload_n 1, 1) := by decide +kernel
theorem dX5_deep_44 : decode cX5_deep 44 = .ok (.iconst 0, 1) := by decide +kernel
theorem dX5_deep_45 : decode cX5_deep 45 = .ok (.invokevirtual 108, 3) := by decide +kernel
theorem dX5_deep_48 : decode cX5_deep 48 = .ok (.ldc2_w 82, 3) := by decide +kernel
theorem dX5_deep_51 : decode cX5_deep 51 = .ok (.lcmp, 1) := by decide +kernel
theorem dX5_deep_52 : decode cX5_deep 52 = .ok (.ifCond .le 7, 3) := by decide +kernel
theorem dX5_deep_55 : decode cX5_deep 55 = .ok (.iconst 5, 1) := by decide +kernel
theorem dX5_deep_56 : decode cX5_deep 56 = .ok (.goto 18, 3) := by decide +kernel
theorem dX5_deep_59 : decode cX5_deep 59 = .ok (.aload_n 0, 1) := by decide +kernel
theorem dX5_deep_60 : decode cX5_deep 60 = .ok (.getfield 98, 3) := by decide +kernel
theorem dX5_deep_63 : decode cX5_deep 63 = .ok (.bipush 24, 2) := by decide +kernel
theorem dX5_deep_65 : decode cX5_deep 65 = .ok (.if_icmp .ne 8, 3) := by decide +kernel
theorem dX5_deep_68 : decode cX5_deep 68 = .ok (.bipush 8, 2) := by decide +kernel
theorem dX5_deep_70 : decode cX5_deep 70 = .ok (.goto 4, 3) := by decide +kernel
theorem dX5_deep_73 : decode cX5_deep 73 = .ok (.iconst 0, 1) := by decide +kernel
theorem dX5_deep_74 : decode cX5_deep 74 = .ok (.istore_n 2, 1) := by decide +kernel
theorem dX5_deep_75 : decode cX5_deep 75 = .ok (.iload_n 2, 1) := by decide +kernel
theorem dX5_deep_76 : decode cX5_deep 76 = .ok (.ifCond .eq 9, 3) := by decide +kernel
theorem dX5_deep_79 : decode cX5_deep 79 = .ok (.aload_n 0, 1) := by decide +kernel
theorem dX5_deep_80 : decode cX5_deep 80 = .ok (.iload_n 2, 1) := by decide +kernel
theorem dX5_deep_81 : decode cX5_deep 81 = .ok (.invokevirtual 68, 3) := by decide +kernel
theorem dX5_deep_84 : decode cX5_deep 84 = .ok (.ireturn, 1) := by decide +kernel
theorem dX5_deep_85 : decode cX5_deep 85 = .ok (.aload_n 0, 1) := by decide +kernel
theorem dX5_deep_86 : decode cX5_deep 86 = .ok (.iconst 4, 1) := by decide +kernel
theorem dX5_deep_87 : decode cX5_deep 87 = .ok (.iload_n 1, 1) := by decide +kernel
theorem dX5_deep_88 : decode cX5_deep 88 = .ok (.invokevirtual 121, 3) := by decide +kernel
theorem dX5_deep_91 : decode cX5_deep 91 = .ok (.istore_n 3, 1) := by decide +kernel
theorem dX5_deep_92 : decode cX5_deep 92 = .ok (.aload_n 0, 1) := by decide +kernel
theorem dX5_deep_93 : decode cX5_deep 93 = .ok (.iload_n 3, 1) := by decide +kernel
theorem dX5_deep_94 : decode cX5_deep 94 = .ok (.invokevirtual 125, 3) := by decide +kernel
theorem dX5_deep_97 : decode cX5_deep 97 = .ok (.aload_n 0, 1) := by decide +kernel
theorem dX5_deep_98 : decode cX5_deep 98 = .ok (.getfield 38, 3) := by decide +kernel
theorem dX5_deep_101 : decode cX5_deep 101 = .ok (.aload_n 0, 1) := by decide +kernel
theorem dX5_deep_102 : decode cX5_deep 102 = .ok (.getfield 32, 3) := by decide +kernel
theorem dX5_deep_105 : decode cX5_deep 105 = .ok (.iload_n 1, 1) := by decide +kernel
theorem dX5_deep_106 : decode cX5_deep 106 = .ok (.iaload, 1) := by decide +kernel
theorem dX5_deep_107 : decode cX5_deep 107 = .ok (.iaload, 1) := by decide +kernel
theorem dX5_deep_108 : decode cX5_deep 108 = .ok (.ifCond .ne 7, 3) := by decide +kernel
theorem dX5_deep_111 : decode cX5_deep 111 = .ok (.lconst 0, 1) := by decide +kernel
theorem dX5_deep_112 : decode cX5_deep 112 = .ok (.goto 9, 3) := by decide +kernel
theorem dX5_deep_115 : decode cX5_deep 115 = .ok (.aload_n 0, 1) := by decide +kernel
theorem dX5_deep_116 : decode cX5_deep 116 = .ok (.iload_n 1, 1) := by decide +kernel
theorem dX5_deep_117 : decode cX5_deep 117 = .ok (.iconst 1, 1) := by decide +kernel
theorem dX5_deep_118 : decode cX5_deep 118 = .ok (.invokevirtual 108, 3) := by decide +kernel
theorem dX5_deep_121 : decode cX5_deep 121 = .ok (.l2i, 1) := by decide +kernel
theorem dX5_deep_122 : decode cX5_deep 122 = .ok (.istore 4, 2) := by decide +kernel
theorem dX5_deep_124 : decode cX5_deep 124 = .ok (.iconst 0, 1) := by decide +kernel
theorem dX5_deep_125 : decode cX5_deep 125 = .ok (.istore 5, 2) := by decide +kernel
theorem dX5_deep_127 : decode cX5_deep 127 = .ok (.iload 5, 2) := by decide +kernel
theorem dX5_deep_129 : decode cX5_deep 129 = .ok (.aload_n 0, 1) := by decide +kernel
theorem dX5_deep_130 : decode cX5_deep 130 = .ok (.getfield 38, 3) := by decide +kernel
theorem dX5_deep_133 : decode cX5_deep 133 = .ok (.aload_n 0, 1) := by decide +kernel
theorem dX5_deep_134 : decode cX5_deep 134 = .ok (.getfield 32, 3) := by decide +kernel
theorem dX5_deep_137 : decode cX5_deep 137 = .ok (.iload_n 1, 1) := by decide +kernel
theorem dX5_deep_138 : decode cX5_deep 138 = .ok (.iaload, 1) := by decide +kernel
theorem dX5_deep_139 : decode cX5_deep 139 = .ok (.iaload, 1) := by decide +kernel
theorem dX5_deep_140 : decode cX5_deep 140 = .ok (.if_icmp .ge 55, 3) := by decide +kernel
theorem dX5_deep_143 : decode cX5_deep 143 = .ok (.aload_n 0, 1) := by decide +kernel
theorem dX5_deep_144 : decode cX5_deep 144 = .ok (.aload_n 0, 1) := by decide +kernel
theorem dX5_deep_145 : decode cX5_deep 145 = .ok (.getfield 35, 3) := by decide +kernel
theorem dX5_deep_148 : decode cX5_deep 148 = .ok (.aload_n 0, 1) := by decide +kernel
theorem dX5_deep_149 : decode cX5_deep 149 = .ok (.getfield 32, 3) := by decide +kernel
theorem dX5_deep_152 : decode cX5_deep 152 = .ok (.iload_n 1, 1) := by decide +kernel
theorem dX5_deep_153 : decode cX5_deep 153 = .ok (.iaload, 1) := by decide +kernel
theorem dX5_deep_154 : decode cX5_deep 154 = .ok (.iaload, 1) := by decide +kernel
theorem dX5_deep_155 : decode cX5_deep 155 = .ok (.iload 5, 2) := by decide +kernel
theorem dX5_deep_157 : decode cX5_deep 157 = .ok (.iadd, 1) := by decide +kernel
theorem dX5_deep_158 : decode cX5_deep 158 = .ok (.aload_n 0, 1) := by decide +kernel
theorem dX5_deep_159 : decode cX5_deep 159 = .ok (.getfield 35, 3) := by decide +kernel
theorem dX5_deep_162 : decode cX5_deep 162 = .ok (.aload_n 0, 1) := by decide +kernel
theorem dX5_deep_163 : decode cX5_deep 163 = .ok (.getfield 50, 3) := by decide +kernel
theorem dX5_deep_166 : decode cX5_deep 166 = .ok (.aload_n 0, 1) := by decide +kernel
theorem dX5_deep_167 : decode cX5_deep 167 = .ok (.getfield 32, 3) := by decide +kernel
theorem dX5_deep_170 : decode cX5_deep 170 = .ok (.iload_n 3, 1) := by decide +kernel
theorem dX5_deep_171 : decode cX5_deep 171 = .ok (.iaload, 1) := by decide +kernel
theorem dX5_deep_172 : decode cX5_deep 172 = .ok (.iload 5, 2) := by decide +kernel
theorem dX5_deep_174 : decode cX5_deep 174 = .ok (.iload 4, 2) := by decide +kernel
theorem dX5_deep_176 : decode cX5_deep 176 = .ok (.idiv, 1) := by decide +kernel
theorem dX5_deep_177 : decode cX5_deep 177 = .ok (.iadd, 1) := by decide +kernel
theorem dX5_deep_178 : decode cX5_deep 178 = .ok (.iaload, 1) := by decide +kernel
theorem dX5_deep_179 : decode cX5_deep 179 = .ok (.iaload, 1) := by decide +kernel
theorem dX5_deep_180 : decode cX5_deep 180 = .ok (.iload 5, 2) := by decide +kernel
theorem dX5_deep_182 : decode cX5_deep 182 = .ok (.iload 4, 2) := by decide +kernel
theorem dX5_deep_184 : decode cX5_deep 184 = .ok (.irem, 1) := by decide +kernel
theorem dX5_deep_185 : decode cX5_deep 185 = .ok (.iadd, 1) := by decide +kernel
theorem dX5_deep_186 : decode cX5_deep 186 = .ok (.invokevirtual 138, 3) := by decide +kernel
theorem dX5_deep_189 : decode cX5_deep 189 = .ok (.iinc 5 1, 3) := by decide +kernel
theorem dX5_deep_192 : decode cX5_deep 192 = .ok (.goto (-65), 3) := by decide +kernel
theorem dX5_deep_195 : decode cX5_deep 195 = .ok (.aload_n 0, 1) := by decide +kernel
theorem dX5_deep_196 : decode cX5_deep 196 = .ok (.iload_n 3, 1) := by decide +kernel
theorem dX5_deep_197 : decode cX5_deep 197 = .ok (.invokevirtual 75, 3) := by decide +kernel
theorem dX5_deep_200 : decode cX5_deep 200 = .ok (.ireturn, 1) := by decide +kernel
theorem dX5_tableRows_0 : decode cX5_tableRows 0 = .ok (.aload_n 0, 1) := by decide +kernel
theorem dX5_tableRows_1 : decode cX5_tableRows 1 = .ok (.iload_n 1, 1) := by decide +kernel
theorem dX5_tableRows_2 : decode cX5_tableRows 2 = .ok (.iconst 0, 1) := by decide +kernel
theorem dX5_tableRows_3 : decode cX5_tableRows 3 = .ok (.invokevirtual 108, 3) := by decide +kernel
theorem dX5_tableRows_6 : decode cX5_tableRows 6 = .ok (.l2i, 1) := by decide +kernel
theorem dX5_tableRows_7 : decode cX5_tableRows 7 = .ok (.ireturn, 1) := by decide +kernel
theorem dX5_flat_0 : decode cX5_flat 0 = .ok (.aload_n 0, 1) := by decide +kernel
theorem dX5_flat_1 : decode cX5_flat 1 = .ok (.iload_n 1, 1) := by decide +kernel
theorem dX5_flat_2 : decode cX5_flat 2 = .ok (.invokevirtual 131, 3) := by decide +kernel
theorem dX5_flat_5 : decode cX5_flat 5 = .ok (.ifCond .ne 8, 3) := by decide +kernel
theorem dX5_flat_8 : decode cX5_flat 8 = .ok (.bipush 7, 2) := by decide +kernel
theorem dX5_flat_10 : decode cX5_flat 10 = .ok (.goto 18, 3) := by decide +kernel
theorem dX5_flat_13 : decode cX5_flat 13 = .ok (.aload_n 0, 1) := by decide +kernel
theorem dX5_flat_14 : decode cX5_flat 14 = .ok (.getfield 20, 3) := by decide +kernel
theorem dX5_flat_17 : decode cX5_flat 17 = .ok (.iload_n 1, 1) := by decide +kernel
theorem dX5_flat_18 : decode cX5_flat 18 = .ok (.iaload, 1) := by decide +kernel
theorem dX5_flat_19 : decode cX5_flat 19 = .ok (.iconst 4, 1) := by decide +kernel
theorem dX5_flat_20 : decode cX5_flat 20 = .ok (.if_icmp .eq 7, 3) := by decide +kernel
theorem dX5_flat_23 : decode cX5_flat 23 = .ok (.iconst 2, 1) := by decide +kernel
theorem dX5_flat_24 : decode cX5_flat 24 = .ok (.goto 4, 3) := by decide +kernel
theorem dX5_flat_27 : decode cX5_flat 27 = .ok (.iconst 0, 1) := by decide +kernel
theorem dX5_flat_28 : decode cX5_flat 28 = .ok (.istore_n 2, 1) := by decide +kernel
theorem dX5_flat_29 : decode cX5_flat 29 = .ok (.iconst 0, 1) := by decide +kernel
theorem dX5_flat_30 : decode cX5_flat 30 = .ok (.istore_n 3, 1) := by decide +kernel
theorem dX5_flat_31 : decode cX5_flat 31 = .ok (.iconst 0, 1) := by decide +kernel
theorem dX5_flat_32 : decode cX5_flat 32 = .ok (.istore 4, 2) := by decide +kernel
theorem dX5_flat_34 : decode cX5_flat 34 = .ok (.iload_n 2, 1) := by decide +kernel
theorem dX5_flat_35 : decode cX5_flat 35 = .ok (.ifCond .ne 88, 3) := by decide +kernel
theorem dX5_flat_38 : decode cX5_flat 38 = .ok (.iload 4, 2) := by decide +kernel
theorem dX5_flat_40 : decode cX5_flat 40 = .ok (.aload_n 0, 1) := by decide +kernel
theorem dX5_flat_41 : decode cX5_flat 41 = .ok (.iload_n 1, 1) := by decide +kernel
theorem dX5_flat_42 : decode cX5_flat 42 = .ok (.invokevirtual 155, 3) := by decide +kernel
theorem dX5_flat_45 : decode cX5_flat 45 = .ok (.if_icmp .ge 78, 3) := by decide +kernel
theorem dX5_flat_48 : decode cX5_flat 48 = .ok (.aload_n 0, 1) := by decide +kernel
theorem dX5_flat_49 : decode cX5_flat 49 = .ok (.getfield 50, 3) := by decide +kernel
theorem dX5_flat_52 : decode cX5_flat 52 = .ok (.aload_n 0, 1) := by decide +kernel
theorem dX5_flat_53 : decode cX5_flat 53 = .ok (.getfield 32, 3) := by decide +kernel
theorem dX5_flat_56 : decode cX5_flat 56 = .ok (.iload_n 1, 1) := by decide +kernel
theorem dX5_flat_57 : decode cX5_flat 57 = .ok (.iaload, 1) := by decide +kernel
theorem dX5_flat_58 : decode cX5_flat 58 = .ok (.iload 4, 2) := by decide +kernel
theorem dX5_flat_60 : decode cX5_flat 60 = .ok (.iadd, 1) := by decide +kernel
theorem dX5_flat_61 : decode cX5_flat 61 = .ok (.iaload, 1) := by decide +kernel
theorem dX5_flat_62 : decode cX5_flat 62 = .ok (.istore 5, 2) := by decide +kernel
theorem dX5_flat_64 : decode cX5_flat 64 = .ok (.iload 5, 2) := by decide +kernel
theorem dX5_flat_66 : decode cX5_flat 66 = .ok (.iconst (-1), 1) := by decide +kernel
theorem dX5_flat_67 : decode cX5_flat 67 = .ok (.if_icmp .ne 7, 3) := by decide +kernel
theorem dX5_flat_70 : decode cX5_flat 70 = .ok (.iconst 1, 1) := by decide +kernel
theorem dX5_flat_71 : decode cX5_flat 71 = .ok (.goto 27, 3) := by decide +kernel
theorem dX5_flat_74 : decode cX5_flat 74 = .ok (.aload_n 0, 1) := by decide +kernel
theorem dX5_flat_75 : decode cX5_flat 75 = .ok (.getfield 38, 3) := by decide +kernel
theorem dX5_flat_78 : decode cX5_flat 78 = .ok (.iload 5, 2) := by decide +kernel
theorem dX5_flat_80 : decode cX5_flat 80 = .ok (.iaload, 1) := by decide +kernel
theorem dX5_flat_81 : decode cX5_flat 81 = .ok (.i2l, 1) := by decide +kernel
theorem dX5_flat_82 : decode cX5_flat 82 = .ok (.aload_n 0, 1) := by decide +kernel
theorem dX5_flat_83 : decode cX5_flat 83 = .ok (.iload_n 1, 1) := by decide +kernel
theorem dX5_flat_84 : decode cX5_flat 84 = .ok (.iconst 1, 1) := by decide +kernel
theorem dX5_flat_85 : decode cX5_flat 85 = .ok (.invokevirtual 108, 3) := by decide +kernel
theorem dX5_flat_88 : decode cX5_flat 88 = .ok (.lcmp, 1) := by decide +kernel
theorem dX5_flat_89 : decode cX5_flat 89 = .ok (.ifCond .eq 8, 3) := by decide +kernel
theorem dX5_flat_92 : decode cX5_flat 92 = .ok (.bipush 11, 2) := by decide +kernel
theorem dX5_flat_94 : decode cX5_flat 94 = .ok (.goto 4, 3) := by decide +kernel
theorem dX5_flat_97 : decode cX5_flat 97 = .ok (.iconst 0, 1) := by decide +kernel
theorem dX5_flat_98 : decode cX5_flat 98 = .ok (.istore_n 2, 1) := by decide +kernel
theorem dX5_flat_99 : decode cX5_flat 99 = .ok (.iload_n 3, 1) := by decide +kernel
theorem dX5_flat_100 : decode cX5_flat 100 = .ok (.iload_n 2, 1) := by decide +kernel
theorem dX5_flat_101 : decode cX5_flat 101 = .ok (.ifCond .ne 13, 3) := by decide +kernel
theorem dX5_flat_104 : decode cX5_flat 104 = .ok (.aload_n 0, 1) := by decide +kernel
theorem dX5_flat_105 : decode cX5_flat 105 = .ok (.getfield 38, 3) := by decide +kernel
theorem dX5_flat_108 : decode cX5_flat 108 = .ok (.iload 5, 2) := by decide +kernel
theorem dX5_flat_110 : decode cX5_flat 110 = .ok (.iaload, 1) := by decide +kernel
theorem dX5_flat_111 : decode cX5_flat 111 = .ok (.goto 4, 3) := by decide +kernel
theorem dX5_flat_114 : decode cX5_flat 114 = .ok (.iconst 0, 1) := by decide +kernel
theorem dX5_flat_115 : decode cX5_flat 115 = .ok (.iadd, 1) := by decide +kernel
theorem dX5_flat_116 : decode cX5_flat 116 = .ok (.istore_n 3, 1) := by decide +kernel
theorem dX5_flat_117 : decode cX5_flat 117 = .ok (.iinc 4 1, 3) := by decide +kernel
theorem dX5_flat_120 : decode cX5_flat 120 = .ok (.goto (-86), 3) := by decide +kernel
theorem dX5_flat_123 : decode cX5_flat 123 = .ok (.iload_n 2, 1) := by decide +kernel
theorem dX5_flat_124 : decode cX5_flat 124 = .ok (.ifCond .ne 15, 3) := by decide +kernel
theorem dX5_flat_127 : decode cX5_flat 127 = .ok (.aload_n 0, 1) := by decide +kernel
theorem dX5_flat_128 : decode cX5_flat 128 = .ok (.getfield 98, 3) := by decide +kernel
theorem dX5_flat_131 : decode cX5_flat 131 = .ok (.bipush 24, 2) := by decide +kernel
theorem dX5_flat_133 : decode cX5_flat 133 = .ok (.if_icmp .ne 6, 3) := by decide +kernel
theorem dX5_flat_136 : decode cX5_flat 136 = .ok (.bipush 8, 2) := by decide +kernel
theorem dX5_flat_138 : decode cX5_flat 138 = .ok (.istore_n 2, 1) := by decide +kernel
theorem dX5_flat_139 : decode cX5_flat 139 = .ok (.iload_n 2, 1) := by decide +kernel
theorem dX5_flat_140 : decode cX5_flat 140 = .ok (.ifCond .eq 9, 3) := by decide +kernel
theorem dX5_flat_143 : decode cX5_flat 143 = .ok (.aload_n 0, 1) := by decide +kernel
theorem dX5_flat_144 : decode cX5_flat 144 = .ok (.iload_n 2, 1) := by decide +kernel
theorem dX5_flat_145 : decode cX5_flat 145 = .ok (.invokevirtual 68, 3) := by decide +kernel
theorem dX5_flat_148 : decode cX5_flat 148 = .ok (.ireturn, 1) := by decide +kernel
theorem dX5_flat_149 : decode cX5_flat 149 = .ok (.aload_n 0, 1) := by decide +kernel
theorem dX5_flat_150 : decode cX5_flat 150 = .ok (.iconst 1, 1) := by decide +kernel
theorem dX5_flat_151 : decode cX5_flat 151 = .ok (.iload_n 1, 1) := by decide +kernel
theorem dX5_flat_152 : decode cX5_flat 152 = .ok (.invokevirtual 121, 3) := by decide +kernel
theorem dX5_flat_155 : decode cX5_flat 155 = .ok (.istore 4, 2) := by decide +kernel
theorem dX5_flat_157 : decode cX5_flat 157 = .ok (.aload_n 0, 1) := by decide +kernel
theorem dX5_flat_158 : decode cX5_flat 158 = .ok (.getfield 32, 3) := by decide +kernel
theorem dX5_flat_161 : decode cX5_flat 161 = .ok (.iload 4, 2) := by decide +kernel
theorem dX5_flat_163 : decode cX5_flat 163 = .ok (.aload_n 0, 1) := by decide +kernel
theorem dX5_flat_164 : decode cX5_flat 164 = .ok (.iload_n 3, 1) := by decide +kernel
theorem dX5_flat_165 : decode cX5_flat 165 = .ok (.invokevirtual 111, 3) := by decide +kernel
theorem dX5_flat_168 : decode cX5_flat 168 = .ok (.iastore, 1) := by decide +kernel
theorem dX5_flat_169 : decode cX5_flat 169 = .ok (.aload_n 0, 1) := by decide +kernel
theorem dX5_flat_170 : decode cX5_flat 170 = .ok (.getfield 35, 3) := by decide +kernel
theorem dX5_flat_173 : decode cX5_flat 173 = .ok (.aload_n 0, 1) := by decide +kernel
theorem dX5_flat_174 : decode cX5_flat 174 = .ok (.getfield 32, 3) := by decide +kernel
theorem dX5_flat_177 : decode cX5_flat 177 = .ok (.iload 4, 2) := by decide +kernel
theorem dX5_flat_179 : decode cX5_flat 179 = .ok (.iaload, 1) := by decide +kernel
theorem dX5_flat_180 : decode cX5_flat 180 = .ok (.iaload, 1) := by decide +kernel
theorem dX5_flat_181 : decode cX5_flat 181 = .ok (.istore 5, 2) := by decide +kernel
theorem dX5_flat_183 : decode cX5_flat 183 = .ok (.iconst 0, 1) := by decide +kernel
theorem dX5_flat_184 : decode cX5_flat 184 = .ok (.istore 6, 2) := by decide +kernel
theorem dX5_flat_186 : decode cX5_flat 186 = .ok (.iload 6, 2) := by decide +kernel
theorem dX5_flat_188 : decode cX5_flat 188 = .ok (.aload_n 0, 1) := by decide +kernel
theorem dX5_flat_189 : decode cX5_flat 189 = .ok (.iload_n 1, 1) := by decide +kernel
theorem dX5_flat_190 : decode cX5_flat 190 = .ok (.invokevirtual 155, 3) := by decide +kernel
theorem dX5_flat_193 : decode cX5_flat 193 = .ok (.if_icmp .ge 65, 3) := by decide +kernel
theorem dX5_flat_196 : decode cX5_flat 196 = .ok (.aload_n 0, 1) := by decide +kernel
theorem dX5_flat_197 : decode cX5_flat 197 = .ok (.getfield 50, 3) := by decide +kernel
theorem dX5_flat_200 : decode cX5_flat 200 = .ok (.aload_n 0, 1) := by decide +kernel
theorem dX5_flat_201 : decode cX5_flat 201 = .ok (.getfield 32, 3) := by decide +kernel
theorem dX5_flat_204 : decode cX5_flat 204 = .ok (.iload_n 1, 1) := by decide +kernel
theorem dX5_flat_205 : decode cX5_flat 205 = .ok (.iaload, 1) := by decide +kernel
theorem dX5_flat_206 : decode cX5_flat 206 = .ok (.iload 6, 2) := by decide +kernel
theorem dX5_flat_208 : decode cX5_flat 208 = .ok (.iadd, 1) := by decide +kernel
theorem dX5_flat_209 : decode cX5_flat 209 = .ok (.iaload, 1) := by decide +kernel
theorem dX5_flat_210 : decode cX5_flat 210 = .ok (.istore 7, 2) := by decide +kernel
theorem dX5_flat_212 : decode cX5_flat 212 = .ok (.iconst 0, 1) := by decide +kernel
theorem dX5_flat_213 : decode cX5_flat 213 = .ok (.istore 8, 2) := by decide +kernel
theorem dX5_flat_215 : decode cX5_flat 215 = .ok (.iload 8, 2) := by decide +kernel
theorem dX5_flat_217 : decode cX5_flat 217 = .ok (.aload_n 0, 1) := by decide +kernel
theorem dX5_flat_218 : decode cX5_flat 218 = .ok (.getfield 38, 3) := by decide +kernel
theorem dX5_flat_221 : decode cX5_flat 221 = .ok (.iload 7, 2) := by decide +kernel
theorem dX5_flat_223 : decode cX5_flat 223 = .ok (.iaload, 1) := by decide +kernel
theorem dX5_flat_224 : decode cX5_flat 224 = .ok (.if_icmp .ge 28, 3) := by decide +kernel
theorem dX5_flat_227 : decode cX5_flat 227 = .ok (.aload_n 0, 1) := by decide +kernel
theorem dX5_flat_228 : decode cX5_flat 228 = .ok (.aload_n 0, 1) := by decide +kernel
theorem dX5_flat_229 : decode cX5_flat 229 = .ok (.getfield 35, 3) := by decide +kernel
theorem dX5_flat_232 : decode cX5_flat 232 = .ok (.iload 7, 2) := by decide +kernel
theorem dX5_flat_234 : decode cX5_flat 234 = .ok (.iaload, 1) := by decide +kernel
theorem dX5_flat_235 : decode cX5_flat 235 = .ok (.iload 8, 2) := by decide +kernel
theorem dX5_flat_237 : decode cX5_flat 237 = .ok (.iadd, 1) := by decide +kernel
theorem dX5_flat_238 : decode cX5_flat 238 = .ok (.iload 5, 2) := by decide +kernel
theorem dX5_flat_240 : decode cX5_flat 240 = .ok (.invokevirtual 138, 3) := by decide +kernel
theorem dX5_flat_243 : decode cX5_flat 243 = .ok (.iinc 5 1, 3) := by decide +kernel
theorem dX5_flat_246 : decode cX5_flat 246 = .ok (.iinc 8 1, 3) := by decide +kernel
theorem dX5_flat_249 : decode cX5_flat 249 = .ok (.goto (-34), 3) := by decide +kernel
theorem dX5_flat_252 : decode cX5_flat 252 = .ok (.iinc 6 1, 3) := by decide +kernel
theorem dX5_flat_255 : decode cX5_flat 255 = .ok (.goto (-69), 3) := by decide +kernel
theorem dX5_flat_258 : decode cX5_flat 258 = .ok (.aload_n 0, 1) := by decide +kernel
theorem dX5_flat_259 : decode cX5_flat 259 = .ok (.iload 4, 2) := by decide +kernel
theorem dX5_flat_261 : decode cX5_flat 261 = .ok (.invokevirtual 75, 3) := by decide +kernel
theorem dX5_flat_264 : decode cX5_flat 264 = .ok (.ireturn, 1) := by decide +kernel
theorem dX5_wantsRow_0 : decode cX5_wantsRow 0 = .ok (.aload_n 0, 1) := by decide +kernel
theorem dX5_wantsRow_1 : decode cX5_wantsRow 1 = .ok (.iload_n 1, 1) := by decide +kernel
theorem dX5_wantsRow_2 : decode cX5_wantsRow 2 = .ok (.invokevirtual 131, 3) := by decide +kernel
theorem dX5_wantsRow_5 : decode cX5_wantsRow 5 = .ok (.ifCond .ne 8, 3) := by decide +kernel
theorem dX5_wantsRow_8 : decode cX5_wantsRow 8 = .ok (.bipush 7, 2) := by decide +kernel
theorem dX5_wantsRow_10 : decode cX5_wantsRow 10 = .ok (.goto 48, 3) := by decide +kernel
theorem dX5_wantsRow_13 : decode cX5_wantsRow 13 = .ok (.aload_n 0, 1) := by decide +kernel
theorem dX5_wantsRow_14 : decode cX5_wantsRow 14 = .ok (.getfield 20, 3) := by decide +kernel
theorem dX5_wantsRow_17 : decode cX5_wantsRow 17 = .ok (.iload_n 1, 1) := by decide +kernel
theorem dX5_wantsRow_18 : decode cX5_wantsRow 18 = .ok (.iaload, 1) := by decide +kernel
theorem dX5_wantsRow_19 : decode cX5_wantsRow 19 = .ok (.iconst 4, 1) := by decide +kernel
theorem dX5_wantsRow_20 : decode cX5_wantsRow 20 = .ok (.if_icmp .eq 7, 3) := by decide +kernel
theorem dX5_wantsRow_23 : decode cX5_wantsRow 23 = .ok (.iconst 2, 1) := by decide +kernel
theorem dX5_wantsRow_24 : decode cX5_wantsRow 24 = .ok (.goto 34, 3) := by decide +kernel
theorem dX5_wantsRow_27 : decode cX5_wantsRow 27 = .ok (.iload_n 2, 1) := by decide +kernel
theorem dX5_wantsRow_28 : decode cX5_wantsRow 28 = .ok (.i2l, 1) := by decide +kernel
theorem dX5_wantsRow_29 : decode cX5_wantsRow 29 = .ok (.aload_n 0, 1) := by decide +kernel
theorem dX5_wantsRow_30 : decode cX5_wantsRow 30 = .ok (.getfield 26, 3) := by decide +kernel
theorem dX5_wantsRow_33 : decode cX5_wantsRow 33 = .ok (.iconst 3, 1) := by decide +kernel
theorem dX5_wantsRow_34 : decode cX5_wantsRow 34 = .ok (.iload_n 1, 1) := by decide +kernel
theorem dX5_wantsRow_35 : decode cX5_wantsRow 35 = .ok (.imul, 1) := by decide +kernel
theorem dX5_wantsRow_36 : decode cX5_wantsRow 36 = .ok (.iaload, 1) := by decide +kernel
theorem dX5_wantsRow_37 : decode cX5_wantsRow 37 = .ok (.i2l, 1) := by decide +kernel
theorem dX5_wantsRow_38 : decode cX5_wantsRow 38 = .ok (.aload_n 0, 1) := by decide +kernel
theorem dX5_wantsRow_39 : decode cX5_wantsRow 39 = .ok (.getfield 29, 3) := by decide +kernel
theorem dX5_wantsRow_42 : decode cX5_wantsRow 42 = .ok (.iconst 3, 1) := by decide +kernel
theorem dX5_wantsRow_43 : decode cX5_wantsRow 43 = .ok (.iload_n 1, 1) := by decide +kernel
theorem dX5_wantsRow_44 : decode cX5_wantsRow 44 = .ok (.imul, 1) := by decide +kernel
theorem dX5_wantsRow_45 : decode cX5_wantsRow 45 = .ok (.iaload, 1) := by decide +kernel
theorem dX5_wantsRow_46 : decode cX5_wantsRow 46 = .ok (.i2l, 1) := by decide +kernel
theorem dX5_wantsRow_47 : decode cX5_wantsRow 47 = .ok (.invokestatic 101, 3) := by decide +kernel
theorem dX5_wantsRow_50 : decode cX5_wantsRow 50 = .ok (.ifCond .eq 7, 3) := by decide +kernel
theorem dX5_wantsRow_53 : decode cX5_wantsRow 53 = .ok (.iconst 0, 1) := by decide +kernel
theorem dX5_wantsRow_54 : decode cX5_wantsRow 54 = .ok (.goto 4, 3) := by decide +kernel
theorem dX5_wantsRow_57 : decode cX5_wantsRow 57 = .ok (.iconst 3, 1) := by decide +kernel
theorem dX5_wantsRow_58 : decode cX5_wantsRow 58 = .ok (.ireturn, 1) := by decide +kernel
theorem dX5_slotOf_0 : decode cX5_slotOf 0 = .ok (.aload_n 0, 1) := by decide +kernel
theorem dX5_slotOf_1 : decode cX5_slotOf 1 = .ok (.getfield 32, 3) := by decide +kernel
theorem dX5_slotOf_4 : decode cX5_slotOf 4 = .ok (.iload_n 1, 1) := by decide +kernel
theorem dX5_slotOf_5 : decode cX5_slotOf 5 = .ok (.iaload, 1) := by decide +kernel
theorem dX5_slotOf_6 : decode cX5_slotOf 6 = .ok (.iload_n 2, 1) := by decide +kernel
theorem dX5_slotOf_7 : decode cX5_slotOf 7 = .ok (.iadd, 1) := by decide +kernel
theorem dX5_slotOf_8 : decode cX5_slotOf 8 = .ok (.aload_n 0, 1) := by decide +kernel
theorem dX5_slotOf_9 : decode cX5_slotOf 9 = .ok (.getfield 26, 3) := by decide +kernel
theorem dX5_slotOf_12 : decode cX5_slotOf 12 = .ok (.iconst 3, 1) := by decide +kernel
theorem dX5_slotOf_13 : decode cX5_slotOf 13 = .ok (.iload_n 1, 1) := by decide +kernel
theorem dX5_slotOf_14 : decode cX5_slotOf 14 = .ok (.imul, 1) := by decide +kernel
theorem dX5_slotOf_15 : decode cX5_slotOf 15 = .ok (.iaload, 1) := by decide +kernel
theorem dX5_slotOf_16 : decode cX5_slotOf 16 = .ok (.isub, 1) := by decide +kernel
theorem dX5_slotOf_17 : decode cX5_slotOf 17 = .ok (.ireturn, 1) := by decide +kernel
theorem dX5_ragged_0 : decode cX5_ragged 0 = .ok (.aload_n 0, 1) := by decide +kernel
theorem dX5_ragged_1 : decode cX5_ragged 1 = .ok (.iload_n 1, 1) := by decide +kernel
theorem dX5_ragged_2 : decode cX5_ragged 2 = .ok (.iload_n 2, 1) := by decide +kernel
theorem dX5_ragged_3 : decode cX5_ragged 3 = .ok (.invokevirtual 158, 3) := by decide +kernel
theorem dX5_ragged_6 : decode cX5_ragged 6 = .ok (.istore 4, 2) := by decide +kernel
theorem dX5_ragged_8 : decode cX5_ragged 8 = .ok (.iload 4, 2) := by decide +kernel
theorem dX5_ragged_10 : decode cX5_ragged 10 = .ok (.iconst 3, 1) := by decide +kernel
theorem dX5_ragged_11 : decode cX5_ragged 11 = .ok (.if_icmp .ne 9, 3) := by decide +kernel
theorem dX5_ragged_14 : decode cX5_ragged 14 = .ok (.aload_n 0, 1) := by decide +kernel
theorem dX5_ragged_15 : decode cX5_ragged 15 = .ok (.iconst 0, 1) := by decide +kernel
theorem dX5_ragged_16 : decode cX5_ragged 16 = .ok (.invokevirtual 152, 3) := by decide +kernel
theorem dX5_ragged_19 : decode cX5_ragged 19 = .ok (.ireturn, 1) := by decide +kernel
theorem dX5_ragged_20 : decode cX5_ragged 20 = .ok (.iload 4, 2) := by decide +kernel
theorem dX5_ragged_22 : decode cX5_ragged 22 = .ok (.ifCond .ne 25, 3) := by decide +kernel
theorem dX5_ragged_25 : decode cX5_ragged 25 = .ok (.iload_n 3, 1) := by decide +kernel
theorem dX5_ragged_26 : decode cX5_ragged 26 = .ok (.ifCond .ge 7, 3) := by decide +kernel
theorem dX5_ragged_29 : decode cX5_ragged 29 = .ok (.iconst 4, 1) := by decide +kernel
theorem dX5_ragged_30 : decode cX5_ragged 30 = .ok (.goto 19, 3) := by decide +kernel
theorem dX5_ragged_33 : decode cX5_ragged 33 = .ok (.iload_n 3, 1) := by decide +kernel
theorem dX5_ragged_34 : decode cX5_ragged 34 = .ok (.bipush 100, 2) := by decide +kernel
theorem dX5_ragged_36 : decode cX5_ragged 36 = .ok (.if_icmp .le 7, 3) := by decide +kernel
theorem dX5_ragged_39 : decode cX5_ragged 39 = .ok (.iconst 5, 1) := by decide +kernel
theorem dX5_ragged_40 : decode cX5_ragged 40 = .ok (.goto 9, 3) := by decide +kernel
theorem dX5_ragged_43 : decode cX5_ragged 43 = .ok (.iconst 0, 1) := by decide +kernel
theorem dX5_ragged_44 : decode cX5_ragged 44 = .ok (.goto 5, 3) := by decide +kernel
theorem dX5_ragged_47 : decode cX5_ragged 47 = .ok (.iload 4, 2) := by decide +kernel
theorem dX5_ragged_49 : decode cX5_ragged 49 = .ok (.istore 4, 2) := by decide +kernel
theorem dX5_ragged_51 : decode cX5_ragged 51 = .ok (.iload 4, 2) := by decide +kernel
theorem dX5_ragged_53 : decode cX5_ragged 53 = .ok (.ifCond .eq 10, 3) := by decide +kernel
theorem dX5_ragged_56 : decode cX5_ragged 56 = .ok (.aload_n 0, 1) := by decide +kernel
theorem dX5_ragged_57 : decode cX5_ragged 57 = .ok (.iload 4, 2) := by decide +kernel
theorem dX5_ragged_59 : decode cX5_ragged 59 = .ok (.invokevirtual 68, 3) := by decide +kernel
theorem dX5_ragged_62 : decode cX5_ragged 62 = .ok (.ireturn, 1) := by decide +kernel
theorem dX5_ragged_63 : decode cX5_ragged 63 = .ok (.aload_n 0, 1) := by decide +kernel
theorem dX5_ragged_64 : decode cX5_ragged 64 = .ok (.getfield 50, 3) := by decide +kernel
theorem dX5_ragged_67 : decode cX5_ragged 67 = .ok (.aload_n 0, 1) := by decide +kernel
theorem dX5_ragged_68 : decode cX5_ragged 68 = .ok (.iload_n 1, 1) := by decide +kernel
theorem dX5_ragged_69 : decode cX5_ragged 69 = .ok (.iload_n 2, 1) := by decide +kernel
theorem dX5_ragged_70 : decode cX5_ragged 70 = .ok (.invokevirtual 161, 3) := by decide +kernel
theorem dX5_ragged_73 : decode cX5_ragged 73 = .ok (.aload_n 0, 1) := by decide +kernel
theorem dX5_ragged_74 : decode cX5_ragged 74 = .ok (.iload_n 3, 1) := by decide +kernel
theorem dX5_ragged_75 : decode cX5_ragged 75 = .ok (.invokevirtual 111, 3) := by decide +kernel
theorem dX5_ragged_78 : decode cX5_ragged 78 = .ok (.iastore, 1) := by decide +kernel
theorem dX5_ragged_79 : decode cX5_ragged 79 = .ok (.aload_n 0, 1) := by decide +kernel
theorem dX5_ragged_80 : decode cX5_ragged 80 = .ok (.iconst 1, 1) := by decide +kernel
theorem dX5_ragged_81 : decode cX5_ragged 81 = .ok (.invokevirtual 75, 3) := by decide +kernel
theorem dX5_ragged_84 : decode cX5_ragged 84 = .ok (.ireturn, 1) := by decide +kernel
theorem dX5_without_0 : decode cX5_without 0 = .ok (.aload_n 0, 1) := by decide +kernel
theorem dX5_without_1 : decode cX5_without 1 = .ok (.iload_n 1, 1) := by decide +kernel
theorem dX5_without_2 : decode cX5_without 2 = .ok (.iload_n 2, 1) := by decide +kernel
theorem dX5_without_3 : decode cX5_without 3 = .ok (.invokevirtual 158, 3) := by decide +kernel
theorem dX5_without_6 : decode cX5_without 6 = .ok (.istore_n 3, 1) := by decide +kernel
theorem dX5_without_7 : decode cX5_without 7 = .ok (.iload_n 3, 1) := by decide +kernel
theorem dX5_without_8 : decode cX5_without 8 = .ok (.iconst 3, 1) := by decide +kernel
theorem dX5_without_9 : decode cX5_without 9 = .ok (.if_icmp .ne 9, 3) := by decide +kernel
theorem dX5_without_12 : decode cX5_without 12 = .ok (.aload_n 0, 1) := by decide +kernel
theorem dX5_without_13 : decode cX5_without 13 = .ok (.iconst 0, 1) := by decide +kernel
theorem dX5_without_14 : decode cX5_without 14 = .ok (.invokevirtual 152, 3) := by decide +kernel
theorem dX5_without_17 : decode cX5_without 17 = .ok (.ireturn, 1) := by decide +kernel
theorem dX5_without_18 : decode cX5_without 18 = .ok (.iload_n 3, 1) := by decide +kernel
theorem dX5_without_19 : decode cX5_without 19 = .ok (.ifCond .eq 9, 3) := by decide +kernel
theorem dX5_without_22 : decode cX5_without 22 = .ok (.aload_n 0, 1) := by decide +kernel
theorem dX5_without_23 : decode cX5_without 23 = .ok (.iload_n 3, 1) := by decide +kernel
theorem dX5_without_24 : decode cX5_without 24 = .ok (.invokevirtual 68, 3) := by decide +kernel
theorem dX5_without_27 : decode cX5_without 27 = .ok (.ireturn, 1) := by decide +kernel
theorem dX5_without_28 : decode cX5_without 28 = .ok (.aload_n 0, 1) := by decide +kernel
theorem dX5_without_29 : decode cX5_without 29 = .ok (.getfield 50, 3) := by decide +kernel
theorem dX5_without_32 : decode cX5_without 32 = .ok (.aload_n 0, 1) := by decide +kernel
theorem dX5_without_33 : decode cX5_without 33 = .ok (.iload_n 1, 1) := by decide +kernel
theorem dX5_without_34 : decode cX5_without 34 = .ok (.iload_n 2, 1) := by decide +kernel
theorem dX5_without_35 : decode cX5_without 35 = .ok (.invokevirtual 161, 3) := by decide +kernel
theorem dX5_without_38 : decode cX5_without 38 = .ok (.iconst (-1), 1) := by decide +kernel
theorem dX5_without_39 : decode cX5_without 39 = .ok (.iastore, 1) := by decide +kernel
theorem dX5_without_40 : decode cX5_without 40 = .ok (.aload_n 0, 1) := by decide +kernel
theorem dX5_without_41 : decode cX5_without 41 = .ok (.iconst 1, 1) := by decide +kernel
theorem dX5_without_42 : decode cX5_without 42 = .ok (.invokevirtual 75, 3) := by decide +kernel
theorem dX5_without_45 : decode cX5_without 45 = .ok (.ireturn, 1) := by decide +kernel
theorem dX5_tie_0 : decode cX5_tie 0 = .ok (.aload_n 0, 1) := by decide +kernel
theorem dX5_tie_1 : decode cX5_tie 1 = .ok (.iload_n 1, 1) := by decide +kernel
theorem dX5_tie_2 : decode cX5_tie 2 = .ok (.invokevirtual 131, 3) := by decide +kernel
theorem dX5_tie_5 : decode cX5_tie 5 = .ok (.ifCond .eq 11, 3) := by decide +kernel
theorem dX5_tie_8 : decode cX5_tie 8 = .ok (.aload_n 0, 1) := by decide +kernel
theorem dX5_tie_9 : decode cX5_tie 9 = .ok (.iload_n 3, 1) := by decide +kernel
theorem dX5_tie_10 : decode cX5_tie 10 = .ok (.invokevirtual 131, 3) := by decide +kernel
theorem dX5_tie_13 : decode cX5_tie 13 = .ok (.ifCond .ne 10, 3) := by decide +kernel
theorem dX5_tie_16 : decode cX5_tie 16 = .ok (.aload_n 0, 1) := by decide +kernel
theorem dX5_tie_17 : decode cX5_tie 17 = .ok (.bipush 7, 2) := by decide +kernel
theorem dX5_tie_19 : decode cX5_tie 19 = .ok (.invokevirtual 68, 3) := by decide +kernel
theorem dX5_tie_22 : decode cX5_tie 22 = .ok (.ireturn, 1) := by decide +kernel
theorem dX5_tie_23 : decode cX5_tie 23 = .ok (.aload_n 0, 1) := by decide +kernel
theorem dX5_tie_24 : decode cX5_tie 24 = .ok (.getfield 20, 3) := by decide +kernel
theorem dX5_tie_27 : decode cX5_tie 27 = .ok (.iload_n 1, 1) := by decide +kernel
theorem dX5_tie_28 : decode cX5_tie 28 = .ok (.iaload, 1) := by decide +kernel
theorem dX5_tie_29 : decode cX5_tie 29 = .ok (.iconst 4, 1) := by decide +kernel
theorem dX5_tie_30 : decode cX5_tie 30 = .ok (.if_icmp .ne 13, 3) := by decide +kernel
theorem dX5_tie_33 : decode cX5_tie 33 = .ok (.aload_n 0, 1) := by decide +kernel
theorem dX5_tie_34 : decode cX5_tie 34 = .ok (.getfield 20, 3) := by decide +kernel
theorem dX5_tie_37 : decode cX5_tie 37 = .ok (.iload_n 3, 1) := by decide +kernel
theorem dX5_tie_38 : decode cX5_tie 38 = .ok (.iaload, 1) := by decide +kernel
theorem dX5_tie_39 : decode cX5_tie 39 = .ok (.iconst 4, 1) := by decide +kernel
theorem dX5_tie_40 : decode cX5_tie 40 = .ok (.if_icmp .eq 9, 3) := by decide +kernel
theorem dX5_tie_43 : decode cX5_tie 43 = .ok (.aload_n 0, 1) := by decide +kernel
theorem dX5_tie_44 : decode cX5_tie 44 = .ok (.iconst 2, 1) := by decide +kernel
theorem dX5_tie_45 : decode cX5_tie 45 = .ok (.invokevirtual 68, 3) := by decide +kernel
theorem dX5_tie_48 : decode cX5_tie 48 = .ok (.ireturn, 1) := by decide +kernel
theorem dX5_tie_49 : decode cX5_tie 49 = .ok (.aload_n 0, 1) := by decide +kernel
theorem dX5_tie_50 : decode cX5_tie 50 = .ok (.iload_n 1, 1) := by decide +kernel
theorem dX5_tie_51 : decode cX5_tie 51 = .ok (.iload_n 2, 1) := by decide +kernel
theorem dX5_tie_52 : decode cX5_tie 52 = .ok (.invokevirtual 158, 3) := by decide +kernel
theorem dX5_tie_55 : decode cX5_tie 55 = .ok (.ifCond .eq 9, 3) := by decide +kernel
theorem dX5_tie_58 : decode cX5_tie 58 = .ok (.aload_n 0, 1) := by decide +kernel
theorem dX5_tie_59 : decode cX5_tie 59 = .ok (.iconst 0, 1) := by decide +kernel
theorem dX5_tie_60 : decode cX5_tie 60 = .ok (.invokevirtual 152, 3) := by decide +kernel
theorem dX5_tie_63 : decode cX5_tie 63 = .ok (.ireturn, 1) := by decide +kernel
theorem dX5_tie_64 : decode cX5_tie 64 = .ok (.aload_n 0, 1) := by decide +kernel
theorem dX5_tie_65 : decode cX5_tie 65 = .ok (.iload_n 3, 1) := by decide +kernel
theorem dX5_tie_66 : decode cX5_tie 66 = .ok (.iload 4, 2) := by decide +kernel
theorem dX5_tie_68 : decode cX5_tie 68 = .ok (.invokevirtual 158, 3) := by decide +kernel
theorem dX5_tie_71 : decode cX5_tie 71 = .ok (.ifCond .eq 9, 3) := by decide +kernel
theorem dX5_tie_74 : decode cX5_tie 74 = .ok (.aload_n 0, 1) := by decide +kernel
theorem dX5_tie_75 : decode cX5_tie 75 = .ok (.iconst 1, 1) := by decide +kernel
theorem dX5_tie_76 : decode cX5_tie 76 = .ok (.invokevirtual 152, 3) := by decide +kernel
theorem dX5_tie_79 : decode cX5_tie 79 = .ok (.ireturn, 1) := by decide +kernel
theorem dX5_tie_80 : decode cX5_tie 80 = .ok (.aload_n 0, 1) := by decide +kernel
theorem dX5_tie_81 : decode cX5_tie 81 = .ok (.getfield 50, 3) := by decide +kernel
theorem dX5_tie_84 : decode cX5_tie 84 = .ok (.aload_n 0, 1) := by decide +kernel
theorem dX5_tie_85 : decode cX5_tie 85 = .ok (.iload_n 1, 1) := by decide +kernel
theorem dX5_tie_86 : decode cX5_tie 86 = .ok (.iload_n 2, 1) := by decide +kernel
theorem dX5_tie_87 : decode cX5_tie 87 = .ok (.invokevirtual 161, 3) := by decide +kernel
theorem dX5_tie_90 : decode cX5_tie 90 = .ok (.aload_n 0, 1) := by decide +kernel
theorem dX5_tie_91 : decode cX5_tie 91 = .ok (.getfield 50, 3) := by decide +kernel
theorem dX5_tie_94 : decode cX5_tie 94 = .ok (.aload_n 0, 1) := by decide +kernel
theorem dX5_tie_95 : decode cX5_tie 95 = .ok (.iload_n 3, 1) := by decide +kernel
theorem dX5_tie_96 : decode cX5_tie 96 = .ok (.iload 4, 2) := by decide +kernel
theorem dX5_tie_98 : decode cX5_tie 98 = .ok (.invokevirtual 161, 3) := by decide +kernel
theorem dX5_tie_101 : decode cX5_tie 101 = .ok (.iaload, 1) := by decide +kernel
theorem dX5_tie_102 : decode cX5_tie 102 = .ok (.iastore, 1) := by decide +kernel
theorem dX5_tie_103 : decode cX5_tie 103 = .ok (.aload_n 0, 1) := by decide +kernel
theorem dX5_tie_104 : decode cX5_tie 104 = .ok (.iconst 1, 1) := by decide +kernel
theorem dX5_tie_105 : decode cX5_tie 105 = .ok (.invokevirtual 75, 3) := by decide +kernel
theorem dX5_tie_108 : decode cX5_tie 108 = .ok (.ireturn, 1) := by decide +kernel
theorem dX5_find_0 : decode cX5_find 0 = .ok (.aload_n 0, 1) := by decide +kernel
theorem dX5_find_1 : decode cX5_find 1 = .ok (.iload_n 1, 1) := by decide +kernel
theorem dX5_find_2 : decode cX5_find 2 = .ok (.invokevirtual 131, 3) := by decide +kernel
theorem dX5_find_5 : decode cX5_find 5 = .ok (.ifCond .ne 11, 3) := by decide +kernel
theorem dX5_find_8 : decode cX5_find 8 = .ok (.aload_n 0, 1) := by decide +kernel
theorem dX5_find_9 : decode cX5_find 9 = .ok (.bipush 7, 2) := by decide +kernel
theorem dX5_find_11 : decode cX5_find 11 = .ok (.putfield 65, 3) := by decide +kernel
theorem dX5_find_14 : decode cX5_find 14 = .ok (.iconst (-1), 1) := by decide +kernel
theorem dX5_find_15 : decode cX5_find 15 = .ok (.ireturn, 1) := by decide +kernel
theorem dX5_find_16 : decode cX5_find 16 = .ok (.aload_n 0, 1) := by decide +kernel
theorem dX5_find_17 : decode cX5_find 17 = .ok (.getfield 20, 3) := by decide +kernel
theorem dX5_find_20 : decode cX5_find 20 = .ok (.iload_n 1, 1) := by decide +kernel
theorem dX5_find_21 : decode cX5_find 21 = .ok (.iaload, 1) := by decide +kernel
theorem dX5_find_22 : decode cX5_find 22 = .ok (.iconst 4, 1) := by decide +kernel
theorem dX5_find_23 : decode cX5_find 23 = .ok (.if_icmp .eq 47, 3) := by decide +kernel
theorem dX5_find_26 : decode cX5_find 26 = .ok (.aload_n 0, 1) := by decide +kernel
theorem dX5_find_27 : decode cX5_find 27 = .ok (.iload_n 1, 1) := by decide +kernel
theorem dX5_find_28 : decode cX5_find 28 = .ok (.iload_n 2, 1) := by decide +kernel
theorem dX5_find_29 : decode cX5_find 29 = .ok (.iload_n 3, 1) := by decide +kernel
theorem dX5_find_30 : decode cX5_find 30 = .ok (.iload 4, 2) := by decide +kernel
theorem dX5_find_32 : decode cX5_find 32 = .ok (.invokevirtual 148, 3) := by decide +kernel
theorem dX5_find_35 : decode cX5_find 35 = .ok (.istore 5, 2) := by decide +kernel
theorem dX5_find_37 : decode cX5_find 37 = .ok (.iload 5, 2) := by decide +kernel
theorem dX5_find_39 : decode cX5_find 39 = .ok (.iconst (-1), 1) := by decide +kernel
theorem dX5_find_40 : decode cX5_find 40 = .ok (.if_icmp .ne 15, 3) := by decide +kernel
theorem dX5_find_43 : decode cX5_find 43 = .ok (.aload_n 0, 1) := by decide +kernel
theorem dX5_find_44 : decode cX5_find 44 = .ok (.aload_n 0, 1) := by decide +kernel
theorem dX5_find_45 : decode cX5_find 45 = .ok (.getfield 142, 3) := by decide +kernel
theorem dX5_find_48 : decode cX5_find 48 = .ok (.invokevirtual 152, 3) := by decide +kernel
theorem dX5_find_51 : decode cX5_find 51 = .ok (.istore 6, 2) := by decide +kernel
theorem dX5_find_53 : decode cX5_find 53 = .ok (.iconst (-1), 1) := by decide +kernel
theorem dX5_find_54 : decode cX5_find 54 = .ok (.ireturn, 1) := by decide +kernel
theorem dX5_find_55 : decode cX5_find 55 = .ok (.aload_n 0, 1) := by decide +kernel
theorem dX5_find_56 : decode cX5_find 56 = .ok (.getfield 35, 3) := by decide +kernel
theorem dX5_find_59 : decode cX5_find 59 = .ok (.aload_n 0, 1) := by decide +kernel
theorem dX5_find_60 : decode cX5_find 60 = .ok (.getfield 32, 3) := by decide +kernel
theorem dX5_find_63 : decode cX5_find 63 = .ok (.iload_n 1, 1) := by decide +kernel
theorem dX5_find_64 : decode cX5_find 64 = .ok (.iaload, 1) := by decide +kernel
theorem dX5_find_65 : decode cX5_find 65 = .ok (.iaload, 1) := by decide +kernel
theorem dX5_find_66 : decode cX5_find 66 = .ok (.iload 5, 2) := by decide +kernel
theorem dX5_find_68 : decode cX5_find 68 = .ok (.iadd, 1) := by decide +kernel
theorem dX5_find_69 : decode cX5_find 69 = .ok (.ireturn, 1) := by decide +kernel
theorem dX5_find_70 : decode cX5_find 70 = .ok (.aload_n 0, 1) := by decide +kernel
theorem dX5_find_71 : decode cX5_find 71 = .ok (.iload_n 1, 1) := by decide +kernel
theorem dX5_find_72 : decode cX5_find 72 = .ok (.iload_n 2, 1) := by decide +kernel
theorem dX5_find_73 : decode cX5_find 73 = .ok (.invokevirtual 158, 3) := by decide +kernel
theorem dX5_find_76 : decode cX5_find 76 = .ok (.ifCond .eq 12, 3) := by decide +kernel
theorem dX5_find_79 : decode cX5_find 79 = .ok (.aload_n 0, 1) := by decide +kernel
theorem dX5_find_80 : decode cX5_find 80 = .ok (.iconst 0, 1) := by decide +kernel
theorem dX5_find_81 : decode cX5_find 81 = .ok (.invokevirtual 152, 3) := by decide +kernel
theorem dX5_find_84 : decode cX5_find 84 = .ok (.istore 5, 2) := by decide +kernel
theorem dX5_find_86 : decode cX5_find 86 = .ok (.iconst (-1), 1) := by decide +kernel
theorem dX5_find_87 : decode cX5_find 87 = .ok (.ireturn, 1) := by decide +kernel
theorem dX5_find_88 : decode cX5_find 88 = .ok (.aload_n 0, 1) := by decide +kernel
theorem dX5_find_89 : decode cX5_find 89 = .ok (.getfield 50, 3) := by decide +kernel
theorem dX5_find_92 : decode cX5_find 92 = .ok (.aload_n 0, 1) := by decide +kernel
theorem dX5_find_93 : decode cX5_find 93 = .ok (.iload_n 1, 1) := by decide +kernel
theorem dX5_find_94 : decode cX5_find 94 = .ok (.iload_n 2, 1) := by decide +kernel
theorem dX5_find_95 : decode cX5_find 95 = .ok (.invokevirtual 161, 3) := by decide +kernel
theorem dX5_find_98 : decode cX5_find 98 = .ok (.iaload, 1) := by decide +kernel
theorem dX5_find_99 : decode cX5_find 99 = .ok (.istore 5, 2) := by decide +kernel
theorem dX5_find_101 : decode cX5_find 101 = .ok (.iload 5, 2) := by decide +kernel
theorem dX5_find_103 : decode cX5_find 103 = .ok (.iconst (-1), 1) := by decide +kernel
theorem dX5_find_104 : decode cX5_find 104 = .ok (.if_icmp .ne 10, 3) := by decide +kernel
theorem dX5_find_107 : decode cX5_find 107 = .ok (.aload_n 0, 1) := by decide +kernel
theorem dX5_find_108 : decode cX5_find 108 = .ok (.iconst 1, 1) := by decide +kernel
theorem dX5_find_109 : decode cX5_find 109 = .ok (.putfield 65, 3) := by decide +kernel
theorem dX5_find_112 : decode cX5_find 112 = .ok (.iconst (-1), 1) := by decide +kernel
theorem dX5_find_113 : decode cX5_find 113 = .ok (.ireturn, 1) := by decide +kernel
theorem dX5_find_114 : decode cX5_find 114 = .ok (.iload_n 3, 1) := by decide +kernel
theorem dX5_find_115 : decode cX5_find 115 = .ok (.i2l, 1) := by decide +kernel
theorem dX5_find_116 : decode cX5_find 116 = .ok (.aload_n 0, 1) := by decide +kernel
theorem dX5_find_117 : decode cX5_find 117 = .ok (.getfield 26, 3) := by decide +kernel
theorem dX5_find_120 : decode cX5_find 120 = .ok (.iconst 3, 1) := by decide +kernel
theorem dX5_find_121 : decode cX5_find 121 = .ok (.iload_n 1, 1) := by decide +kernel
theorem dX5_find_122 : decode cX5_find 122 = .ok (.imul, 1) := by decide +kernel
theorem dX5_find_123 : decode cX5_find 123 = .ok (.iconst 1, 1) := by decide +kernel
theorem dX5_find_124 : decode cX5_find 124 = .ok (.iadd, 1) := by decide +kernel
theorem dX5_find_125 : decode cX5_find 125 = .ok (.iaload, 1) := by decide +kernel
theorem dX5_find_126 : decode cX5_find 126 = .ok (.i2l, 1) := by decide +kernel
theorem dX5_find_127 : decode cX5_find 127 = .ok (.lsub, 1) := by decide +kernel
theorem dX5_find_128 : decode cX5_find 128 = .ok (.lstore 6, 2) := by decide +kernel
theorem dX5_find_130 : decode cX5_find 130 = .ok (.lload 6, 2) := by decide +kernel
theorem dX5_find_132 : decode cX5_find 132 = .ok (.lconst 0, 1) := by decide +kernel
theorem dX5_find_133 : decode cX5_find 133 = .ok (.aload_n 0, 1) := by decide +kernel
theorem dX5_find_134 : decode cX5_find 134 = .ok (.getfield 38, 3) := by decide +kernel
theorem dX5_find_137 : decode cX5_find 137 = .ok (.iload 5, 2) := by decide +kernel
theorem dX5_find_139 : decode cX5_find 139 = .ok (.iaload, 1) := by decide +kernel
theorem dX5_find_140 : decode cX5_find 140 = .ok (.iconst 1, 1) := by decide +kernel
theorem dX5_find_141 : decode cX5_find 141 = .ok (.isub, 1) := by decide +kernel
theorem dX5_find_142 : decode cX5_find 142 = .ok (.i2l, 1) := by decide +kernel
theorem dX5_find_143 : decode cX5_find 143 = .ok (.invokestatic 101, 3) := by decide +kernel
theorem dX5_find_146 : decode cX5_find 146 = .ok (.ifCond .ne 12, 3) := by decide +kernel
theorem dX5_find_149 : decode cX5_find 149 = .ok (.aload_n 0, 1) := by decide +kernel
theorem dX5_find_150 : decode cX5_find 150 = .ok (.iconst 1, 1) := by decide +kernel
theorem dX5_find_151 : decode cX5_find 151 = .ok (.invokevirtual 152, 3) := by decide +kernel
theorem dX5_find_154 : decode cX5_find 154 = .ok (.istore 8, 2) := by decide +kernel
theorem dX5_find_156 : decode cX5_find 156 = .ok (.iconst (-1), 1) := by decide +kernel
theorem dX5_find_157 : decode cX5_find 157 = .ok (.ireturn, 1) := by decide +kernel
theorem dX5_find_158 : decode cX5_find 158 = .ok (.aload_n 0, 1) := by decide +kernel
theorem dX5_find_159 : decode cX5_find 159 = .ok (.getfield 35, 3) := by decide +kernel
theorem dX5_find_162 : decode cX5_find 162 = .ok (.iload 5, 2) := by decide +kernel
theorem dX5_find_164 : decode cX5_find 164 = .ok (.iaload, 1) := by decide +kernel
theorem dX5_find_165 : decode cX5_find 165 = .ok (.lload 6, 2) := by decide +kernel
theorem dX5_find_167 : decode cX5_find 167 = .ok (.l2i, 1) := by decide +kernel
theorem dX5_find_168 : decode cX5_find 168 = .ok (.iadd, 1) := by decide +kernel
theorem dX5_find_169 : decode cX5_find 169 = .ok (.ireturn, 1) := by decide +kernel
theorem dX5_get_0 : decode cX5_get 0 = .ok (.aload_n 0, 1) := by decide +kernel
theorem dX5_get_1 : decode cX5_get 1 = .ok (.iload_n 1, 1) := by decide +kernel
theorem dX5_get_2 : decode cX5_get 2 = .ok (.iload_n 2, 1) := by decide +kernel
theorem dX5_get_3 : decode cX5_get 3 = .ok (.iload_n 3, 1) := by decide +kernel
theorem dX5_get_4 : decode cX5_get 4 = .ok (.iload 4, 2) := by decide +kernel
theorem dX5_get_6 : decode cX5_get 6 = .ok (.invokevirtual 164, 3) := by decide +kernel
theorem dX5_get_9 : decode cX5_get 9 = .ok (.istore 5, 2) := by decide +kernel
theorem dX5_get_11 : decode cX5_get 11 = .ok (.iload 5, 2) := by decide +kernel
theorem dX5_get_13 : decode cX5_get 13 = .ok (.iconst (-1), 1) := by decide +kernel
theorem dX5_get_14 : decode cX5_get 14 = .ok (.if_icmp .ne 5, 3) := by decide +kernel
theorem dX5_get_17 : decode cX5_get 17 = .ok (.lconst 0, 1) := by decide +kernel
theorem dX5_get_18 : decode cX5_get 18 = .ok (.lreturn, 1) := by decide +kernel
theorem dX5_get_19 : decode cX5_get 19 = .ok (.aload_n 0, 1) := by decide +kernel
theorem dX5_get_20 : decode cX5_get 20 = .ok (.getfield 20, 3) := by decide +kernel
theorem dX5_get_23 : decode cX5_get 23 = .ok (.iload_n 1, 1) := by decide +kernel
theorem dX5_get_24 : decode cX5_get 24 = .ok (.iaload, 1) := by decide +kernel
theorem dX5_get_25 : decode cX5_get 25 = .ok (.iconst 3, 1) := by decide +kernel
theorem dX5_get_26 : decode cX5_get 26 = .ok (.if_icmp .ne 20, 3) := by decide +kernel
theorem dX5_get_29 : decode cX5_get 29 = .ok (.aload_n 0, 1) := by decide +kernel
theorem dX5_get_30 : decode cX5_get 30 = .ok (.getfield 46, 3) := by decide +kernel
theorem dX5_get_33 : decode cX5_get 33 = .ok (.iload 5, 2) := by decide +kernel
theorem dX5_get_35 : decode cX5_get 35 = .ok (.baload, 1) := by decide +kernel
theorem dX5_get_36 : decode cX5_get 36 = .ok (.ifCond .ne 10, 3) := by decide +kernel
theorem dX5_get_39 : decode cX5_get 39 = .ok (.aload_n 0, 1) := by decide +kernel
theorem dX5_get_40 : decode cX5_get 40 = .ok (.iconst 1, 1) := by decide +kernel
theorem dX5_get_41 : decode cX5_get 41 = .ok (.invokevirtual 68, 3) := by decide +kernel
theorem dX5_get_44 : decode cX5_get 44 = .ok (.i2l, 1) := by decide +kernel
theorem dX5_get_45 : decode cX5_get 45 = .ok (.lreturn, 1) := by decide +kernel
theorem dX5_get_46 : decode cX5_get 46 = .ok (.aload_n 0, 1) := by decide +kernel
theorem dX5_get_47 : decode cX5_get 47 = .ok (.iconst 0, 1) := by decide +kernel
theorem dX5_get_48 : decode cX5_get 48 = .ok (.putfield 65, 3) := by decide +kernel
theorem dX5_get_51 : decode cX5_get 51 = .ok (.aload_n 0, 1) := by decide +kernel
theorem dX5_get_52 : decode cX5_get 52 = .ok (.getfield 42, 3) := by decide +kernel
theorem dX5_get_55 : decode cX5_get 55 = .ok (.iload 5, 2) := by decide +kernel
theorem dX5_get_57 : decode cX5_get 57 = .ok (.laload, 1) := by decide +kernel
theorem dX5_get_58 : decode cX5_get 58 = .ok (.lreturn, 1) := by decide +kernel
theorem dX5_lay_0 : decode cX5_lay 0 = .ok (.aload_n 0, 1) := by decide +kernel
theorem dX5_lay_1 : decode cX5_lay 1 = .ok (.getfield 42, 3) := by decide +kernel
theorem dX5_lay_4 : decode cX5_lay 4 = .ok (.iload_n 1, 1) := by decide +kernel
theorem dX5_lay_5 : decode cX5_lay 5 = .ok (.iload_n 2, 1) := by decide +kernel
theorem dX5_lay_6 : decode cX5_lay 6 = .ok (.lload_n 3, 1) := by decide +kernel
theorem dX5_lay_7 : decode cX5_lay 7 = .ok (.invokestatic 167, 3) := by decide +kernel
theorem dX5_lay_10 : decode cX5_lay 10 = .ok (.lastore, 1) := by decide +kernel
theorem dX5_lay_11 : decode cX5_lay 11 = .ok (.aload_n 0, 1) := by decide +kernel
theorem dX5_lay_12 : decode cX5_lay 12 = .ok (.getfield 46, 3) := by decide +kernel
theorem dX5_lay_15 : decode cX5_lay 15 = .ok (.iload_n 1, 1) := by decide +kernel
theorem dX5_lay_16 : decode cX5_lay 16 = .ok (.iload_n 2, 1) := by decide +kernel
theorem dX5_lay_17 : decode cX5_lay 17 = .ok (.iconst 3, 1) := by decide +kernel
theorem dX5_lay_18 : decode cX5_lay 18 = .ok (.if_icmp .ne 7, 3) := by decide +kernel
theorem dX5_lay_21 : decode cX5_lay 21 = .ok (.iconst 1, 1) := by decide +kernel
theorem dX5_lay_22 : decode cX5_lay 22 = .ok (.goto 4, 3) := by decide +kernel
theorem dX5_lay_25 : decode cX5_lay 25 = .ok (.iconst 0, 1) := by decide +kernel
theorem dX5_lay_26 : decode cX5_lay 26 = .ok (.bastore, 1) := by decide +kernel
theorem dX5_lay_27 : decode cX5_lay 27 = .ok (.return_, 1) := by decide +kernel
theorem dX5_put_0 : decode cX5_put 0 = .ok (.aload_n 0, 1) := by decide +kernel
theorem dX5_put_1 : decode cX5_put 1 = .ok (.iload_n 1, 1) := by decide +kernel
theorem dX5_put_2 : decode cX5_put 2 = .ok (.iload_n 2, 1) := by decide +kernel
theorem dX5_put_3 : decode cX5_put 3 = .ok (.iload_n 3, 1) := by decide +kernel
theorem dX5_put_4 : decode cX5_put 4 = .ok (.iload 4, 2) := by decide +kernel
theorem dX5_put_6 : decode cX5_put 6 = .ok (.invokevirtual 164, 3) := by decide +kernel
theorem dX5_put_9 : decode cX5_put 9 = .ok (.istore 7, 2) := by decide +kernel
theorem dX5_put_11 : decode cX5_put 11 = .ok (.iload 7, 2) := by decide +kernel
theorem dX5_put_13 : decode cX5_put 13 = .ok (.iconst (-1), 1) := by decide +kernel
theorem dX5_put_14 : decode cX5_put 14 = .ok (.if_icmp .ne 5, 3) := by decide +kernel
theorem dX5_put_17 : decode cX5_put 17 = .ok (.iconst 0, 1) := by decide +kernel
theorem dX5_put_18 : decode cX5_put 18 = .ok (.ireturn, 1) := by decide +kernel
theorem dX5_put_19 : decode cX5_put 19 = .ok (.aload_n 0, 1) := by decide +kernel
theorem dX5_put_20 : decode cX5_put 20 = .ok (.iload 7, 2) := by decide +kernel
theorem dX5_put_22 : decode cX5_put 22 = .ok (.aload_n 0, 1) := by decide +kernel
theorem dX5_put_23 : decode cX5_put 23 = .ok (.getfield 20, 3) := by decide +kernel
theorem dX5_put_26 : decode cX5_put 26 = .ok (.iload_n 1, 1) := by decide +kernel
theorem dX5_put_27 : decode cX5_put 27 = .ok (.iaload, 1) := by decide +kernel
theorem dX5_put_28 : decode cX5_put 28 = .ok (.lload 5, 2) := by decide +kernel
theorem dX5_put_30 : decode cX5_put 30 = .ok (.invokevirtual 171, 3) := by decide +kernel
theorem dX5_put_33 : decode cX5_put 33 = .ok (.aload_n 0, 1) := by decide +kernel
theorem dX5_put_34 : decode cX5_put 34 = .ok (.iconst 1, 1) := by decide +kernel
theorem dX5_put_35 : decode cX5_put 35 = .ok (.invokevirtual 75, 3) := by decide +kernel
theorem dX5_put_38 : decode cX5_put 38 = .ok (.ireturn, 1) := by decide +kernel
theorem dX5_empty_0 : decode cX5_empty 0 = .ok (.aload_n 0, 1) := by decide +kernel
theorem dX5_empty_1 : decode cX5_empty 1 = .ok (.iload_n 1, 1) := by decide +kernel
theorem dX5_empty_2 : decode cX5_empty 2 = .ok (.invokevirtual 131, 3) := by decide +kernel
theorem dX5_empty_5 : decode cX5_empty 5 = .ok (.ifCond .ne 10, 3) := by decide +kernel
theorem dX5_empty_8 : decode cX5_empty 8 = .ok (.aload_n 0, 1) := by decide +kernel
theorem dX5_empty_9 : decode cX5_empty 9 = .ok (.bipush 7, 2) := by decide +kernel
theorem dX5_empty_11 : decode cX5_empty 11 = .ok (.invokevirtual 68, 3) := by decide +kernel
theorem dX5_empty_14 : decode cX5_empty 14 = .ok (.ireturn, 1) := by decide +kernel
theorem dX5_empty_15 : decode cX5_empty 15 = .ok (.aload_n 0, 1) := by decide +kernel
theorem dX5_empty_16 : decode cX5_empty 16 = .ok (.getfield 20, 3) := by decide +kernel
theorem dX5_empty_19 : decode cX5_empty 19 = .ok (.iload_n 1, 1) := by decide +kernel
theorem dX5_empty_20 : decode cX5_empty 20 = .ok (.iaload, 1) := by decide +kernel
theorem dX5_empty_21 : decode cX5_empty 21 = .ok (.iconst 3, 1) := by decide +kernel
theorem dX5_empty_22 : decode cX5_empty 22 = .ok (.if_icmp .eq 9, 3) := by decide +kernel
theorem dX5_empty_25 : decode cX5_empty 25 = .ok (.aload_n 0, 1) := by decide +kernel
theorem dX5_empty_26 : decode cX5_empty 26 = .ok (.iconst 2, 1) := by decide +kernel
theorem dX5_empty_27 : decode cX5_empty 27 = .ok (.invokevirtual 68, 3) := by decide +kernel
theorem dX5_empty_30 : decode cX5_empty 30 = .ok (.ireturn, 1) := by decide +kernel
theorem dX5_empty_31 : decode cX5_empty 31 = .ok (.aload_n 0, 1) := by decide +kernel
theorem dX5_empty_32 : decode cX5_empty 32 = .ok (.iload_n 1, 1) := by decide +kernel
theorem dX5_empty_33 : decode cX5_empty 33 = .ok (.iload_n 2, 1) := by decide +kernel
theorem dX5_empty_34 : decode cX5_empty 34 = .ok (.iload_n 3, 1) := by decide +kernel
theorem dX5_empty_35 : decode cX5_empty 35 = .ok (.iload 4, 2) := by decide +kernel
theorem dX5_empty_37 : decode cX5_empty 37 = .ok (.invokevirtual 164, 3) := by decide +kernel
theorem dX5_empty_40 : decode cX5_empty 40 = .ok (.istore 5, 2) := by decide +kernel
theorem dX5_empty_42 : decode cX5_empty 42 = .ok (.iload 5, 2) := by decide +kernel
theorem dX5_empty_44 : decode cX5_empty 44 = .ok (.iconst (-1), 1) := by decide +kernel
theorem dX5_empty_45 : decode cX5_empty 45 = .ok (.if_icmp .ne 5, 3) := by decide +kernel
theorem dX5_empty_48 : decode cX5_empty 48 = .ok (.iconst 0, 1) := by decide +kernel
theorem dX5_empty_49 : decode cX5_empty 49 = .ok (.ireturn, 1) := by decide +kernel
theorem dX5_empty_50 : decode cX5_empty 50 = .ok (.aload_n 0, 1) := by decide +kernel
theorem dX5_empty_51 : decode cX5_empty 51 = .ok (.getfield 42, 3) := by decide +kernel
theorem dX5_empty_54 : decode cX5_empty 54 = .ok (.iload 5, 2) := by decide +kernel
theorem dX5_empty_56 : decode cX5_empty 56 = .ok (.lconst 0, 1) := by decide +kernel
theorem dX5_empty_57 : decode cX5_empty 57 = .ok (.lastore, 1) := by decide +kernel
theorem dX5_empty_58 : decode cX5_empty 58 = .ok (.aload_n 0, 1) := by decide +kernel
theorem dX5_empty_59 : decode cX5_empty 59 = .ok (.getfield 46, 3) := by decide +kernel
theorem dX5_empty_62 : decode cX5_empty 62 = .ok (.iload 5, 2) := by decide +kernel
theorem dX5_empty_64 : decode cX5_empty 64 = .ok (.iconst 0, 1) := by decide +kernel
theorem dX5_empty_65 : decode cX5_empty 65 = .ok (.bastore, 1) := by decide +kernel
theorem dX5_empty_66 : decode cX5_empty 66 = .ok (.aload_n 0, 1) := by decide +kernel
theorem dX5_empty_67 : decode cX5_empty 67 = .ok (.iconst 1, 1) := by decide +kernel
theorem dX5_empty_68 : decode cX5_empty 68 = .ok (.invokevirtual 75, 3) := by decide +kernel
theorem dX5_empty_71 : decode cX5_empty 71 = .ok (.ireturn, 1) := by decide +kernel
theorem dX5_pair_0 : decode cX5_pair 0 = .ok (.aload_n 0, 1) := by decide +kernel
theorem dX5_pair_1 : decode cX5_pair 1 = .ok (.getfield 175, 3) := by decide +kernel
theorem dX5_pair_4 : decode cX5_pair 4 = .ok (.bipush 30, 2) := by decide +kernel
theorem dX5_pair_6 : decode cX5_pair 6 = .ok (.if_icmp .ne 10, 3) := by decide +kernel
theorem dX5_pair_9 : decode cX5_pair 9 = .ok (.aload_n 0, 1) := by decide +kernel
theorem dX5_pair_10 : decode cX5_pair 10 = .ok (.bipush 8, 2) := by decide +kernel
theorem dX5_pair_12 : decode cX5_pair 12 = .ok (.invokevirtual 68, 3) := by decide +kernel
theorem dX5_pair_15 : decode cX5_pair 15 = .ok (.ireturn, 1) := by decide +kernel
theorem dX5_pair_16 : decode cX5_pair 16 = .ok (.aload_n 0, 1) := by decide +kernel
theorem dX5_pair_17 : decode cX5_pair 17 = .ok (.getfield 53, 3) := by decide +kernel
theorem dX5_pair_20 : decode cX5_pair 20 = .ok (.aload_n 0, 1) := by decide +kernel
theorem dX5_pair_21 : decode cX5_pair 21 = .ok (.getfield 175, 3) := by decide +kernel
theorem dX5_pair_24 : decode cX5_pair 24 = .ok (.iload_n 1, 1) := by decide +kernel
theorem dX5_pair_25 : decode cX5_pair 25 = .ok (.iastore, 1) := by decide +kernel
theorem dX5_pair_26 : decode cX5_pair 26 = .ok (.aload_n 0, 1) := by decide +kernel
theorem dX5_pair_27 : decode cX5_pair 27 = .ok (.getfield 56, 3) := by decide +kernel
theorem dX5_pair_30 : decode cX5_pair 30 = .ok (.aload_n 0, 1) := by decide +kernel
theorem dX5_pair_31 : decode cX5_pair 31 = .ok (.getfield 175, 3) := by decide +kernel
theorem dX5_pair_34 : decode cX5_pair 34 = .ok (.iload_n 2, 1) := by decide +kernel
theorem dX5_pair_35 : decode cX5_pair 35 = .ok (.iastore, 1) := by decide +kernel
theorem dX5_pair_36 : decode cX5_pair 36 = .ok (.aload_n 0, 1) := by decide +kernel
theorem dX5_pair_37 : decode cX5_pair 37 = .ok (.getfield 59, 3) := by decide +kernel
theorem dX5_pair_40 : decode cX5_pair 40 = .ok (.aload_n 0, 1) := by decide +kernel
theorem dX5_pair_41 : decode cX5_pair 41 = .ok (.getfield 175, 3) := by decide +kernel
theorem dX5_pair_44 : decode cX5_pair 44 = .ok (.iload_n 3, 1) := by decide +kernel
theorem dX5_pair_45 : decode cX5_pair 45 = .ok (.iastore, 1) := by decide +kernel
theorem dX5_pair_46 : decode cX5_pair 46 = .ok (.aload_n 0, 1) := by decide +kernel
theorem dX5_pair_47 : decode cX5_pair 47 = .ok (.getfield 62, 3) := by decide +kernel
theorem dX5_pair_50 : decode cX5_pair 50 = .ok (.aload_n 0, 1) := by decide +kernel
theorem dX5_pair_51 : decode cX5_pair 51 = .ok (.getfield 175, 3) := by decide +kernel
theorem dX5_pair_54 : decode cX5_pair 54 = .ok (.lload 4, 2) := by decide +kernel
theorem dX5_pair_56 : decode cX5_pair 56 = .ok (.lastore, 1) := by decide +kernel
theorem dX5_pair_57 : decode cX5_pair 57 = .ok (.aload_n 0, 1) := by decide +kernel
theorem dX5_pair_58 : decode cX5_pair 58 = .ok (.dup, 1) := by decide +kernel
theorem dX5_pair_59 : decode cX5_pair 59 = .ok (.getfield 175, 3) := by decide +kernel
theorem dX5_pair_62 : decode cX5_pair 62 = .ok (.iconst 1, 1) := by decide +kernel
theorem dX5_pair_63 : decode cX5_pair 63 = .ok (.iadd, 1) := by decide +kernel
theorem dX5_pair_64 : decode cX5_pair 64 = .ok (.putfield 175, 3) := by decide +kernel
theorem dX5_pair_67 : decode cX5_pair 67 = .ok (.aload_n 0, 1) := by decide +kernel
theorem dX5_pair_68 : decode cX5_pair 68 = .ok (.aload_n 0, 1) := by decide +kernel
theorem dX5_pair_69 : decode cX5_pair 69 = .ok (.getfield 175, 3) := by decide +kernel
theorem dX5_pair_72 : decode cX5_pair 72 = .ok (.invokevirtual 75, 3) := by decide +kernel
theorem dX5_pair_75 : decode cX5_pair 75 = .ok (.ireturn, 1) := by decide +kernel
theorem dX5_joins_0 : decode cX5_joins 0 = .ok (.iload_n 2, 1) := by decide +kernel
theorem dX5_joins_1 : decode cX5_joins 1 = .ok (.iconst 3, 1) := by decide +kernel
theorem dX5_joins_2 : decode cX5_joins 2 = .ok (.if_icmp .ne 22, 3) := by decide +kernel
theorem dX5_joins_5 : decode cX5_joins 5 = .ok (.aload_n 0, 1) := by decide +kernel
theorem dX5_joins_6 : decode cX5_joins 6 = .ok (.getfield 46, 3) := by decide +kernel
theorem dX5_joins_9 : decode cX5_joins 9 = .ok (.iload_n 1, 1) := by decide +kernel
theorem dX5_joins_10 : decode cX5_joins 10 = .ok (.baload, 1) := by decide +kernel
theorem dX5_joins_11 : decode cX5_joins 11 = .ok (.ifCond .ne 13, 3) := by decide +kernel
theorem dX5_joins_14 : decode cX5_joins 14 = .ok (.aload_n 0, 1) := by decide +kernel
theorem dX5_joins_15 : decode cX5_joins 15 = .ok (.iload_n 1, 1) := by decide +kernel
theorem dX5_joins_16 : decode cX5_joins 16 = .ok (.iload_n 2, 1) := by decide +kernel
theorem dX5_joins_17 : decode cX5_joins 17 = .ok (.lload 4, 2) := by decide +kernel
theorem dX5_joins_19 : decode cX5_joins 19 = .ok (.invokevirtual 171, 3) := by decide +kernel
theorem dX5_joins_22 : decode cX5_joins 22 = .ok (.iconst 1, 1) := by decide +kernel
theorem dX5_joins_23 : decode cX5_joins 23 = .ok (.ireturn, 1) := by decide +kernel
theorem dX5_joins_24 : decode cX5_joins 24 = .ok (.aload_n 0, 1) := by decide +kernel
theorem dX5_joins_25 : decode cX5_joins 25 = .ok (.getfield 42, 3) := by decide +kernel
theorem dX5_joins_28 : decode cX5_joins 28 = .ok (.iload_n 1, 1) := by decide +kernel
theorem dX5_joins_29 : decode cX5_joins 29 = .ok (.laload, 1) := by decide +kernel
theorem dX5_joins_30 : decode cX5_joins 30 = .ok (.lstore 6, 2) := by decide +kernel
theorem dX5_joins_32 : decode cX5_joins 32 = .ok (.iload_n 3, 1) := by decide +kernel
theorem dX5_joins_33 : decode cX5_joins 33 = .ok (.iconst 3, 1) := by decide +kernel
theorem dX5_joins_34 : decode cX5_joins 34 = .ok (.if_icmp .le 12, 3) := by decide +kernel
theorem dX5_joins_37 : decode cX5_joins 37 = .ok (.lload 4, 2) := by decide +kernel
theorem dX5_joins_39 : decode cX5_joins 39 = .ok (.lconst 0, 1) := by decide +kernel
theorem dX5_joins_40 : decode cX5_joins 40 = .ok (.lcmp, 1) := by decide +kernel
theorem dX5_joins_41 : decode cX5_joins 41 = .ok (.ifCond .ne 5, 3) := by decide +kernel
theorem dX5_joins_44 : decode cX5_joins 44 = .ok (.iconst 0, 1) := by decide +kernel
theorem dX5_joins_45 : decode cX5_joins 45 = .ok (.ireturn, 1) := by decide +kernel
theorem dX5_joins_46 : decode cX5_joins 46 = .ok (.lload 4, 2) := by decide +kernel
theorem dX5_joins_48 : decode cX5_joins 48 = .ok (.lstore 8, 2) := by decide +kernel
theorem dX5_joins_50 : decode cX5_joins 50 = .ok (.iload_n 3, 1) := by decide +kernel
theorem dX5_joins_51 : decode cX5_joins 51 = .ok (.iconst 1, 1) := by decide +kernel
theorem dX5_joins_52 : decode cX5_joins 52 = .ok (.if_icmp .ne 13, 3) := by decide +kernel
theorem dX5_joins_55 : decode cX5_joins 55 = .ok (.lload 6, 2) := by decide +kernel
theorem dX5_joins_57 : decode cX5_joins 57 = .ok (.lload 4, 2) := by decide +kernel
theorem dX5_joins_59 : decode cX5_joins 59 = .ok (.ladd, 1) := by decide +kernel
theorem dX5_joins_60 : decode cX5_joins 60 = .ok (.lstore 8, 2) := by decide +kernel
theorem dX5_joins_62 : decode cX5_joins 62 = .ok (.goto 109, 3) := by decide +kernel
theorem dX5_joins_65 : decode cX5_joins 65 = .ok (.iload_n 3, 1) := by decide +kernel
theorem dX5_joins_66 : decode cX5_joins 66 = .ok (.iconst 2, 1) := by decide +kernel
theorem dX5_joins_67 : decode cX5_joins 67 = .ok (.if_icmp .ne 23, 3) := by decide +kernel
theorem dX5_joins_70 : decode cX5_joins 70 = .ok (.lload 6, 2) := by decide +kernel
theorem dX5_joins_72 : decode cX5_joins 72 = .ok (.lload 4, 2) := by decide +kernel
theorem dX5_joins_74 : decode cX5_joins 74 = .ok (.lcmp, 1) := by decide +kernel
theorem dX5_joins_75 : decode cX5_joins 75 = .ok (.ifCond .le 8, 3) := by decide +kernel
theorem dX5_joins_78 : decode cX5_joins 78 = .ok (.lload 6, 2) := by decide +kernel
theorem dX5_joins_80 : decode cX5_joins 80 = .ok (.goto 5, 3) := by decide +kernel
theorem dX5_joins_83 : decode cX5_joins 83 = .ok (.lload 4, 2) := by decide +kernel
theorem dX5_joins_85 : decode cX5_joins 85 = .ok (.lstore 8, 2) := by decide +kernel
theorem dX5_joins_87 : decode cX5_joins 87 = .ok (.goto 84, 3) := by decide +kernel
theorem dX5_joins_90 : decode cX5_joins 90 = .ok (.iload_n 3, 1) := by decide +kernel
theorem dX5_joins_91 : decode cX5_joins 91 = .ok (.iconst 3, 1) := by decide +kernel
theorem dX5_joins_92 : decode cX5_joins 92 = .ok (.if_icmp .ne 23, 3) := by decide +kernel
theorem dX5_joins_95 : decode cX5_joins 95 = .ok (.lload 6, 2) := by decide +kernel
theorem dX5_joins_97 : decode cX5_joins 97 = .ok (.lload 4, 2) := by decide +kernel
theorem dX5_joins_99 : decode cX5_joins 99 = .ok (.lcmp, 1) := by decide +kernel
theorem dX5_joins_100 : decode cX5_joins 100 = .ok (.ifCond .ge 8, 3) := by decide +kernel
theorem dX5_joins_103 : decode cX5_joins 103 = .ok (.lload 6, 2) := by decide +kernel
theorem dX5_joins_105 : decode cX5_joins 105 = .ok (.goto 5, 3) := by decide +kernel
theorem dX5_joins_108 : decode cX5_joins 108 = .ok (.lload 4, 2) := by decide +kernel
theorem dX5_joins_110 : decode cX5_joins 110 = .ok (.lstore 8, 2) := by decide +kernel
theorem dX5_joins_112 : decode cX5_joins 112 = .ok (.goto 59, 3) := by decide +kernel
theorem dX5_joins_115 : decode cX5_joins 115 = .ok (.iload_n 3, 1) := by decide +kernel
theorem dX5_joins_116 : decode cX5_joins 116 = .ok (.iconst 4, 1) := by decide +kernel
theorem dX5_joins_117 : decode cX5_joins 117 = .ok (.if_icmp .ne 29, 3) := by decide +kernel
theorem dX5_joins_120 : decode cX5_joins 120 = .ok (.lload 4, 2) := by decide +kernel
theorem dX5_joins_122 : decode cX5_joins 122 = .ok (.ldc2_w 178, 3) := by decide +kernel
theorem dX5_joins_125 : decode cX5_joins 125 = .ok (.lcmp, 1) := by decide +kernel
theorem dX5_joins_126 : decode cX5_joins 126 = .ok (.ifCond .ne 10, 3) := by decide +kernel
theorem dX5_joins_129 : decode cX5_joins 129 = .ok (.lconst 0, 1) := by decide +kernel
theorem dX5_joins_130 : decode cX5_joins 130 = .ok (.lload 6, 2) := by decide +kernel
theorem dX5_joins_132 : decode cX5_joins 132 = .ok (.lsub, 1) := by decide +kernel
theorem dX5_joins_133 : decode cX5_joins 133 = .ok (.goto 8, 3) := by decide +kernel
theorem dX5_joins_136 : decode cX5_joins 136 = .ok (.lload 6, 2) := by decide +kernel
theorem dX5_joins_138 : decode cX5_joins 138 = .ok (.lload 4, 2) := by decide +kernel
theorem dX5_joins_140 : decode cX5_joins 140 = .ok (.ldiv, 1) := by decide +kernel
theorem dX5_joins_141 : decode cX5_joins 141 = .ok (.lstore 8, 2) := by decide +kernel
theorem dX5_joins_143 : decode cX5_joins 143 = .ok (.goto 28, 3) := by decide +kernel
theorem dX5_joins_146 : decode cX5_joins 146 = .ok (.iload_n 3, 1) := by decide +kernel
