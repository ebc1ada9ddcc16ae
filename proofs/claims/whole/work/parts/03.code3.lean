theorem dX12_next_11 : decode cX12_next 11 = .ok (.aload_n 0, 1) := by decide +kernel
theorem dX12_next_12 : decode cX12_next 12 = .ok (.getfield 7, 3) := by decide +kernel
theorem dX12_next_15 : decode cX12_next 15 = .ok (.aload_n 0, 1) := by decide +kernel
theorem dX12_next_16 : decode cX12_next 16 = .ok (.getfield 83, 3) := by decide +kernel
theorem dX12_next_19 : decode cX12_next 19 = .ok (.iaload, 1) := by decide +kernel
theorem dX12_next_20 : decode cX12_next 20 = .ok (.bipush 32, 2) := by decide +kernel
theorem dX12_next_22 : decode cX12_next 22 = .ok (.if_icmp .ne 16, 3) := by decide +kernel
theorem dX12_next_25 : decode cX12_next 25 = .ok (.aload_n 0, 1) := by decide +kernel
theorem dX12_next_26 : decode cX12_next 26 = .ok (.dup, 1) := by decide +kernel
theorem dX12_next_27 : decode cX12_next 27 = .ok (.getfield 83, 3) := by decide +kernel
theorem dX12_next_30 : decode cX12_next 30 = .ok (.iconst 1, 1) := by decide +kernel
theorem dX12_next_31 : decode cX12_next 31 = .ok (.iadd, 1) := by decide +kernel
theorem dX12_next_32 : decode cX12_next 32 = .ok (.putfield 83, 3) := by decide +kernel
theorem dX12_next_35 : decode cX12_next 35 = .ok (.goto (-35), 3) := by decide +kernel
theorem dX12_next_38 : decode cX12_next 38 = .ok (.aload_n 0, 1) := by decide +kernel
theorem dX12_next_39 : decode cX12_next 39 = .ok (.aload_n 0, 1) := by decide +kernel
theorem dX12_next_40 : decode cX12_next 40 = .ok (.getfield 83, 3) := by decide +kernel
theorem dX12_next_43 : decode cX12_next 43 = .ok (.putfield 86, 3) := by decide +kernel
theorem dX12_next_46 : decode cX12_next 46 = .ok (.aload_n 0, 1) := by decide +kernel
theorem dX12_next_47 : decode cX12_next 47 = .ok (.lconst 0, 1) := by decide +kernel
theorem dX12_next_48 : decode cX12_next 48 = .ok (.putfield 89, 3) := by decide +kernel
theorem dX12_next_51 : decode cX12_next 51 = .ok (.aload_n 0, 1) := by decide +kernel
theorem dX12_next_52 : decode cX12_next 52 = .ok (.getfield 83, 3) := by decide +kernel
theorem dX12_next_55 : decode cX12_next 55 = .ok (.aload_n 0, 1) := by decide +kernel
theorem dX12_next_56 : decode cX12_next 56 = .ok (.getfield 78, 3) := by decide +kernel
theorem dX12_next_59 : decode cX12_next 59 = .ok (.if_icmp .ge 15, 3) := by decide +kernel
theorem dX12_next_62 : decode cX12_next 62 = .ok (.aload_n 0, 1) := by decide +kernel
theorem dX12_next_63 : decode cX12_next 63 = .ok (.getfield 7, 3) := by decide +kernel
theorem dX12_next_66 : decode cX12_next 66 = .ok (.aload_n 0, 1) := by decide +kernel
theorem dX12_next_67 : decode cX12_next 67 = .ok (.getfield 83, 3) := by decide +kernel
theorem dX12_next_70 : decode cX12_next 70 = .ok (.iaload, 1) := by decide +kernel
theorem dX12_next_71 : decode cX12_next 71 = .ok (.goto 4, 3) := by decide +kernel
theorem dX12_next_74 : decode cX12_next 74 = .ok (.iconst (-1), 1) := by decide +kernel
theorem dX12_next_75 : decode cX12_next 75 = .ok (.istore_n 1, 1) := by decide +kernel
theorem dX12_next_76 : decode cX12_next 76 = .ok (.aload_n 0, 1) := by decide +kernel
theorem dX12_next_77 : decode cX12_next 77 = .ok (.iload_n 1, 1) := by decide +kernel
theorem dX12_next_78 : decode cX12_next 78 = .ok (.ifCond .ge 7, 3) := by decide +kernel
theorem dX12_next_81 : decode cX12_next 81 = .ok (.iconst 0, 1) := by decide +kernel
theorem dX12_next_82 : decode cX12_next 82 = .ok (.goto 36, 3) := by decide +kernel
theorem dX12_next_85 : decode cX12_next 85 = .ok (.iload_n 1, 1) := by decide +kernel
theorem dX12_next_86 : decode cX12_next 86 = .ok (.invokestatic 93, 3) := by decide +kernel
theorem dX12_next_89 : decode cX12_next 89 = .ok (.ifCond .eq 7, 3) := by decide +kernel
theorem dX12_next_92 : decode cX12_next 92 = .ok (.iconst 1, 1) := by decide +kernel
theorem dX12_next_93 : decode cX12_next 93 = .ok (.goto 25, 3) := by decide +kernel
theorem dX12_next_96 : decode cX12_next 96 = .ok (.iload_n 1, 1) := by decide +kernel
theorem dX12_next_97 : decode cX12_next 97 = .ok (.invokestatic 97, 3) := by decide +kernel
theorem dX12_next_100 : decode cX12_next 100 = .ok (.ifCond .eq 7, 3) := by decide +kernel
theorem dX12_next_103 : decode cX12_next 103 = .ok (.iconst 2, 1) := by decide +kernel
theorem dX12_next_104 : decode cX12_next 104 = .ok (.goto 14, 3) := by decide +kernel
theorem dX12_next_107 : decode cX12_next 107 = .ok (.iload_n 1, 1) := by decide +kernel
theorem dX12_next_108 : decode cX12_next 108 = .ok (.bipush 59, 2) := by decide +kernel
theorem dX12_next_110 : decode cX12_next 110 = .ok (.if_icmp .ne 7, 3) := by decide +kernel
theorem dX12_next_113 : decode cX12_next 113 = .ok (.iconst 3, 1) := by decide +kernel
theorem dX12_next_114 : decode cX12_next 114 = .ok (.goto 4, 3) := by decide +kernel
theorem dX12_next_117 : decode cX12_next 117 = .ok (.iconst 4, 1) := by decide +kernel
theorem dX12_next_118 : decode cX12_next 118 = .ok (.putfield 100, 3) := by decide +kernel
theorem dX12_next_121 : decode cX12_next 121 = .ok (.aload_n 0, 1) := by decide +kernel
theorem dX12_next_122 : decode cX12_next 122 = .ok (.dup, 1) := by decide +kernel
theorem dX12_next_123 : decode cX12_next 123 = .ok (.getfield 83, 3) := by decide +kernel
theorem dX12_next_126 : decode cX12_next 126 = .ok (.aload_n 0, 1) := by decide +kernel
theorem dX12_next_127 : decode cX12_next 127 = .ok (.getfield 100, 3) := by decide +kernel
theorem dX12_next_130 : decode cX12_next 130 = .ok (.iconst 3, 1) := by decide +kernel
theorem dX12_next_131 : decode cX12_next 131 = .ok (.if_icmp .ne 7, 3) := by decide +kernel
theorem dX12_next_134 : decode cX12_next 134 = .ok (.iconst 1, 1) := by decide +kernel
theorem dX12_next_135 : decode cX12_next 135 = .ok (.goto 4, 3) := by decide +kernel
theorem dX12_next_138 : decode cX12_next 138 = .ok (.iconst 0, 1) := by decide +kernel
theorem dX12_next_139 : decode cX12_next 139 = .ok (.iadd, 1) := by decide +kernel
theorem dX12_next_140 : decode cX12_next 140 = .ok (.putfield 83, 3) := by decide +kernel
theorem dX12_next_143 : decode cX12_next 143 = .ok (.aload_n 0, 1) := by decide +kernel
theorem dX12_next_144 : decode cX12_next 144 = .ok (.getfield 100, 3) := by decide +kernel
theorem dX12_next_147 : decode cX12_next 147 = .ok (.iconst 1, 1) := by decide +kernel
theorem dX12_next_148 : decode cX12_next 148 = .ok (.if_icmp .ne 89, 3) := by decide +kernel
theorem dX12_next_151 : decode cX12_next 151 = .ok (.aload_n 0, 1) := by decide +kernel
theorem dX12_next_152 : decode cX12_next 152 = .ok (.getfield 83, 3) := by decide +kernel
theorem dX12_next_155 : decode cX12_next 155 = .ok (.aload_n 0, 1) := by decide +kernel
theorem dX12_next_156 : decode cX12_next 156 = .ok (.getfield 78, 3) := by decide +kernel
theorem dX12_next_159 : decode cX12_next 159 = .ok (.if_icmp .ge 78, 3) := by decide +kernel
theorem dX12_next_162 : decode cX12_next 162 = .ok (.aload_n 0, 1) := by decide +kernel
theorem dX12_next_163 : decode cX12_next 163 = .ok (.getfield 7, 3) := by decide +kernel
theorem dX12_next_166 : decode cX12_next 166 = .ok (.aload_n 0, 1) := by decide +kernel
theorem dX12_next_167 : decode cX12_next 167 = .ok (.getfield 83, 3) := by decide +kernel
theorem dX12_next_170 : decode cX12_next 170 = .ok (.iaload, 1) := by decide +kernel
theorem dX12_next_171 : decode cX12_next 171 = .ok (.invokestatic 93, 3) := by decide +kernel
theorem dX12_next_174 : decode cX12_next 174 = .ok (.ifCond .eq 63, 3) := by decide +kernel
theorem dX12_next_177 : decode cX12_next 177 = .ok (.aload_n 0, 1) := by decide +kernel
theorem dX12_next_178 : decode cX12_next 178 = .ok (.aload_n 0, 1) := by decide +kernel
theorem dX12_next_179 : decode cX12_next 179 = .ok (.getfield 83, 3) := by decide +kernel
theorem dX12_next_182 : decode cX12_next 182 = .ok (.aload_n 0, 1) := by decide +kernel
theorem dX12_next_183 : decode cX12_next 183 = .ok (.getfield 86, 3) := by decide +kernel
theorem dX12_next_186 : decode cX12_next 186 = .ok (.isub, 1) := by decide +kernel
theorem dX12_next_187 : decode cX12_next 187 = .ok (.bipush 8, 2) := by decide +kernel
theorem dX12_next_189 : decode cX12_next 189 = .ok (.if_icmp .ge 29, 3) := by decide +kernel
theorem dX12_next_192 : decode cX12_next 192 = .ok (.ldc2_w 103, 3) := by decide +kernel
theorem dX12_next_195 : decode cX12_next 195 = .ok (.aload_n 0, 1) := by decide +kernel
theorem dX12_next_196 : decode cX12_next 196 = .ok (.getfield 89, 3) := by decide +kernel
theorem dX12_next_199 : decode cX12_next 199 = .ok (.lmul, 1) := by decide +kernel
theorem dX12_next_200 : decode cX12_next 200 = .ok (.aload_n 0, 1) := by decide +kernel
theorem dX12_next_201 : decode cX12_next 201 = .ok (.getfield 7, 3) := by decide +kernel
theorem dX12_next_204 : decode cX12_next 204 = .ok (.aload_n 0, 1) := by decide +kernel
theorem dX12_next_205 : decode cX12_next 205 = .ok (.getfield 83, 3) := by decide +kernel
theorem dX12_next_208 : decode cX12_next 208 = .ok (.iaload, 1) := by decide +kernel
theorem dX12_next_209 : decode cX12_next 209 = .ok (.i2l, 1) := by decide +kernel
theorem dX12_next_210 : decode cX12_next 210 = .ok (.ladd, 1) := by decide +kernel
theorem dX12_next_211 : decode cX12_next 211 = .ok (.ldc2_w 105, 3) := by decide +kernel
theorem dX12_next_214 : decode cX12_next 214 = .ok (.lsub, 1) := by decide +kernel
theorem dX12_next_215 : decode cX12_next 215 = .ok (.goto 6, 3) := by decide +kernel
theorem dX12_next_218 : decode cX12_next 218 = .ok (.ldc2_w 107, 3) := by decide +kernel
theorem dX12_next_221 : decode cX12_next 221 = .ok (.putfield 89, 3) := by decide +kernel
theorem dX12_next_224 : decode cX12_next 224 = .ok (.aload_n 0, 1) := by decide +kernel
theorem dX12_next_225 : decode cX12_next 225 = .ok (.dup, 1) := by decide +kernel
theorem dX12_next_226 : decode cX12_next 226 = .ok (.getfield 83, 3) := by decide +kernel
theorem dX12_next_229 : decode cX12_next 229 = .ok (.iconst 1, 1) := by decide +kernel
theorem dX12_next_230 : decode cX12_next 230 = .ok (.iadd, 1) := by decide +kernel
theorem dX12_next_231 : decode cX12_next 231 = .ok (.putfield 83, 3) := by decide +kernel
theorem dX12_next_234 : decode cX12_next 234 = .ok (.goto (-91), 3) := by decide +kernel
theorem dX12_next_237 : decode cX12_next 237 = .ok (.aload_n 0, 1) := by decide +kernel
theorem dX12_next_238 : decode cX12_next 238 = .ok (.getfield 100, 3) := by decide +kernel
theorem dX12_next_241 : decode cX12_next 241 = .ok (.iconst 2, 1) := by decide +kernel
theorem dX12_next_242 : decode cX12_next 242 = .ok (.if_icmp .ne 88, 3) := by decide +kernel
theorem dX12_next_245 : decode cX12_next 245 = .ok (.aload_n 0, 1) := by decide +kernel
theorem dX12_next_246 : decode cX12_next 246 = .ok (.getfield 83, 3) := by decide +kernel
theorem dX12_next_249 : decode cX12_next 249 = .ok (.aload_n 0, 1) := by decide +kernel
theorem dX12_next_250 : decode cX12_next 250 = .ok (.getfield 78, 3) := by decide +kernel
theorem dX12_next_253 : decode cX12_next 253 = .ok (.if_icmp .ge 77, 3) := by decide +kernel
theorem dX12_next_256 : decode cX12_next 256 = .ok (.aload_n 0, 1) := by decide +kernel
theorem dX12_next_257 : decode cX12_next 257 = .ok (.getfield 7, 3) := by decide +kernel
theorem dX12_next_260 : decode cX12_next 260 = .ok (.aload_n 0, 1) := by decide +kernel
theorem dX12_next_261 : decode cX12_next 261 = .ok (.getfield 83, 3) := by decide +kernel
theorem dX12_next_264 : decode cX12_next 264 = .ok (.iaload, 1) := by decide +kernel
theorem dX12_next_265 : decode cX12_next 265 = .ok (.invokestatic 97, 3) := by decide +kernel
theorem dX12_next_268 : decode cX12_next 268 = .ok (.ifCond .eq 62, 3) := by decide +kernel
theorem dX12_next_271 : decode cX12_next 271 = .ok (.aload_n 0, 1) := by decide +kernel
theorem dX12_next_272 : decode cX12_next 272 = .ok (.aload_n 0, 1) := by decide +kernel
theorem dX12_next_273 : decode cX12_next 273 = .ok (.getfield 83, 3) := by decide +kernel
theorem dX12_next_276 : decode cX12_next 276 = .ok (.aload_n 0, 1) := by decide +kernel
theorem dX12_next_277 : decode cX12_next 277 = .ok (.getfield 86, 3) := by decide +kernel
theorem dX12_next_280 : decode cX12_next 280 = .ok (.isub, 1) := by decide +kernel
theorem dX12_next_281 : decode cX12_next 281 = .ok (.iconst 2, 1) := by decide +kernel
theorem dX12_next_282 : decode cX12_next 282 = .ok (.if_icmp .ge 29, 3) := by decide +kernel
theorem dX12_next_285 : decode cX12_next 285 = .ok (.ldc2_w 109, 3) := by decide +kernel
theorem dX12_next_288 : decode cX12_next 288 = .ok (.aload_n 0, 1) := by decide +kernel
theorem dX12_next_289 : decode cX12_next 289 = .ok (.getfield 89, 3) := by decide +kernel
theorem dX12_next_292 : decode cX12_next 292 = .ok (.lmul, 1) := by decide +kernel
theorem dX12_next_293 : decode cX12_next 293 = .ok (.aload_n 0, 1) := by decide +kernel
theorem dX12_next_294 : decode cX12_next 294 = .ok (.getfield 7, 3) := by decide +kernel
theorem dX12_next_297 : decode cX12_next 297 = .ok (.aload_n 0, 1) := by decide +kernel
theorem dX12_next_298 : decode cX12_next 298 = .ok (.getfield 83, 3) := by decide +kernel
theorem dX12_next_301 : decode cX12_next 301 = .ok (.iaload, 1) := by decide +kernel
theorem dX12_next_302 : decode cX12_next 302 = .ok (.i2l, 1) := by decide +kernel
theorem dX12_next_303 : decode cX12_next 303 = .ok (.ladd, 1) := by decide +kernel
theorem dX12_next_304 : decode cX12_next 304 = .ok (.ldc2_w 111, 3) := by decide +kernel
theorem dX12_next_307 : decode cX12_next 307 = .ok (.lsub, 1) := by decide +kernel
theorem dX12_next_308 : decode cX12_next 308 = .ok (.goto 6, 3) := by decide +kernel
theorem dX12_next_311 : decode cX12_next 311 = .ok (.ldc2_w 113, 3) := by decide +kernel
theorem dX12_next_314 : decode cX12_next 314 = .ok (.putfield 89, 3) := by decide +kernel
theorem dX12_next_317 : decode cX12_next 317 = .ok (.aload_n 0, 1) := by decide +kernel
theorem dX12_next_318 : decode cX12_next 318 = .ok (.dup, 1) := by decide +kernel
theorem dX12_next_319 : decode cX12_next 319 = .ok (.getfield 83, 3) := by decide +kernel
theorem dX12_next_322 : decode cX12_next 322 = .ok (.iconst 1, 1) := by decide +kernel
theorem dX12_next_323 : decode cX12_next 323 = .ok (.iadd, 1) := by decide +kernel
theorem dX12_next_324 : decode cX12_next 324 = .ok (.putfield 83, 3) := by decide +kernel
theorem dX12_next_327 : decode cX12_next 327 = .ok (.goto (-90), 3) := by decide +kernel
theorem dX12_next_330 : decode cX12_next 330 = .ok (.aload_n 0, 1) := by decide +kernel
theorem dX12_next_331 : decode cX12_next 331 = .ok (.getfield 100, 3) := by decide +kernel
theorem dX12_next_334 : decode cX12_next 334 = .ok (.iconst 2, 1) := by decide +kernel
theorem dX12_next_335 : decode cX12_next 335 = .ok (.if_icmp .ne 35, 3) := by decide +kernel
theorem dX12_next_338 : decode cX12_next 338 = .ok (.aload_n 0, 1) := by decide +kernel
theorem dX12_next_339 : decode cX12_next 339 = .ok (.getfield 7, 3) := by decide +kernel
theorem dX12_next_342 : decode cX12_next 342 = .ok (.aload_n 0, 1) := by decide +kernel
theorem dX12_next_343 : decode cX12_next 343 = .ok (.getfield 86, 3) := by decide +kernel
theorem dX12_next_346 : decode cX12_next 346 = .ok (.iaload, 1) := by decide +kernel
theorem dX12_next_347 : decode cX12_next 347 = .ok (.bipush 48, 2) := by decide +kernel
theorem dX12_next_349 : decode cX12_next 349 = .ok (.if_icmp .ne 21, 3) := by decide +kernel
theorem dX12_next_352 : decode cX12_next 352 = .ok (.aload_n 0, 1) := by decide +kernel
theorem dX12_next_353 : decode cX12_next 353 = .ok (.getfield 83, 3) := by decide +kernel
theorem dX12_next_356 : decode cX12_next 356 = .ok (.aload_n 0, 1) := by decide +kernel
theorem dX12_next_357 : decode cX12_next 357 = .ok (.getfield 86, 3) := by decide +kernel
theorem dX12_next_360 : decode cX12_next 360 = .ok (.isub, 1) := by decide +kernel
theorem dX12_next_361 : decode cX12_next 361 = .ok (.iconst 1, 1) := by decide +kernel
theorem dX12_next_362 : decode cX12_next 362 = .ok (.if_icmp .le 8, 3) := by decide +kernel
theorem dX12_next_365 : decode cX12_next 365 = .ok (.aload_n 0, 1) := by decide +kernel
theorem dX12_next_366 : decode cX12_next 366 = .ok (.iconst 4, 1) := by decide +kernel
theorem dX12_next_367 : decode cX12_next 367 = .ok (.putfield 100, 3) := by decide +kernel
theorem dX12_next_370 : decode cX12_next 370 = .ok (.return_, 1) := by decide +kernel
set_option maxRecDepth 20000 in
theorem ggX12_takes_X12_next : GoodIn wsX12_takes wsX12_next := goodIn_r _ [7, 8, 9, 10, 11, 2, 1, 12, 13, 14, 15, 16, 17, 18, 19, 6, 20, 21, 22, 23, 27, 28, 29, 30, 31, 32, 33, 34, 35, 36, 37, 38, 39, 40, 41, 42, 43, 44, 45, 46, 47, 48, 49, 50, 51, 52, 53, 54, 55, 56, 57, 58, 59, 60, 61, 62, 63, 64] (by decide +kernel) (by decide +kernel)
set_option maxRecDepth 20000 in
theorem gX12_takes_X12_next : GoodIn wsX12_takes (wsV RX12 115 RX12 yX12_next wsX12_next) := goodIn_app (goodIn_of _ (by decide +kernel)) ggX12_takes_X12_next
set_option maxRecDepth 20000 in
theorem ggX12_takes_X12_in : GoodIn wsX12_takes wsX12_in := goodIn_r _ [26] (by decide +kernel) (by decide +kernel)
set_option maxRecDepth 20000 in
theorem gX12_takes_X12_in : GoodIn wsX12_takes (va_wsS RX12 72 yX12_in wsX12_in) := goodIn_app (goodIn_of _ (by decide +kernel)) ggX12_takes_X12_in
theorem dX12_takes_0 : decode cX12_takes 0 = .ok (.aload_n 0, 1) := by decide +kernel
theorem dX12_takes_1 : decode cX12_takes 1 = .ok (.invokevirtual 115, 3) := by decide +kernel
theorem dX12_takes_4 : decode cX12_takes 4 = .ok (.aload_n 0, 1) := by decide +kernel
theorem dX12_takes_5 : decode cX12_takes 5 = .ok (.getfield 100, 3) := by decide +kernel
theorem dX12_takes_8 : decode cX12_takes 8 = .ok (.iconst 2, 1) := by decide +kernel
theorem dX12_takes_9 : decode cX12_takes 9 = .ok (.if_icmp .ne 21, 3) := by decide +kernel
theorem dX12_takes_12 : decode cX12_takes 12 = .ok (.aload_n 0, 1) := by decide +kernel
theorem dX12_takes_13 : decode cX12_takes 13 = .ok (.getfield 89, 3) := by decide +kernel
theorem dX12_takes_16 : decode cX12_takes 16 = .ok (.iload_n 1, 1) := by decide +kernel
theorem dX12_takes_17 : decode cX12_takes 17 = .ok (.i2l, 1) := by decide +kernel
theorem dX12_takes_18 : decode cX12_takes 18 = .ok (.iload_n 2, 1) := by decide +kernel
theorem dX12_takes_19 : decode cX12_takes 19 = .ok (.i2l, 1) := by decide +kernel
theorem dX12_takes_20 : decode cX12_takes 20 = .ok (.invokestatic 72, 3) := by decide +kernel
theorem dX12_takes_23 : decode cX12_takes 23 = .ok (.ifCond .eq 7, 3) := by decide +kernel
theorem dX12_takes_26 : decode cX12_takes 26 = .ok (.iconst 1, 1) := by decide +kernel
theorem dX12_takes_27 : decode cX12_takes 27 = .ok (.goto 4, 3) := by decide +kernel
theorem dX12_takes_30 : decode cX12_takes 30 = .ok (.iconst 0, 1) := by decide +kernel
theorem dX12_takes_31 : decode cX12_takes 31 = .ok (.ireturn, 1) := by decide +kernel
set_option maxRecDepth 20000 in
theorem ggX12_stops_X12_next : GoodIn wsX12_stops wsX12_next := goodIn_r _ [6, 7, 8, 9, 10, 11, 1, 12, 13, 14, 15, 16, 17, 18, 19, 5, 20, 21, 22, 23, 24, 25, 26, 27, 28, 29, 30, 31, 32, 33, 34, 35, 36, 37, 38, 39, 40, 41, 42, 43, 44, 45, 46, 47, 48, 49, 50, 51, 52, 53, 54, 55, 56, 57, 58, 59, 60, 61] (by decide +kernel) (by decide +kernel)
set_option maxRecDepth 20000 in
theorem gX12_stops_X12_next : GoodIn wsX12_stops (wsV RX12 115 RX12 yX12_next wsX12_next) := goodIn_app (goodIn_of _ (by decide +kernel)) ggX12_stops_X12_next
theorem dX12_stops_0 : decode cX12_stops 0 = .ok (.aload_n 0, 1) := by decide +kernel
theorem dX12_stops_1 : decode cX12_stops 1 = .ok (.invokevirtual 115, 3) := by decide +kernel
theorem dX12_stops_4 : decode cX12_stops 4 = .ok (.aload_n 0, 1) := by decide +kernel
theorem dX12_stops_5 : decode cX12_stops 5 = .ok (.getfield 100, 3) := by decide +kernel
theorem dX12_stops_8 : decode cX12_stops 8 = .ok (.iconst 3, 1) := by decide +kernel
theorem dX12_stops_9 : decode cX12_stops 9 = .ok (.if_icmp .ne 7, 3) := by decide +kernel
theorem dX12_stops_12 : decode cX12_stops 12 = .ok (.iconst 1, 1) := by decide +kernel
theorem dX12_stops_13 : decode cX12_stops 13 = .ok (.goto 4, 3) := by decide +kernel
theorem dX12_stops_16 : decode cX12_stops 16 = .ok (.iconst 0, 1) := by decide +kernel
theorem dX12_stops_17 : decode cX12_stops 17 = .ok (.ireturn, 1) := by decide +kernel
set_option maxRecDepth 20000 in
theorem ggX12_takesTerrace_X12_takes : GoodIn wsX12_takesTerrace wsX12_takes := goodIn_r _ [8, 9, 3, 10, 11, 12, 7, 13, 14, 15, 16, 17, 18, 19, 20, 21, 22, 23, 24, 25, 26, 27, 28, 29, 30, 31, 32, 37, 38, 39, 40, 41, 42, 43, 44, 45, 46, 47, 48, 49, 50, 51, 52, 53, 54, 55, 56, 57, 58, 59, 60, 61, 62, 63, 64, 65, 66, 67, 68, 69, 70, 71, 72, 73, 74] (by decide +kernel) (by decide +kernel)
set_option maxRecDepth 20000 in
theorem gX12_takesTerrace_X12_takes : GoodIn wsX12_takesTerrace (wsV RX12 121 RX12 yX12_takes wsX12_takes) := goodIn_app (goodIn_of _ (by decide +kernel)) ggX12_takesTerrace_X12_takes
set_option maxRecDepth 20000 in
theorem ggX12_takesTerrace_X12_stops : GoodIn wsX12_takesTerrace wsX12_stops := goodIn_r _ [36, 9, 10, 11, 12, 7, 13, 14, 15, 16, 17, 3, 18, 19, 20, 21, 22, 23, 24, 25, 26, 27, 28, 29, 37, 38, 39, 40, 41, 42, 43, 44, 45, 46, 47, 48, 49, 50, 51, 52, 53, 54, 55, 56, 57, 58, 59, 60, 61, 62, 63, 64, 65, 66, 67, 68, 69, 70, 71, 72, 73, 74] (by decide +kernel) (by decide +kernel)
set_option maxRecDepth 20000 in
theorem gX12_takesTerrace_X12_stops : GoodIn wsX12_takesTerrace (wsV RX12 125 RX12 yX12_stops wsX12_stops) := goodIn_app (goodIn_of _ (by decide +kernel)) ggX12_takesTerrace_X12_stops
theorem dX12_takesTerrace_0 : decode cX12_takesTerrace 0 = .ok (.iconst 3, 1) := by decide +kernel
theorem dX12_takesTerrace_1 : decode cX12_takesTerrace 1 = .ok (.aload_n 0, 1) := by decide +kernel
theorem dX12_takesTerrace_2 : decode cX12_takesTerrace 2 = .ok (.getfield 118, 3) := by decide +kernel
theorem dX12_takesTerrace_5 : decode cX12_takesTerrace 5 = .ok (.imul, 1) := by decide +kernel
theorem dX12_takesTerrace_6 : decode cX12_takesTerrace 6 = .ok (.istore_n 1, 1) := by decide +kernel
theorem dX12_takesTerrace_7 : decode cX12_takesTerrace 7 = .ok (.aload_n 0, 1) := by decide +kernel
theorem dX12_takesTerrace_8 : decode cX12_takesTerrace 8 = .ok (.getfield 118, 3) := by decide +kernel
theorem dX12_takesTerrace_11 : decode cX12_takesTerrace 11 = .ok (.bipush 6, 2) := by decide +kernel
theorem dX12_takesTerrace_13 : decode cX12_takesTerrace 13 = .ok (.if_icmp .eq 13, 3) := by decide +kernel
theorem dX12_takesTerrace_16 : decode cX12_takesTerrace 16 = .ok (.aload_n 0, 1) := by decide +kernel
theorem dX12_takesTerrace_17 : decode cX12_takesTerrace 17 = .ok (.iconst 0, 1) := by decide +kernel
theorem dX12_takesTerrace_18 : decode cX12_takesTerrace 18 = .ok (.bipush 30, 2) := by decide +kernel
theorem dX12_takesTerrace_20 : decode cX12_takesTerrace 20 = .ok (.invokevirtual 121, 3) := by decide +kernel
theorem dX12_takesTerrace_23 : decode cX12_takesTerrace 23 = .ok (.ifCond .ne 5, 3) := by decide +kernel
theorem dX12_takesTerrace_26 : decode cX12_takesTerrace 26 = .ok (.iconst 0, 1) := by decide +kernel
theorem dX12_takesTerrace_27 : decode cX12_takesTerrace 27 = .ok (.ireturn, 1) := by decide +kernel
theorem dX12_takesTerrace_28 : decode cX12_takesTerrace 28 = .ok (.aload_n 0, 1) := by decide +kernel
theorem dX12_takesTerrace_29 : decode cX12_takesTerrace 29 = .ok (.getfield 47, 3) := by decide +kernel
theorem dX12_takesTerrace_32 : decode cX12_takesTerrace 32 = .ok (.iload_n 1, 1) := by decide +kernel
theorem dX12_takesTerrace_33 : decode cX12_takesTerrace 33 = .ok (.aload_n 0, 1) := by decide +kernel
theorem dX12_takesTerrace_34 : decode cX12_takesTerrace 34 = .ok (.getfield 89, 3) := by decide +kernel
theorem dX12_takesTerrace_37 : decode cX12_takesTerrace 37 = .ok (.l2i, 1) := by decide +kernel
theorem dX12_takesTerrace_38 : decode cX12_takesTerrace 38 = .ok (.iastore, 1) := by decide +kernel
theorem dX12_takesTerrace_39 : decode cX12_takesTerrace 39 = .ok (.aload_n 0, 1) := by decide +kernel
theorem dX12_takesTerrace_40 : decode cX12_takesTerrace 40 = .ok (.iconst 0, 1) := by decide +kernel
theorem dX12_takesTerrace_41 : decode cX12_takesTerrace 41 = .ok (.bipush 9, 2) := by decide +kernel
theorem dX12_takesTerrace_43 : decode cX12_takesTerrace 43 = .ok (.invokevirtual 121, 3) := by decide +kernel
theorem dX12_takesTerrace_46 : decode cX12_takesTerrace 46 = .ok (.ifCond .ne 5, 3) := by decide +kernel
theorem dX12_takesTerrace_49 : decode cX12_takesTerrace 49 = .ok (.iconst 0, 1) := by decide +kernel
theorem dX12_takesTerrace_50 : decode cX12_takesTerrace 50 = .ok (.ireturn, 1) := by decide +kernel
theorem dX12_takesTerrace_51 : decode cX12_takesTerrace 51 = .ok (.aload_n 0, 1) := by decide +kernel
theorem dX12_takesTerrace_52 : decode cX12_takesTerrace 52 = .ok (.getfield 47, 3) := by decide +kernel
theorem dX12_takesTerrace_55 : decode cX12_takesTerrace 55 = .ok (.iload_n 1, 1) := by decide +kernel
theorem dX12_takesTerrace_56 : decode cX12_takesTerrace 56 = .ok (.iconst 1, 1) := by decide +kernel
theorem dX12_takesTerrace_57 : decode cX12_takesTerrace 57 = .ok (.iadd, 1) := by decide +kernel
theorem dX12_takesTerrace_58 : decode cX12_takesTerrace 58 = .ok (.aload_n 0, 1) := by decide +kernel
theorem dX12_takesTerrace_59 : decode cX12_takesTerrace 59 = .ok (.getfield 89, 3) := by decide +kernel
theorem dX12_takesTerrace_62 : decode cX12_takesTerrace 62 = .ok (.l2i, 1) := by decide +kernel
theorem dX12_takesTerrace_63 : decode cX12_takesTerrace 63 = .ok (.iastore, 1) := by decide +kernel
theorem dX12_takesTerrace_64 : decode cX12_takesTerrace 64 = .ok (.aload_n 0, 1) := by decide +kernel
theorem dX12_takesTerrace_65 : decode cX12_takesTerrace 65 = .ok (.iconst 0, 1) := by decide +kernel
theorem dX12_takesTerrace_66 : decode cX12_takesTerrace 66 = .ok (.iconst 3, 1) := by decide +kernel
theorem dX12_takesTerrace_67 : decode cX12_takesTerrace 67 = .ok (.invokevirtual 121, 3) := by decide +kernel
theorem dX12_takesTerrace_70 : decode cX12_takesTerrace 70 = .ok (.ifCond .ne 5, 3) := by decide +kernel
theorem dX12_takesTerrace_73 : decode cX12_takesTerrace 73 = .ok (.iconst 0, 1) := by decide +kernel
theorem dX12_takesTerrace_74 : decode cX12_takesTerrace 74 = .ok (.ireturn, 1) := by decide +kernel
theorem dX12_takesTerrace_75 : decode cX12_takesTerrace 75 = .ok (.aload_n 0, 1) := by decide +kernel
theorem dX12_takesTerrace_76 : decode cX12_takesTerrace 76 = .ok (.getfield 47, 3) := by decide +kernel
theorem dX12_takesTerrace_79 : decode cX12_takesTerrace 79 = .ok (.iload_n 1, 1) := by decide +kernel
theorem dX12_takesTerrace_80 : decode cX12_takesTerrace 80 = .ok (.iconst 2, 1) := by decide +kernel
theorem dX12_takesTerrace_81 : decode cX12_takesTerrace 81 = .ok (.iadd, 1) := by decide +kernel
theorem dX12_takesTerrace_82 : decode cX12_takesTerrace 82 = .ok (.aload_n 0, 1) := by decide +kernel
theorem dX12_takesTerrace_83 : decode cX12_takesTerrace 83 = .ok (.getfield 89, 3) := by decide +kernel
theorem dX12_takesTerrace_86 : decode cX12_takesTerrace 86 = .ok (.l2i, 1) := by decide +kernel
theorem dX12_takesTerrace_87 : decode cX12_takesTerrace 87 = .ok (.iastore, 1) := by decide +kernel
theorem dX12_takesTerrace_88 : decode cX12_takesTerrace 88 = .ok (.aload_n 0, 1) := by decide +kernel
theorem dX12_takesTerrace_89 : decode cX12_takesTerrace 89 = .ok (.dup, 1) := by decide +kernel
theorem dX12_takesTerrace_90 : decode cX12_takesTerrace 90 = .ok (.getfield 118, 3) := by decide +kernel
theorem dX12_takesTerrace_93 : decode cX12_takesTerrace 93 = .ok (.iconst 1, 1) := by decide +kernel
theorem dX12_takesTerrace_94 : decode cX12_takesTerrace 94 = .ok (.iadd, 1) := by decide +kernel
theorem dX12_takesTerrace_95 : decode cX12_takesTerrace 95 = .ok (.putfield 118, 3) := by decide +kernel
theorem dX12_takesTerrace_98 : decode cX12_takesTerrace 98 = .ok (.aload_n 0, 1) := by decide +kernel
theorem dX12_takesTerrace_99 : decode cX12_takesTerrace 99 = .ok (.invokevirtual 125, 3) := by decide +kernel
theorem dX12_takesTerrace_102 : decode cX12_takesTerrace 102 = .ok (.ireturn, 1) := by decide +kernel
set_option maxRecDepth 20000 in
theorem ggX12_takesDrip_X12_takes : GoodIn wsX12_takesDrip wsX12_takes := goodIn_r _ [8, 9, 1, 10, 11, 12, 7, 13, 14, 15, 16, 17, 18, 19, 20, 21, 22, 23, 24, 25, 26, 27, 28, 29, 30, 31, 32, 37, 38, 39, 40, 41, 42, 43, 44, 45, 46, 47, 48, 49, 50, 51, 52, 53, 54, 55, 56, 57, 58, 59, 60, 61, 62, 63, 64, 65, 66, 67, 68, 69, 70, 71, 72, 73, 74] (by decide +kernel) (by decide +kernel)
set_option maxRecDepth 20000 in
theorem gX12_takesDrip_X12_takes : GoodIn wsX12_takesDrip (wsV RX12 121 RX12 yX12_takes wsX12_takes) := goodIn_app (goodIn_of _ (by decide +kernel)) ggX12_takesDrip_X12_takes
set_option maxRecDepth 20000 in
theorem ggX12_takesDrip_X12_stops : GoodIn wsX12_takesDrip wsX12_stops := goodIn_r _ [36, 9, 10, 11, 12, 7, 13, 14, 15, 16, 17, 1, 18, 19, 20, 21, 22, 23, 24, 25, 26, 27, 28, 29, 37, 38, 39, 40, 41, 42, 43, 44, 45, 46, 47, 48, 49, 50, 51, 52, 53, 54, 55, 56, 57, 58, 59, 60, 61, 62, 63, 64, 65, 66, 67, 68, 69, 70, 71, 72, 73, 74] (by decide +kernel) (by decide +kernel)
set_option maxRecDepth 20000 in
theorem gX12_takesDrip_X12_stops : GoodIn wsX12_takesDrip (wsV RX12 125 RX12 yX12_stops wsX12_stops) := goodIn_app (goodIn_of _ (by decide +kernel)) ggX12_takesDrip_X12_stops
theorem dX12_takesDrip_0 : decode cX12_takesDrip 0 = .ok (.aload_n 0, 1) := by decide +kernel
theorem dX12_takesDrip_1 : decode cX12_takesDrip 1 = .ok (.iconst 0, 1) := by decide +kernel
theorem dX12_takesDrip_2 : decode cX12_takesDrip 2 = .ok (.bipush 30, 2) := by decide +kernel
theorem dX12_takesDrip_4 : decode cX12_takesDrip 4 = .ok (.invokevirtual 121, 3) := by decide +kernel
theorem dX12_takesDrip_7 : decode cX12_takesDrip 7 = .ok (.ifCond .ne 5, 3) := by decide +kernel
theorem dX12_takesDrip_10 : decode cX12_takesDrip 10 = .ok (.iconst 0, 1) := by decide +kernel
theorem dX12_takesDrip_11 : decode cX12_takesDrip 11 = .ok (.ireturn, 1) := by decide +kernel
theorem dX12_takesDrip_12 : decode cX12_takesDrip 12 = .ok (.aload_n 0, 1) := by decide +kernel
theorem dX12_takesDrip_13 : decode cX12_takesDrip 13 = .ok (.getfield 89, 3) := by decide +kernel
theorem dX12_takesDrip_16 : decode cX12_takesDrip 16 = .ok (.l2i, 1) := by decide +kernel
theorem dX12_takesDrip_17 : decode cX12_takesDrip 17 = .ok (.istore_n 1, 1) := by decide +kernel
theorem dX12_takesDrip_18 : decode cX12_takesDrip 18 = .ok (.aload_n 0, 1) := by decide +kernel
theorem dX12_takesDrip_19 : decode cX12_takesDrip 19 = .ok (.iconst 1, 1) := by decide +kernel
theorem dX12_takesDrip_20 : decode cX12_takesDrip 20 = .ok (.bipush 20, 2) := by decide +kernel
theorem dX12_takesDrip_22 : decode cX12_takesDrip 22 = .ok (.aload_n 0, 1) := by decide +kernel
theorem dX12_takesDrip_23 : decode cX12_takesDrip 23 = .ok (.getfield 129, 3) := by decide +kernel
theorem dX12_takesDrip_26 : decode cX12_takesDrip 26 = .ok (.isub, 1) := by decide +kernel
theorem dX12_takesDrip_27 : decode cX12_takesDrip 27 = .ok (.invokevirtual 121, 3) := by decide +kernel
theorem dX12_takesDrip_30 : decode cX12_takesDrip 30 = .ok (.ifCond .ne 5, 3) := by decide +kernel
theorem dX12_takesDrip_33 : decode cX12_takesDrip 33 = .ok (.iconst 0, 1) := by decide +kernel
theorem dX12_takesDrip_34 : decode cX12_takesDrip 34 = .ok (.ireturn, 1) := by decide +kernel
theorem dX12_takesDrip_35 : decode cX12_takesDrip 35 = .ok (.iconst 0, 1) := by decide +kernel
theorem dX12_takesDrip_36 : decode cX12_takesDrip 36 = .ok (.istore_n 2, 1) := by decide +kernel
theorem dX12_takesDrip_37 : decode cX12_takesDrip 37 = .ok (.iload_n 2, 1) := by decide +kernel
theorem dX12_takesDrip_38 : decode cX12_takesDrip 38 = .ok (.i2l, 1) := by decide +kernel
theorem dX12_takesDrip_39 : decode cX12_takesDrip 39 = .ok (.aload_n 0, 1) := by decide +kernel
theorem dX12_takesDrip_40 : decode cX12_takesDrip 40 = .ok (.getfield 89, 3) := by decide +kernel
theorem dX12_takesDrip_43 : decode cX12_takesDrip 43 = .ok (.lcmp, 1) := by decide +kernel
theorem dX12_takesDrip_44 : decode cX12_takesDrip 44 = .ok (.ifCond .ge 29, 3) := by decide +kernel
theorem dX12_takesDrip_47 : decode cX12_takesDrip 47 = .ok (.aload_n 0, 1) := by decide +kernel
theorem dX12_takesDrip_48 : decode cX12_takesDrip 48 = .ok (.getfield 50, 3) := by decide +kernel
theorem dX12_takesDrip_51 : decode cX12_takesDrip 51 = .ok (.aload_n 0, 1) := by decide +kernel
theorem dX12_takesDrip_52 : decode cX12_takesDrip 52 = .ok (.getfield 129, 3) := by decide +kernel
theorem dX12_takesDrip_55 : decode cX12_takesDrip 55 = .ok (.iload_n 1, 1) := by decide +kernel
theorem dX12_takesDrip_56 : decode cX12_takesDrip 56 = .ok (.iastore, 1) := by decide +kernel
theorem dX12_takesDrip_57 : decode cX12_takesDrip 57 = .ok (.aload_n 0, 1) := by decide +kernel
theorem dX12_takesDrip_58 : decode cX12_takesDrip 58 = .ok (.dup, 1) := by decide +kernel
theorem dX12_takesDrip_59 : decode cX12_takesDrip 59 = .ok (.getfield 129, 3) := by decide +kernel
theorem dX12_takesDrip_62 : decode cX12_takesDrip 62 = .ok (.iconst 1, 1) := by decide +kernel
theorem dX12_takesDrip_63 : decode cX12_takesDrip 63 = .ok (.iadd, 1) := by decide +kernel
theorem dX12_takesDrip_64 : decode cX12_takesDrip 64 = .ok (.putfield 129, 3) := by decide +kernel
theorem dX12_takesDrip_67 : decode cX12_takesDrip 67 = .ok (.iinc 2 1, 3) := by decide +kernel
theorem dX12_takesDrip_70 : decode cX12_takesDrip 70 = .ok (.goto (-33), 3) := by decide +kernel
theorem dX12_takesDrip_73 : decode cX12_takesDrip 73 = .ok (.aload_n 0, 1) := by decide +kernel
theorem dX12_takesDrip_74 : decode cX12_takesDrip 74 = .ok (.invokevirtual 125, 3) := by decide +kernel
theorem dX12_takesDrip_77 : decode cX12_takesDrip 77 = .ok (.ireturn, 1) := by decide +kernel
set_option maxRecDepth 20000 in
theorem ggX12_takesSong_X12_takes : GoodIn wsX12_takesSong wsX12_takes := goodIn_r _ [10, 5, 4, 11, 12, 13, 9, 14, 15, 16, 17, 18, 19, 20, 21, 22, 23, 24, 25, 26, 27, 28, 29, 30, 31, 32, 33, 34, 35, 36, 37, 38, 39, 40, 41, 42, 43, 44, 45, 46, 47, 48, 49, 50, 51, 52, 53, 54, 55, 56, 57, 58, 59, 60, 61, 62, 63, 64, 65, 66, 67, 68, 69, 70, 71] (by decide +kernel) (by decide +kernel)
set_option maxRecDepth 20000 in
theorem gX12_takesSong_X12_takes : GoodIn wsX12_takesSong (wsV RX12 121 RX12 yX12_takes wsX12_takes) := goodIn_app (goodIn_of _ (by decide +kernel)) ggX12_takesSong_X12_takes
set_option maxRecDepth 20000 in
theorem ggX12_takesSong_X12_next : GoodIn wsX12_takesSong wsX12_next := goodIn_r _ [14, 15, 16, 17, 18, 4, 5, 19, 20, 21, 22, 23, 24, 25, 26, 9, 27, 28, 29, 30, 34, 35, 36, 37, 38, 39, 40, 41, 42, 43, 44, 45, 46, 47, 48, 49, 50, 51, 52, 53, 54, 55, 56, 57, 58, 59, 60, 61, 62, 63, 64, 65, 66, 67, 68, 69, 70, 71] (by decide +kernel) (by decide +kernel)
set_option maxRecDepth 20000 in
theorem gX12_takesSong_X12_next : GoodIn wsX12_takesSong (wsV RX12 115 RX12 yX12_next wsX12_next) := goodIn_app (goodIn_of _ (by decide +kernel)) ggX12_takesSong_X12_next
set_option maxRecDepth 20000 in
theorem ggX12_takesSong_X12_in : GoodIn wsX12_takesSong wsX12_in := goodIn_r _ [33] (by decide +kernel) (by decide +kernel)
set_option maxRecDepth 20000 in
theorem gX12_takesSong_X12_in : GoodIn wsX12_takesSong (va_wsS RX12 72 yX12_in wsX12_in) := goodIn_app (goodIn_of _ (by decide +kernel)) ggX12_takesSong_X12_in
theorem dX12_takesSong_0 : decode cX12_takesSong 0 = .ok (.aload_n 0, 1) := by decide +kernel
theorem dX12_takesSong_1 : decode cX12_takesSong 1 = .ok (.getfield 132, 3) := by decide +kernel
theorem dX12_takesSong_4 : decode cX12_takesSong 4 = .ok (.ifCond .gt 17, 3) := by decide +kernel
theorem dX12_takesSong_7 : decode cX12_takesSong 7 = .ok (.aload_n 0, 1) := by decide +kernel
theorem dX12_takesSong_8 : decode cX12_takesSong 8 = .ok (.iconst 0, 1) := by decide +kernel
theorem dX12_takesSong_9 : decode cX12_takesSong 9 = .ok (.aload_n 0, 1) := by decide +kernel
theorem dX12_takesSong_10 : decode cX12_takesSong 10 = .ok (.getfield 118, 3) := by decide +kernel
theorem dX12_takesSong_13 : decode cX12_takesSong 13 = .ok (.iconst 1, 1) := by decide +kernel
theorem dX12_takesSong_14 : decode cX12_takesSong 14 = .ok (.isub, 1) := by decide +kernel
theorem dX12_takesSong_15 : decode cX12_takesSong 15 = .ok (.invokevirtual 121, 3) := by decide +kernel
theorem dX12_takesSong_18 : decode cX12_takesSong 18 = .ok (.ifCond .ne 5, 3) := by decide +kernel
theorem dX12_takesSong_21 : decode cX12_takesSong 21 = .ok (.iconst 0, 1) := by decide +kernel
theorem dX12_takesSong_22 : decode cX12_takesSong 22 = .ok (.ireturn, 1) := by decide +kernel
theorem dX12_takesSong_23 : decode cX12_takesSong 23 = .ok (.iconst 1, 1) := by decide +kernel
theorem dX12_takesSong_24 : decode cX12_takesSong 24 = .ok (.istore_n 1, 1) := by decide +kernel
theorem dX12_takesSong_25 : decode cX12_takesSong 25 = .ok (.iload_n 1, 1) := by decide +kernel
theorem dX12_takesSong_26 : decode cX12_takesSong 26 = .ok (.ifCond .eq 75, 3) := by decide +kernel
theorem dX12_takesSong_29 : decode cX12_takesSong 29 = .ok (.aload_n 0, 1) := by decide +kernel
theorem dX12_takesSong_30 : decode cX12_takesSong 30 = .ok (.getfield 53, 3) := by decide +kernel
theorem dX12_takesSong_33 : decode cX12_takesSong 33 = .ok (.aload_n 0, 1) := by decide +kernel
theorem dX12_takesSong_34 : decode cX12_takesSong 34 = .ok (.getfield 132, 3) := by decide +kernel
theorem dX12_takesSong_37 : decode cX12_takesSong 37 = .ok (.aload_n 0, 1) := by decide +kernel
theorem dX12_takesSong_38 : decode cX12_takesSong 38 = .ok (.getfield 89, 3) := by decide +kernel
theorem dX12_takesSong_41 : decode cX12_takesSong 41 = .ok (.l2i, 1) := by decide +kernel
theorem dX12_takesSong_42 : decode cX12_takesSong 42 = .ok (.iastore, 1) := by decide +kernel
theorem dX12_takesSong_43 : decode cX12_takesSong 43 = .ok (.aload_n 0, 1) := by decide +kernel
theorem dX12_takesSong_44 : decode cX12_takesSong 44 = .ok (.dup, 1) := by decide +kernel
theorem dX12_takesSong_45 : decode cX12_takesSong 45 = .ok (.getfield 132, 3) := by decide +kernel
theorem dX12_takesSong_48 : decode cX12_takesSong 48 = .ok (.iconst 1, 1) := by decide +kernel
theorem dX12_takesSong_49 : decode cX12_takesSong 49 = .ok (.iadd, 1) := by decide +kernel
theorem dX12_takesSong_50 : decode cX12_takesSong 50 = .ok (.putfield 132, 3) := by decide +kernel
theorem dX12_takesSong_53 : decode cX12_takesSong 53 = .ok (.aload_n 0, 1) := by decide +kernel
theorem dX12_takesSong_54 : decode cX12_takesSong 54 = .ok (.invokevirtual 115, 3) := by decide +kernel
theorem dX12_takesSong_57 : decode cX12_takesSong 57 = .ok (.aload_n 0, 1) := by decide +kernel
theorem dX12_takesSong_58 : decode cX12_takesSong 58 = .ok (.getfield 100, 3) := by decide +kernel
theorem dX12_takesSong_61 : decode cX12_takesSong 61 = .ok (.iconst 2, 1) := by decide +kernel
theorem dX12_takesSong_62 : decode cX12_takesSong 62 = .ok (.if_icmp .ne 34, 3) := by decide +kernel
theorem dX12_takesSong_65 : decode cX12_takesSong 65 = .ok (.aload_n 0, 1) := by decide +kernel
theorem dX12_takesSong_66 : decode cX12_takesSong 66 = .ok (.getfield 89, 3) := by decide +kernel
theorem dX12_takesSong_69 : decode cX12_takesSong 69 = .ok (.lconst 0, 1) := by decide +kernel
theorem dX12_takesSong_70 : decode cX12_takesSong 70 = .ok (.aload_n 0, 1) := by decide +kernel
theorem dX12_takesSong_71 : decode cX12_takesSong 71 = .ok (.getfield 118, 3) := by decide +kernel
theorem dX12_takesSong_74 : decode cX12_takesSong 74 = .ok (.iconst 1, 1) := by decide +kernel
theorem dX12_takesSong_75 : decode cX12_takesSong 75 = .ok (.isub, 1) := by decide +kernel
theorem dX12_takesSong_76 : decode cX12_takesSong 76 = .ok (.i2l, 1) := by decide +kernel
theorem dX12_takesSong_77 : decode cX12_takesSong 77 = .ok (.invokestatic 72, 3) := by decide +kernel
theorem dX12_takesSong_80 : decode cX12_takesSong 80 = .ok (.ifCond .eq 16, 3) := by decide +kernel
theorem dX12_takesSong_83 : decode cX12_takesSong 83 = .ok (.aload_n 0, 1) := by decide +kernel
theorem dX12_takesSong_84 : decode cX12_takesSong 84 = .ok (.getfield 132, 3) := by decide +kernel
theorem dX12_takesSong_87 : decode cX12_takesSong 87 = .ok (.bipush 8, 2) := by decide +kernel
theorem dX12_takesSong_89 : decode cX12_takesSong 89 = .ok (.if_icmp .ge 7, 3) := by decide +kernel
theorem dX12_takesSong_92 : decode cX12_takesSong 92 = .ok (.iconst 1, 1) := by decide +kernel
theorem dX12_takesSong_93 : decode cX12_takesSong 93 = .ok (.goto 4, 3) := by decide +kernel
theorem dX12_takesSong_96 : decode cX12_takesSong 96 = .ok (.iconst 0, 1) := by decide +kernel
theorem dX12_takesSong_97 : decode cX12_takesSong 97 = .ok (.istore_n 1, 1) := by decide +kernel
theorem dX12_takesSong_98 : decode cX12_takesSong 98 = .ok (.goto (-73), 3) := by decide +kernel
theorem dX12_takesSong_101 : decode cX12_takesSong 101 = .ok (.aload_n 0, 1) := by decide +kernel
theorem dX12_takesSong_102 : decode cX12_takesSong 102 = .ok (.getfield 100, 3) := by decide +kernel
theorem dX12_takesSong_105 : decode cX12_takesSong 105 = .ok (.iconst 3, 1) := by decide +kernel
theorem dX12_takesSong_106 : decode cX12_takesSong 106 = .ok (.if_icmp .ne 7, 3) := by decide +kernel
theorem dX12_takesSong_109 : decode cX12_takesSong 109 = .ok (.iconst 1, 1) := by decide +kernel
theorem dX12_takesSong_110 : decode cX12_takesSong 110 = .ok (.goto 4, 3) := by decide +kernel
theorem dX12_takesSong_113 : decode cX12_takesSong 113 = .ok (.iconst 0, 1) := by decide +kernel
theorem dX12_takesSong_114 : decode cX12_takesSong 114 = .ok (.ireturn, 1) := by decide +kernel
set_option maxRecDepth 20000 in
theorem ggX12_takesLaw_X12_takes : GoodIn wsX12_takesLaw wsX12_takes := goodIn_r _ [7, 8, 2, 9, 10, 11, 6, 12, 13, 14, 15, 16, 17, 18, 19, 20, 21, 22, 23, 24, 25, 26, 27, 28, 29, 30, 31, 36, 37, 38, 39, 40, 41, 42, 43, 44, 45, 46, 47, 48, 49, 50, 51, 52, 53, 54, 55, 56, 57, 58, 59, 60, 61, 62, 63, 64, 65, 66, 67, 68, 69, 70, 71, 72, 73] (by decide +kernel) (by decide +kernel)
set_option maxRecDepth 20000 in
theorem gX12_takesLaw_X12_takes : GoodIn wsX12_takesLaw (wsV RX12 121 RX12 yX12_takes wsX12_takes) := goodIn_app (goodIn_of _ (by decide +kernel)) ggX12_takesLaw_X12_takes
set_option maxRecDepth 20000 in
theorem ggX12_takesLaw_X12_stops : GoodIn wsX12_takesLaw wsX12_stops := goodIn_r _ [35, 8, 9, 10, 11, 6, 12, 13, 14, 15, 16, 2, 17, 18, 19, 20, 21, 22, 23, 24, 25, 26, 27, 28, 36, 37, 38, 39, 40, 41, 42, 43, 44, 45, 46, 47, 48, 49, 50, 51, 52, 53, 54, 55, 56, 57, 58, 59, 60, 61, 62, 63, 64, 65, 66, 67, 68, 69, 70, 71, 72, 73] (by decide +kernel) (by decide +kernel)
set_option maxRecDepth 20000 in
theorem gX12_takesLaw_X12_stops : GoodIn wsX12_takesLaw (wsV RX12 125 RX12 yX12_stops wsX12_stops) := goodIn_app (goodIn_of _ (by decide +kernel)) ggX12_takesLaw_X12_stops
theorem dX12_takesLaw_0 : decode cX12_takesLaw 0 = .ok (.aload_n 0, 1) := by decide +kernel
theorem dX12_takesLaw_1 : decode cX12_takesLaw 1 = .ok (.getfield 135, 3) := by decide +kernel
theorem dX12_takesLaw_4 : decode cX12_takesLaw 4 = .ok (.ifCond .ge 12, 3) := by decide +kernel
theorem dX12_takesLaw_7 : decode cX12_takesLaw 7 = .ok (.aload_n 0, 1) := by decide +kernel
theorem dX12_takesLaw_8 : decode cX12_takesLaw 8 = .ok (.iconst 0, 1) := by decide +kernel
theorem dX12_takesLaw_9 : decode cX12_takesLaw 9 = .ok (.iconst 2, 1) := by decide +kernel
theorem dX12_takesLaw_10 : decode cX12_takesLaw 10 = .ok (.invokevirtual 121, 3) := by decide +kernel
theorem dX12_takesLaw_13 : decode cX12_takesLaw 13 = .ok (.ifCond .ne 5, 3) := by decide +kernel
theorem dX12_takesLaw_16 : decode cX12_takesLaw 16 = .ok (.iconst 0, 1) := by decide +kernel
theorem dX12_takesLaw_17 : decode cX12_takesLaw 17 = .ok (.ireturn, 1) := by decide +kernel
theorem dX12_takesLaw_18 : decode cX12_takesLaw 18 = .ok (.aload_n 0, 1) := by decide +kernel
theorem dX12_takesLaw_19 : decode cX12_takesLaw 19 = .ok (.aload_n 0, 1) := by decide +kernel
theorem dX12_takesLaw_20 : decode cX12_takesLaw 20 = .ok (.getfield 89, 3) := by decide +kernel
theorem dX12_takesLaw_23 : decode cX12_takesLaw 23 = .ok (.l2i, 1) := by decide +kernel
theorem dX12_takesLaw_24 : decode cX12_takesLaw 24 = .ok (.putfield 135, 3) := by decide +kernel
theorem dX12_takesLaw_27 : decode cX12_takesLaw 27 = .ok (.aload_n 0, 1) := by decide +kernel
theorem dX12_takesLaw_28 : decode cX12_takesLaw 28 = .ok (.invokevirtual 125, 3) := by decide +kernel
theorem dX12_takesLaw_31 : decode cX12_takesLaw 31 = .ok (.ireturn, 1) := by decide +kernel
set_option maxRecDepth 20000 in
theorem ggX12_takesSlip_X12_takes : GoodIn wsX12_takesSlip wsX12_takes := goodIn_r _ [7, 8, 2, 9, 10, 11, 6, 12, 13, 14, 15, 16, 17, 18, 19, 20, 21, 22, 23, 24, 25, 26, 27, 28, 29, 30, 31, 36, 37, 38, 39, 40, 41, 42, 43, 44, 45, 46, 47, 48, 49, 50, 51, 52, 53, 54, 55, 56, 57, 58, 59, 60, 61, 62, 63, 64, 65, 66, 67, 68, 69, 70, 71, 72, 73] (by decide +kernel) (by decide +kernel)
set_option maxRecDepth 20000 in
theorem gX12_takesSlip_X12_takes : GoodIn wsX12_takesSlip (wsV RX12 121 RX12 yX12_takes wsX12_takes) := goodIn_app (goodIn_of _ (by decide +kernel)) ggX12_takesSlip_X12_takes
set_option maxRecDepth 20000 in
theorem ggX12_takesSlip_X12_stops : GoodIn wsX12_takesSlip wsX12_stops := goodIn_r _ [35, 8, 9, 10, 11, 6, 12, 13, 14, 15, 16, 2, 17, 18, 19, 20, 21, 22, 23, 24, 25, 26, 27, 28, 36, 37, 38, 39, 40, 41, 42, 43, 44, 45, 46, 47, 48, 49, 50, 51, 52, 53, 54, 55, 56, 57, 58, 59, 60, 61, 62, 63, 64, 65, 66, 67, 68, 69, 70, 71, 72, 73] (by decide +kernel) (by decide +kernel)
set_option maxRecDepth 20000 in
theorem gX12_takesSlip_X12_stops : GoodIn wsX12_takesSlip (wsV RX12 125 RX12 yX12_stops wsX12_stops) := goodIn_app (goodIn_of _ (by decide +kernel)) ggX12_takesSlip_X12_stops
theorem dX12_takesSlip_0 : decode cX12_takesSlip 0 = .ok (.aload_n 0, 1) := by decide +kernel
theorem dX12_takesSlip_1 : decode cX12_takesSlip 1 = .ok (.getfield 138, 3) := by decide +kernel
theorem dX12_takesSlip_4 : decode cX12_takesSlip 4 = .ok (.ifCond .ge 13, 3) := by decide +kernel
theorem dX12_takesSlip_7 : decode cX12_takesSlip 7 = .ok (.aload_n 0, 1) := by decide +kernel
theorem dX12_takesSlip_8 : decode cX12_takesSlip 8 = .ok (.iconst 0, 1) := by decide +kernel
theorem dX12_takesSlip_9 : decode cX12_takesSlip 9 = .ok (.bipush 9, 2) := by decide +kernel
theorem dX12_takesSlip_11 : decode cX12_takesSlip 11 = .ok (.invokevirtual 121, 3) := by decide +kernel
theorem dX12_takesSlip_14 : decode cX12_takesSlip 14 = .ok (.ifCond .ne 5, 3) := by decide +kernel
theorem dX12_takesSlip_17 : decode cX12_takesSlip 17 = .ok (.iconst 0, 1) := by decide +kernel
theorem dX12_takesSlip_18 : decode cX12_takesSlip 18 = .ok (.ireturn, 1) := by decide +kernel
theorem dX12_takesSlip_19 : decode cX12_takesSlip 19 = .ok (.aload_n 0, 1) := by decide +kernel
theorem dX12_takesSlip_20 : decode cX12_takesSlip 20 = .ok (.aload_n 0, 1) := by decide +kernel
theorem dX12_takesSlip_21 : decode cX12_takesSlip 21 = .ok (.getfield 89, 3) := by decide +kernel
theorem dX12_takesSlip_24 : decode cX12_takesSlip 24 = .ok (.l2i, 1) := by decide +kernel
theorem dX12_takesSlip_25 : decode cX12_takesSlip 25 = .ok (.putfield 138, 3) := by decide +kernel
theorem dX12_takesSlip_28 : decode cX12_takesSlip 28 = .ok (.aload_n 0, 1) := by decide +kernel
theorem dX12_takesSlip_29 : decode cX12_takesSlip 29 = .ok (.invokevirtual 125, 3) := by decide +kernel
theorem dX12_takesSlip_32 : decode cX12_takesSlip 32 = .ok (.ireturn, 1) := by decide +kernel
set_option maxRecDepth 20000 in
theorem ggX12_takesAll_X12_next : GoodIn wsX12_takesAll wsX12_next := goodIn_r _ [18, 1, 19, 20, 21, 8, 7, 22, 23, 24, 25, 26, 27, 28, 29, 17, 30, 31, 32, 33, 68, 69, 70, 71, 72, 73, 74, 75, 76, 77, 78, 79, 80, 81, 82, 83, 84, 85, 86, 87, 88, 89, 90, 91, 92, 93, 94, 95, 96, 97, 98, 99, 100, 101, 102, 103, 104, 105] (by decide +kernel) (by decide +kernel)
set_option maxRecDepth 20000 in
theorem gX12_takesAll_X12_next : GoodIn wsX12_takesAll (wsV RX12 115 RX12 yX12_next wsX12_next) := goodIn_app (goodIn_of _ (by decide +kernel)) ggX12_takesAll_X12_next
set_option maxRecDepth 20000 in
theorem ggX12_takesAll_X12_takesTerrace : GoodIn wsX12_takesAll wsX12_takesTerrace := goodIn_r _ [37, 2, 38, 8, 39, 40, 41, 17, 42, 7, 14, 15, 16, 18, 1, 19, 20, 21, 22, 23, 24, 25, 26, 27, 28, 29, 30, 31, 32, 33, 43, 44, 45, 46, 47, 48, 49, 68, 69, 70, 71, 72, 73, 74, 75, 76, 77, 78, 79, 80, 81, 82, 83, 84, 85, 86, 87, 88, 89, 90, 91, 92, 93, 94, 95, 96, 97, 98, 99, 100, 101, 102, 103, 104, 105] (by decide +kernel) (by decide +kernel)
set_option maxRecDepth 20000 in
theorem gX12_takesAll_X12_takesTerrace : GoodIn wsX12_takesAll (wsV RX12 143 RX12 yX12_takesTerrace wsX12_takesTerrace) := goodIn_app (goodIn_of _ (by decide +kernel)) ggX12_takesAll_X12_takesTerrace
set_option maxRecDepth 20000 in
theorem ggX12_takesAll_X12_takesDrip : GoodIn wsX12_takesAll wsX12_takesDrip := goodIn_r _ [53, 8, 3, 54, 39, 40, 41, 17, 42, 7, 14, 15, 16, 18, 1, 19, 20, 21, 22, 23, 24, 25, 26, 27, 28, 29, 30, 31, 32, 33, 43, 44, 45, 46, 47, 48, 49, 68, 69, 70, 71, 72, 73, 74, 75, 76, 77, 78, 79, 80, 81, 82, 83, 84, 85, 86, 87, 88, 89, 90, 91, 92, 93, 94, 95, 96, 97, 98, 99, 100, 101, 102, 103, 104, 105] (by decide +kernel) (by decide +kernel)
set_option maxRecDepth 20000 in
theorem gX12_takesAll_X12_takesDrip : GoodIn wsX12_takesAll (wsV RX12 148 RX12 yX12_takesDrip wsX12_takesDrip) := goodIn_app (goodIn_of _ (by decide +kernel)) ggX12_takesAll_X12_takesDrip
set_option maxRecDepth 20000 in
theorem ggX12_takesAll_X12_takesLaw : GoodIn wsX12_takesAll wsX12_takesLaw := goodIn_r _ [58, 4, 8, 39, 40, 41, 17, 42, 7, 14, 15, 16, 18, 1, 19, 20, 21, 22, 23, 24, 25, 26, 27, 28, 29, 30, 31, 32, 33, 43, 44, 45, 46, 47, 48, 49, 68, 69, 70, 71, 72, 73, 74, 75, 76, 77, 78, 79, 80, 81, 82, 83, 84, 85, 86, 87, 88, 89, 90, 91, 92, 93, 94, 95, 96, 97, 98, 99, 100, 101, 102, 103, 104, 105] (by decide +kernel) (by decide +kernel)
set_option maxRecDepth 20000 in
theorem gX12_takesAll_X12_takesLaw : GoodIn wsX12_takesAll (wsV RX12 153 RX12 yX12_takesLaw wsX12_takesLaw) := goodIn_app (goodIn_of _ (by decide +kernel)) ggX12_takesAll_X12_takesLaw
set_option maxRecDepth 20000 in
theorem ggX12_takesAll_X12_takesSlip : GoodIn wsX12_takesAll wsX12_takesSlip := goodIn_r _ [62, 5, 8, 39, 40, 41, 17, 42, 7, 14, 15, 16, 18, 1, 19, 20, 21, 22, 23, 24, 25, 26, 27, 28, 29, 30, 31, 32, 33, 43, 44, 45, 46, 47, 48, 49, 68, 69, 70, 71, 72, 73, 74, 75, 76, 77, 78, 79, 80, 81, 82, 83, 84, 85, 86, 87, 88, 89, 90, 91, 92, 93, 94, 95, 96, 97, 98, 99, 100, 101, 102, 103, 104, 105] (by decide +kernel) (by decide +kernel)
set_option maxRecDepth 20000 in
theorem gX12_takesAll_X12_takesSlip : GoodIn wsX12_takesAll (wsV RX12 158 RX12 yX12_takesSlip wsX12_takesSlip) := goodIn_app (goodIn_of _ (by decide +kernel)) ggX12_takesAll_X12_takesSlip
set_option maxRecDepth 20000 in
theorem ggX12_takesAll_X12_takesSong : GoodIn wsX12_takesAll wsX12_takesSong := goodIn_r _ [66, 6, 2, 67, 8, 7, 39, 40, 41, 17, 42, 14, 15, 16, 18, 1, 19, 20, 21, 22, 23, 24, 25, 26, 27, 28, 29, 30, 31, 32, 33, 43, 44, 45, 68, 69, 70, 71, 72, 73, 74, 75, 76, 77, 78, 79, 80, 81, 82, 83, 84, 85, 86, 87, 88, 89, 90, 91, 92, 93, 94, 95, 96, 97, 98, 99, 100, 101, 102, 103, 104, 105] (by decide +kernel) (by decide +kernel)
set_option maxRecDepth 20000 in
theorem gX12_takesAll_X12_takesSong : GoodIn wsX12_takesAll (wsV RX12 163 RX12 yX12_takesSong wsX12_takesSong) := goodIn_app (goodIn_of _ (by decide +kernel)) ggX12_takesAll_X12_takesSong
theorem dX12_takesAll_0 : decode cX12_takesAll 0 = .ok (.aload_n 0, 1) := by decide +kernel
theorem dX12_takesAll_1 : decode cX12_takesAll 1 = .ok (.iconst 0, 1) := by decide +kernel
theorem dX12_takesAll_2 : decode cX12_takesAll 2 = .ok (.putfield 83, 3) := by decide +kernel
theorem dX12_takesAll_5 : decode cX12_takesAll 5 = .ok (.aload_n 0, 1) := by decide +kernel
theorem dX12_takesAll_6 : decode cX12_takesAll 6 = .ok (.iconst 0, 1) := by decide +kernel
theorem dX12_takesAll_7 : decode cX12_takesAll 7 = .ok (.putfield 118, 3) := by decide +kernel
theorem dX12_takesAll_10 : decode cX12_takesAll 10 = .ok (.aload_n 0, 1) := by decide +kernel
theorem dX12_takesAll_11 : decode cX12_takesAll 11 = .ok (.iconst 0, 1) := by decide +kernel
theorem dX12_takesAll_12 : decode cX12_takesAll 12 = .ok (.putfield 129, 3) := by decide +kernel
theorem dX12_takesAll_15 : decode cX12_takesAll 15 = .ok (.aload_n 0, 1) := by decide +kernel
theorem dX12_takesAll_16 : decode cX12_takesAll 16 = .ok (.iconst (-1), 1) := by decide +kernel
theorem dX12_takesAll_17 : decode cX12_takesAll 17 = .ok (.putfield 135, 3) := by decide +kernel
theorem dX12_takesAll_20 : decode cX12_takesAll 20 = .ok (.aload_n 0, 1) := by decide +kernel
theorem dX12_takesAll_21 : decode cX12_takesAll 21 = .ok (.iconst (-1), 1) := by decide +kernel
theorem dX12_takesAll_22 : decode cX12_takesAll 22 = .ok (.putfield 138, 3) := by decide +kernel
theorem dX12_takesAll_25 : decode cX12_takesAll 25 = .ok (.aload_n 0, 1) := by decide +kernel
theorem dX12_takesAll_26 : decode cX12_takesAll 26 = .ok (.iconst 0, 1) := by decide +kernel
theorem dX12_takesAll_27 : decode cX12_takesAll 27 = .ok (.putfield 132, 3) := by decide +kernel
theorem dX12_takesAll_30 : decode cX12_takesAll 30 = .ok (.iconst 0, 1) := by decide +kernel
theorem dX12_takesAll_31 : decode cX12_takesAll 31 = .ok (.istore_n 1, 1) := by decide +kernel
theorem dX12_takesAll_32 : decode cX12_takesAll 32 = .ok (.aload_n 0, 1) := by decide +kernel
theorem dX12_takesAll_33 : decode cX12_takesAll 33 = .ok (.invokevirtual 115, 3) := by decide +kernel
theorem dX12_takesAll_36 : decode cX12_takesAll 36 = .ok (.aload_n 0, 1) := by decide +kernel
theorem dX12_takesAll_37 : decode cX12_takesAll 37 = .ok (.getfield 100, 3) := by decide +kernel
theorem dX12_takesAll_40 : decode cX12_takesAll 40 = .ok (.ifCond .eq 135, 3) := by decide +kernel
theorem dX12_takesAll_43 : decode cX12_takesAll 43 = .ok (.aload_n 0, 1) := by decide +kernel
theorem dX12_takesAll_44 : decode cX12_takesAll 44 = .ok (.getfield 100, 3) := by decide +kernel
theorem dX12_takesAll_47 : decode cX12_takesAll 47 = .ok (.iconst 1, 1) := by decide +kernel
theorem dX12_takesAll_48 : decode cX12_takesAll 48 = .ok (.if_icmp .ne 109, 3) := by decide +kernel
theorem dX12_takesAll_51 : decode cX12_takesAll 51 = .ok (.aload_n 0, 1) := by decide +kernel
theorem dX12_takesAll_52 : decode cX12_takesAll 52 = .ok (.getfield 89, 3) := by decide +kernel
theorem dX12_takesAll_55 : decode cX12_takesAll 55 = .ok (.ldc2_w 141, 3) := by decide +kernel
theorem dX12_takesAll_58 : decode cX12_takesAll 58 = .ok (.lcmp, 1) := by decide +kernel
theorem dX12_takesAll_59 : decode cX12_takesAll 59 = .ok (.ifCond .ne 13, 3) := by decide +kernel
theorem dX12_takesAll_62 : decode cX12_takesAll 62 = .ok (.aload_n 0, 1) := by decide +kernel
theorem dX12_takesAll_63 : decode cX12_takesAll 63 = .ok (.invokevirtual 143, 3) := by decide +kernel
theorem dX12_takesAll_66 : decode cX12_takesAll 66 = .ok (.ifCond .eq 91, 3) := by decide +kernel
theorem dX12_takesAll_69 : decode cX12_takesAll 69 = .ok (.goto 84, 3) := by decide +kernel
theorem dX12_takesAll_72 : decode cX12_takesAll 72 = .ok (.aload_n 0, 1) := by decide +kernel
theorem dX12_takesAll_73 : decode cX12_takesAll 73 = .ok (.getfield 89, 3) := by decide +kernel
theorem dX12_takesAll_76 : decode cX12_takesAll 76 = .ok (.ldc2_w 146, 3) := by decide +kernel
theorem dX12_takesAll_79 : decode cX12_takesAll 79 = .ok (.lcmp, 1) := by decide +kernel
theorem dX12_takesAll_80 : decode cX12_takesAll 80 = .ok (.ifCond .ne 13, 3) := by decide +kernel
theorem dX12_takesAll_83 : decode cX12_takesAll 83 = .ok (.aload_n 0, 1) := by decide +kernel
theorem dX12_takesAll_84 : decode cX12_takesAll 84 = .ok (.invokevirtual 148, 3) := by decide +kernel
theorem dX12_takesAll_87 : decode cX12_takesAll 87 = .ok (.ifCond .eq 70, 3) := by decide +kernel
theorem dX12_takesAll_90 : decode cX12_takesAll 90 = .ok (.goto 63, 3) := by decide +kernel
theorem dX12_takesAll_93 : decode cX12_takesAll 93 = .ok (.aload_n 0, 1) := by decide +kernel
theorem dX12_takesAll_94 : decode cX12_takesAll 94 = .ok (.getfield 89, 3) := by decide +kernel
theorem dX12_takesAll_97 : decode cX12_takesAll 97 = .ok (.ldc2_w 151, 3) := by decide +kernel
theorem dX12_takesAll_100 : decode cX12_takesAll 100 = .ok (.lcmp, 1) := by decide +kernel
theorem dX12_takesAll_101 : decode cX12_takesAll 101 = .ok (.ifCond .ne 13, 3) := by decide +kernel
theorem dX12_takesAll_104 : decode cX12_takesAll 104 = .ok (.aload_n 0, 1) := by decide +kernel
theorem dX12_takesAll_105 : decode cX12_takesAll 105 = .ok (.invokevirtual 153, 3) := by decide +kernel
theorem dX12_takesAll_108 : decode cX12_takesAll 108 = .ok (.ifCond .eq 49, 3) := by decide +kernel
theorem dX12_takesAll_111 : decode cX12_takesAll 111 = .ok (.goto 42, 3) := by decide +kernel
theorem dX12_takesAll_114 : decode cX12_takesAll 114 = .ok (.aload_n 0, 1) := by decide +kernel
theorem dX12_takesAll_115 : decode cX12_takesAll 115 = .ok (.getfield 89, 3) := by decide +kernel
theorem dX12_takesAll_118 : decode cX12_takesAll 118 = .ok (.ldc2_w 156, 3) := by decide +kernel
theorem dX12_takesAll_121 : decode cX12_takesAll 121 = .ok (.lcmp, 1) := by decide +kernel
theorem dX12_takesAll_122 : decode cX12_takesAll 122 = .ok (.ifCond .ne 13, 3) := by decide +kernel
theorem dX12_takesAll_125 : decode cX12_takesAll 125 = .ok (.aload_n 0, 1) := by decide +kernel
theorem dX12_takesAll_126 : decode cX12_takesAll 126 = .ok (.invokevirtual 158, 3) := by decide +kernel
theorem dX12_takesAll_129 : decode cX12_takesAll 129 = .ok (.ifCond .eq 28, 3) := by decide +kernel
theorem dX12_takesAll_132 : decode cX12_takesAll 132 = .ok (.goto 21, 3) := by decide +kernel
theorem dX12_takesAll_135 : decode cX12_takesAll 135 = .ok (.aload_n 0, 1) := by decide +kernel
theorem dX12_takesAll_136 : decode cX12_takesAll 136 = .ok (.getfield 89, 3) := by decide +kernel
theorem dX12_takesAll_139 : decode cX12_takesAll 139 = .ok (.ldc2_w 161, 3) := by decide +kernel
theorem dX12_takesAll_142 : decode cX12_takesAll 142 = .ok (.lcmp, 1) := by decide +kernel
theorem dX12_takesAll_143 : decode cX12_takesAll 143 = .ok (.ifCond .ne 14, 3) := by decide +kernel
theorem dX12_takesAll_146 : decode cX12_takesAll 146 = .ok (.aload_n 0, 1) := by decide +kernel
theorem dX12_takesAll_147 : decode cX12_takesAll 147 = .ok (.invokevirtual 163, 3) := by decide +kernel
theorem dX12_takesAll_150 : decode cX12_takesAll 150 = .ok (.ifCond .eq 7, 3) := by decide +kernel
theorem dX12_takesAll_153 : decode cX12_takesAll 153 = .ok (.iconst 1, 1) := by decide +kernel
theorem dX12_takesAll_154 : decode cX12_takesAll 154 = .ok (.goto 4, 3) := by decide +kernel
theorem dX12_takesAll_157 : decode cX12_takesAll 157 = .ok (.iconst 0, 1) := by decide +kernel
theorem dX12_takesAll_158 : decode cX12_takesAll 158 = .ok (.istore_n 2, 1) := by decide +kernel
theorem dX12_takesAll_159 : decode cX12_takesAll 159 = .ok (.iload_n 2, 1) := by decide +kernel
theorem dX12_takesAll_160 : decode cX12_takesAll 160 = .ok (.ifCond .ne 5, 3) := by decide +kernel
theorem dX12_takesAll_163 : decode cX12_takesAll 163 = .ok (.iconst (-1), 1) := by decide +kernel
theorem dX12_takesAll_164 : decode cX12_takesAll 164 = .ok (.ireturn, 1) := by decide +kernel
theorem dX12_takesAll_165 : decode cX12_takesAll 165 = .ok (.iinc 1 1, 3) := by decide +kernel
theorem dX12_takesAll_168 : decode cX12_takesAll 168 = .ok (.aload_n 0, 1) := by decide +kernel
theorem dX12_takesAll_169 : decode cX12_takesAll 169 = .ok (.invokevirtual 115, 3) := by decide +kernel
theorem dX12_takesAll_172 : decode cX12_takesAll 172 = .ok (.goto (-136), 3) := by decide +kernel
theorem dX12_takesAll_175 : decode cX12_takesAll 175 = .ok (.iload_n 1, 1) := by decide +kernel
theorem dX12_takesAll_176 : decode cX12_takesAll 176 = .ok (.ireturn, 1) := by decide +kernel
set_option maxRecDepth 20000 in
theorem ggX12_hill_X12_takesAll : GoodIn wsX12_hill wsX12_takesAll := goodIn_r _ [31, 32, 2, 4, 6, 8, 10, 33, 34, 35, 36, 37, 38, 39, 40, 41, 42, 30, 43, 25, 44, 1, 45, 46, 47, 48, 49, 50, 51, 52, 53, 54, 55, 56, 57, 58, 59, 60, 15, 61, 62, 63, 64, 65, 66, 67, 68, 69, 70, 71, 72, 73, 74, 75, 20, 76, 77, 78, 79, 80, 81, 82, 83, 84, 85, 86, 87, 13, 92, 93, 94, 95, 96, 97, 98, 99, 100, 101, 102, 103, 104, 105, 106, 107, 108, 109, 110, 111, 112, 113, 114, 115, 116, 117, 118, 119, 120, 121, 122, 123, 124, 125, 126, 127, 128, 129] (by decide +kernel) (by decide +kernel)
set_option maxRecDepth 20000 in
theorem gX12_hill_X12_takesAll : GoodIn wsX12_hill (wsV RX12 166 RX12 yX12_takesAll wsX12_takesAll) := goodIn_app (goodIn_of _ (by decide +kernel)) ggX12_hill_X12_takesAll
set_option maxRecDepth 20000 in
theorem ggX12_hill_X12_dripOf : GoodIn wsX12_hill wsX12_dripOf := goodIn_r _ [91, 5, 19, 92, 93, 94, 95, 96, 97, 98, 99, 100, 101, 102, 103, 104, 105, 106, 107, 108, 109, 110, 111, 112, 113, 114, 115, 116, 117, 118, 119, 120, 121, 122, 123, 124, 125, 126, 127, 128, 129] (by decide +kernel) (by decide +kernel)
set_option maxRecDepth 20000 in
theorem gX12_hill_X12_dripOf : GoodIn wsX12_hill (wsV RX12 182 RX12 yX12_dripOf wsX12_dripOf) := goodIn_app (goodIn_of _ (by decide +kernel)) ggX12_hill_X12_dripOf
theorem dX12_hill_0 : decode cX12_hill 0 = .ok (.aload_n 0, 1) := by decide +kernel
theorem dX12_hill_1 : decode cX12_hill 1 = .ok (.invokevirtual 166, 3) := by decide +kernel
theorem dX12_hill_4 : decode cX12_hill 4 = .ok (.istore_n 1, 1) := by decide +kernel
theorem dX12_hill_5 : decode cX12_hill 5 = .ok (.iload_n 1, 1) := by decide +kernel
theorem dX12_hill_6 : decode cX12_hill 6 = .ok (.ifCond .ge 11, 3) := by decide +kernel
theorem dX12_hill_9 : decode cX12_hill 9 = .ok (.bipush (-10), 2) := by decide +kernel
theorem dX12_hill_11 : decode cX12_hill 11 = .ok (.aload_n 0, 1) := by decide +kernel
theorem dX12_hill_12 : decode cX12_hill 12 = .ok (.getfield 86, 3) := by decide +kernel
theorem dX12_hill_15 : decode cX12_hill 15 = .ok (.isub, 1) := by decide +kernel
theorem dX12_hill_16 : decode cX12_hill 16 = .ok (.ireturn, 1) := by decide +kernel
theorem dX12_hill_17 : decode cX12_hill 17 = .ok (.aload_n 0, 1) := by decide +kernel
theorem dX12_hill_18 : decode cX12_hill 18 = .ok (.aload_n 0, 1) := by decide +kernel
theorem dX12_hill_19 : decode cX12_hill 19 = .ok (.getfield 118, 3) := by decide +kernel
theorem dX12_hill_22 : decode cX12_hill 22 = .ok (.putfield 69, 3) := by decide +kernel
theorem dX12_hill_25 : decode cX12_hill 25 = .ok (.aload_n 0, 1) := by decide +kernel
theorem dX12_hill_26 : decode cX12_hill 26 = .ok (.aload_n 0, 1) := by decide +kernel
theorem dX12_hill_27 : decode cX12_hill 27 = .ok (.getfield 129, 3) := by decide +kernel
theorem dX12_hill_30 : decode cX12_hill 30 = .ok (.putfield 170, 3) := by decide +kernel
theorem dX12_hill_33 : decode cX12_hill 33 = .ok (.aload_n 0, 1) := by decide +kernel
theorem dX12_hill_34 : decode cX12_hill 34 = .ok (.aload_n 0, 1) := by decide +kernel
theorem dX12_hill_35 : decode cX12_hill 35 = .ok (.getfield 135, 3) := by decide +kernel
theorem dX12_hill_38 : decode cX12_hill 38 = .ok (.ifCond .ge 7, 3) := by decide +kernel
theorem dX12_hill_41 : decode cX12_hill 41 = .ok (.iconst 0, 1) := by decide +kernel
theorem dX12_hill_42 : decode cX12_hill 42 = .ok (.goto 7, 3) := by decide +kernel
theorem dX12_hill_45 : decode cX12_hill 45 = .ok (.aload_n 0, 1) := by decide +kernel
theorem dX12_hill_46 : decode cX12_hill 46 = .ok (.getfield 135, 3) := by decide +kernel
theorem dX12_hill_49 : decode cX12_hill 49 = .ok (.putfield 173, 3) := by decide +kernel
theorem dX12_hill_52 : decode cX12_hill 52 = .ok (.aload_n 0, 1) := by decide +kernel
theorem dX12_hill_53 : decode cX12_hill 53 = .ok (.aload_n 0, 1) := by decide +kernel
theorem dX12_hill_54 : decode cX12_hill 54 = .ok (.getfield 138, 3) := by decide +kernel
theorem dX12_hill_57 : decode cX12_hill 57 = .ok (.ifCond .ge 7, 3) := by decide +kernel
theorem dX12_hill_60 : decode cX12_hill 60 = .ok (.iconst 0, 1) := by decide +kernel
theorem dX12_hill_61 : decode cX12_hill 61 = .ok (.goto 7, 3) := by decide +kernel
theorem dX12_hill_64 : decode cX12_hill 64 = .ok (.aload_n 0, 1) := by decide +kernel
theorem dX12_hill_65 : decode cX12_hill 65 = .ok (.getfield 138, 3) := by decide +kernel
theorem dX12_hill_68 : decode cX12_hill 68 = .ok (.putfield 176, 3) := by decide +kernel
theorem dX12_hill_71 : decode cX12_hill 71 = .ok (.aload_n 0, 1) := by decide +kernel
theorem dX12_hill_72 : decode cX12_hill 72 = .ok (.aload_n 0, 1) := by decide +kernel
theorem dX12_hill_73 : decode cX12_hill 73 = .ok (.getfield 132, 3) := by decide +kernel
theorem dX12_hill_76 : decode cX12_hill 76 = .ok (.ifCond .ne 7, 3) := by decide +kernel
theorem dX12_hill_79 : decode cX12_hill 79 = .ok (.iconst 1, 1) := by decide +kernel
theorem dX12_hill_80 : decode cX12_hill 80 = .ok (.goto 7, 3) := by decide +kernel
theorem dX12_hill_83 : decode cX12_hill 83 = .ok (.aload_n 0, 1) := by decide +kernel
theorem dX12_hill_84 : decode cX12_hill 84 = .ok (.getfield 132, 3) := by decide +kernel
theorem dX12_hill_87 : decode cX12_hill 87 = .ok (.putfield 22, 3) := by decide +kernel
theorem dX12_hill_90 : decode cX12_hill 90 = .ok (.iconst 0, 1) := by decide +kernel
theorem dX12_hill_91 : decode cX12_hill 91 = .ok (.istore_n 2, 1) := by decide +kernel
theorem dX12_hill_92 : decode cX12_hill 92 = .ok (.iload_n 2, 1) := by decide +kernel
theorem dX12_hill_93 : decode cX12_hill 93 = .ok (.bipush 8, 2) := by decide +kernel
theorem dX12_hill_95 : decode cX12_hill 95 = .ok (.if_icmp .ge 33, 3) := by decide +kernel
theorem dX12_hill_98 : decode cX12_hill 98 = .ok (.aload_n 0, 1) := by decide +kernel
theorem dX12_hill_99 : decode cX12_hill 99 = .ok (.getfield 26, 3) := by decide +kernel
theorem dX12_hill_102 : decode cX12_hill 102 = .ok (.iload_n 2, 1) := by decide +kernel
theorem dX12_hill_103 : decode cX12_hill 103 = .ok (.iload_n 2, 1) := by decide +kernel
theorem dX12_hill_104 : decode cX12_hill 104 = .ok (.aload_n 0, 1) := by decide +kernel
theorem dX12_hill_105 : decode cX12_hill 105 = .ok (.getfield 132, 3) := by decide +kernel
theorem dX12_hill_108 : decode cX12_hill 108 = .ok (.if_icmp .ge 12, 3) := by decide +kernel
theorem dX12_hill_111 : decode cX12_hill 111 = .ok (.aload_n 0, 1) := by decide +kernel
theorem dX12_hill_112 : decode cX12_hill 112 = .ok (.getfield 53, 3) := by decide +kernel
theorem dX12_hill_115 : decode cX12_hill 115 = .ok (.iload_n 2, 1) := by decide +kernel
theorem dX12_hill_116 : decode cX12_hill 116 = .ok (.iaload, 1) := by decide +kernel
theorem dX12_hill_117 : decode cX12_hill 117 = .ok (.goto 4, 3) := by decide +kernel
theorem dX12_hill_120 : decode cX12_hill 120 = .ok (.iconst 0, 1) := by decide +kernel
theorem dX12_hill_121 : decode cX12_hill 121 = .ok (.iastore, 1) := by decide +kernel
theorem dX12_hill_122 : decode cX12_hill 122 = .ok (.iinc 2 1, 3) := by decide +kernel
theorem dX12_hill_125 : decode cX12_hill 125 = .ok (.goto (-33), 3) := by decide +kernel
theorem dX12_hill_128 : decode cX12_hill 128 = .ok (.iconst 0, 1) := by decide +kernel
theorem dX12_hill_129 : decode cX12_hill 129 = .ok (.istore_n 2, 1) := by decide +kernel
theorem dX12_hill_130 : decode cX12_hill 130 = .ok (.iload_n 2, 1) := by decide +kernel
theorem dX12_hill_131 : decode cX12_hill 131 = .ok (.aload_n 0, 1) := by decide +kernel
theorem dX12_hill_132 : decode cX12_hill 132 = .ok (.getfield 69, 3) := by decide +kernel
theorem dX12_hill_135 : decode cX12_hill 135 = .ok (.if_icmp .ge 62, 3) := by decide +kernel
theorem dX12_hill_138 : decode cX12_hill 138 = .ok (.aload_n 0, 1) := by decide +kernel
theorem dX12_hill_139 : decode cX12_hill 139 = .ok (.getfield 29, 3) := by decide +kernel
theorem dX12_hill_142 : decode cX12_hill 142 = .ok (.iload_n 2, 1) := by decide +kernel
theorem dX12_hill_143 : decode cX12_hill 143 = .ok (.aload_n 0, 1) := by decide +kernel
theorem dX12_hill_144 : decode cX12_hill 144 = .ok (.getfield 47, 3) := by decide +kernel
theorem dX12_hill_147 : decode cX12_hill 147 = .ok (.iconst 3, 1) := by decide +kernel
theorem dX12_hill_148 : decode cX12_hill 148 = .ok (.iload_n 2, 1) := by decide +kernel
theorem dX12_hill_149 : decode cX12_hill 149 = .ok (.imul, 1) := by decide +kernel
theorem dX12_hill_150 : decode cX12_hill 150 = .ok (.iaload, 1) := by decide +kernel
theorem dX12_hill_151 : decode cX12_hill 151 = .ok (.iastore, 1) := by decide +kernel
theorem dX12_hill_152 : decode cX12_hill 152 = .ok (.aload_n 0, 1) := by decide +kernel
theorem dX12_hill_153 : decode cX12_hill 153 = .ok (.getfield 13, 3) := by decide +kernel
theorem dX12_hill_156 : decode cX12_hill 156 = .ok (.iload_n 2, 1) := by decide +kernel
theorem dX12_hill_157 : decode cX12_hill 157 = .ok (.aload_n 0, 1) := by decide +kernel
theorem dX12_hill_158 : decode cX12_hill 158 = .ok (.getfield 47, 3) := by decide +kernel
theorem dX12_hill_161 : decode cX12_hill 161 = .ok (.iconst 3, 1) := by decide +kernel
theorem dX12_hill_162 : decode cX12_hill 162 = .ok (.iload_n 2, 1) := by decide +kernel
theorem dX12_hill_163 : decode cX12_hill 163 = .ok (.imul, 1) := by decide +kernel
theorem dX12_hill_164 : decode cX12_hill 164 = .ok (.iconst 1, 1) := by decide +kernel
theorem dX12_hill_165 : decode cX12_hill 165 = .ok (.iadd, 1) := by decide +kernel
theorem dX12_hill_166 : decode cX12_hill 166 = .ok (.iaload, 1) := by decide +kernel
theorem dX12_hill_167 : decode cX12_hill 167 = .ok (.iastore, 1) := by decide +kernel
theorem dX12_hill_168 : decode cX12_hill 168 = .ok (.aload_n 0, 1) := by decide +kernel
theorem dX12_hill_169 : decode cX12_hill 169 = .ok (.getfield 16, 3) := by decide +kernel
theorem dX12_hill_172 : decode cX12_hill 172 = .ok (.iload_n 2, 1) := by decide +kernel
theorem dX12_hill_173 : decode cX12_hill 173 = .ok (.aload_n 0, 1) := by decide +kernel
theorem dX12_hill_174 : decode cX12_hill 174 = .ok (.getfield 47, 3) := by decide +kernel
theorem dX12_hill_177 : decode cX12_hill 177 = .ok (.iconst 3, 1) := by decide +kernel
theorem dX12_hill_178 : decode cX12_hill 178 = .ok (.iload_n 2, 1) := by decide +kernel
theorem dX12_hill_179 : decode cX12_hill 179 = .ok (.imul, 1) := by decide +kernel
theorem dX12_hill_180 : decode cX12_hill 180 = .ok (.iconst 2, 1) := by decide +kernel
theorem dX12_hill_181 : decode cX12_hill 181 = .ok (.iadd, 1) := by decide +kernel
theorem dX12_hill_182 : decode cX12_hill 182 = .ok (.iaload, 1) := by decide +kernel
theorem dX12_hill_183 : decode cX12_hill 183 = .ok (.iastore, 1) := by decide +kernel
theorem dX12_hill_184 : decode cX12_hill 184 = .ok (.aload_n 0, 1) := by decide +kernel
theorem dX12_hill_185 : decode cX12_hill 185 = .ok (.getfield 32, 3) := by decide +kernel
theorem dX12_hill_188 : decode cX12_hill 188 = .ok (.iload_n 2, 1) := by decide +kernel
theorem dX12_hill_189 : decode cX12_hill 189 = .ok (.iconst 0, 1) := by decide +kernel
theorem dX12_hill_190 : decode cX12_hill 190 = .ok (.iastore, 1) := by decide +kernel
theorem dX12_hill_191 : decode cX12_hill 191 = .ok (.iinc 2 1, 3) := by decide +kernel
theorem dX12_hill_194 : decode cX12_hill 194 = .ok (.goto (-64), 3) := by decide +kernel
theorem dX12_hill_197 : decode cX12_hill 197 = .ok (.iconst 0, 1) := by decide +kernel
theorem dX12_hill_198 : decode cX12_hill 198 = .ok (.istore_n 2, 1) := by decide +kernel
theorem dX12_hill_199 : decode cX12_hill 199 = .ok (.iload_n 2, 1) := by decide +kernel
theorem dX12_hill_200 : decode cX12_hill 200 = .ok (.aload_n 0, 1) := by decide +kernel
theorem dX12_hill_201 : decode cX12_hill 201 = .ok (.getfield 170, 3) := by decide +kernel
theorem dX12_hill_204 : decode cX12_hill 204 = .ok (.if_icmp .ge 21, 3) := by decide +kernel
theorem dX12_hill_207 : decode cX12_hill 207 = .ok (.aload_n 0, 1) := by decide +kernel
theorem dX12_hill_208 : decode cX12_hill 208 = .ok (.getfield 19, 3) := by decide +kernel
theorem dX12_hill_211 : decode cX12_hill 211 = .ok (.iload_n 2, 1) := by decide +kernel
theorem dX12_hill_212 : decode cX12_hill 212 = .ok (.aload_n 0, 1) := by decide +kernel
theorem dX12_hill_213 : decode cX12_hill 213 = .ok (.getfield 50, 3) := by decide +kernel
theorem dX12_hill_216 : decode cX12_hill 216 = .ok (.iload_n 2, 1) := by decide +kernel
theorem dX12_hill_217 : decode cX12_hill 217 = .ok (.iaload, 1) := by decide +kernel
theorem dX12_hill_218 : decode cX12_hill 218 = .ok (.iastore, 1) := by decide +kernel
theorem dX12_hill_219 : decode cX12_hill 219 = .ok (.iinc 2 1, 3) := by decide +kernel
theorem dX12_hill_222 : decode cX12_hill 222 = .ok (.goto (-23), 3) := by decide +kernel
theorem dX12_hill_225 : decode cX12_hill 225 = .ok (.aload_n 0, 1) := by decide +kernel
theorem dX12_hill_226 : decode cX12_hill 226 = .ok (.iconst 0, 1) := by decide +kernel
theorem dX12_hill_227 : decode cX12_hill 227 = .ok (.putfield 179, 3) := by decide +kernel
theorem dX12_hill_230 : decode cX12_hill 230 = .ok (.aload_n 0, 1) := by decide +kernel
theorem dX12_hill_231 : decode cX12_hill 231 = .ok (.aload_n 0, 1) := by decide +kernel
theorem dX12_hill_232 : decode cX12_hill 232 = .ok (.iconst 0, 1) := by decide +kernel
theorem dX12_hill_233 : decode cX12_hill 233 = .ok (.invokevirtual 182, 3) := by decide +kernel
theorem dX12_hill_236 : decode cX12_hill 236 = .ok (.putfield 186, 3) := by decide +kernel
theorem dX12_hill_239 : decode cX12_hill 239 = .ok (.aload_n 0, 1) := by decide +kernel
theorem dX12_hill_240 : decode cX12_hill 240 = .ok (.iconst 0, 1) := by decide +kernel
theorem dX12_hill_241 : decode cX12_hill 241 = .ok (.putfield 189, 3) := by decide +kernel
theorem dX12_hill_244 : decode cX12_hill 244 = .ok (.aload_n 0, 1) := by decide +kernel
theorem dX12_hill_245 : decode cX12_hill 245 = .ok (.iconst 0, 1) := by decide +kernel
theorem dX12_hill_246 : decode cX12_hill 246 = .ok (.putfield 192, 3) := by decide +kernel
theorem dX12_hill_249 : decode cX12_hill 249 = .ok (.aload_n 0, 1) := by decide +kernel
theorem dX12_hill_250 : decode cX12_hill 250 = .ok (.iconst 0, 1) := by decide +kernel
theorem dX12_hill_251 : decode cX12_hill 251 = .ok (.putfield 78, 3) := by decide +kernel
theorem dX12_hill_254 : decode cX12_hill 254 = .ok (.aload_n 0, 1) := by decide +kernel
theorem dX12_hill_255 : decode cX12_hill 255 = .ok (.getfield 44, 3) := by decide +kernel
theorem dX12_hill_258 : decode cX12_hill 258 = .ok (.iconst 0, 1) := by decide +kernel
theorem dX12_hill_259 : decode cX12_hill 259 = .ok (.iconst 0, 1) := by decide +kernel
theorem dX12_hill_260 : decode cX12_hill 260 = .ok (.iastore, 1) := by decide +kernel
theorem dX12_hill_261 : decode cX12_hill 261 = .ok (.aload_n 0, 1) := by decide +kernel
theorem dX12_hill_262 : decode cX12_hill 262 = .ok (.getfield 44, 3) := by decide +kernel
theorem dX12_hill_265 : decode cX12_hill 265 = .ok (.bipush 40, 2) := by decide +kernel
theorem dX12_hill_267 : decode cX12_hill 267 = .ok (.iconst 0, 1) := by decide +kernel
theorem dX12_hill_268 : decode cX12_hill 268 = .ok (.iastore, 1) := by decide +kernel
theorem dX12_hill_269 : decode cX12_hill 269 = .ok (.iload_n 1, 1) := by decide +kernel
theorem dX12_hill_270 : decode cX12_hill 270 = .ok (.ireturn, 1) := by decide +kernel
theorem dX12_dripOf_0 : decode cX12_dripOf 0 = .ok (.iload_n 1, 1) := by decide +kernel
theorem dX12_dripOf_1 : decode cX12_dripOf 1 = .ok (.aload_n 0, 1) := by decide +kernel
theorem dX12_dripOf_2 : decode cX12_dripOf 2 = .ok (.getfield 170, 3) := by decide +kernel
theorem dX12_dripOf_5 : decode cX12_dripOf 5 = .ok (.if_icmp .ge 12, 3) := by decide +kernel
theorem dX12_dripOf_8 : decode cX12_dripOf 8 = .ok (.aload_n 0, 1) := by decide +kernel
theorem dX12_dripOf_9 : decode cX12_dripOf 9 = .ok (.getfield 19, 3) := by decide +kernel
theorem dX12_dripOf_12 : decode cX12_dripOf 12 = .ok (.iload_n 1, 1) := by decide +kernel
theorem dX12_dripOf_13 : decode cX12_dripOf 13 = .ok (.iaload, 1) := by decide +kernel
theorem dX12_dripOf_14 : decode cX12_dripOf 14 = .ok (.goto 4, 3) := by decide +kernel
theorem dX12_dripOf_17 : decode cX12_dripOf 17 = .ok (.iconst 0, 1) := by decide +kernel
theorem dX12_dripOf_18 : decode cX12_dripOf 18 = .ok (.ireturn, 1) := by decide +kernel
set_option maxRecDepth 20000 in
theorem ggX12_terrace_X12_isTerrace : GoodIn wsX12_terrace wsX12_isTerrace := goodIn_r _ [10, 11, 12, 13, 9, 14, 15, 16, 17, 18, 19, 20, 21, 22, 23, 24, 25, 26, 27, 28, 29, 30, 31, 32, 33, 34, 35, 36, 37, 38, 39, 40, 41, 42, 43, 44, 45, 46, 47, 48, 49, 50, 51, 52] (by decide +kernel) (by decide +kernel)
set_option maxRecDepth 20000 in
theorem gX12_terrace_X12_isTerrace : GoodIn wsX12_terrace (wsV RX12 195 RX12 yX12_isTerrace wsX12_isTerrace) := goodIn_app (goodIn_of _ (by decide +kernel)) ggX12_terrace_X12_isTerrace
set_option maxRecDepth 20000 in
theorem ggX12_terrace_X12_in : GoodIn wsX12_terrace wsX12_in := goodIn_r _ [14] (by decide +kernel) (by decide +kernel)
set_option maxRecDepth 20000 in
theorem gX12_terrace_X12_in : GoodIn wsX12_terrace (va_wsS RX12 72 yX12_in wsX12_in) := goodIn_app (goodIn_of _ (by decide +kernel)) ggX12_terrace_X12_in
theorem dX12_terrace_0 : decode cX12_terrace 0 = .ok (.aload_n 0, 1) := by decide +kernel
theorem dX12_terrace_1 : decode cX12_terrace 1 = .ok (.iload_n 1, 1) := by decide +kernel
theorem dX12_terrace_2 : decode cX12_terrace 2 = .ok (.invokevirtual 195, 3) := by decide +kernel
theorem dX12_terrace_5 : decode cX12_terrace 5 = .ok (.ifCond .eq 15, 3) := by decide +kernel
theorem dX12_terrace_8 : decode cX12_terrace 8 = .ok (.iload_n 2, 1) := by decide +kernel
theorem dX12_terrace_9 : decode cX12_terrace 9 = .ok (.i2l, 1) := by decide +kernel
theorem dX12_terrace_10 : decode cX12_terrace 10 = .ok (.lconst 0, 1) := by decide +kernel
theorem dX12_terrace_11 : decode cX12_terrace 11 = .ok (.ldc2_w 198, 3) := by decide +kernel
theorem dX12_terrace_14 : decode cX12_terrace 14 = .ok (.invokestatic 72, 3) := by decide +kernel
theorem dX12_terrace_17 : decode cX12_terrace 17 = .ok (.ifCond .ne 5, 3) := by decide +kernel
theorem dX12_terrace_20 : decode cX12_terrace 20 = .ok (.iconst (-1), 1) := by decide +kernel
theorem dX12_terrace_21 : decode cX12_terrace 21 = .ok (.ireturn, 1) := by decide +kernel
theorem dX12_terrace_22 : decode cX12_terrace 22 = .ok (.iload_n 2, 1) := by decide +kernel
theorem dX12_terrace_23 : decode cX12_terrace 23 = .ok (.ifCond .ne 12, 3) := by decide +kernel
theorem dX12_terrace_26 : decode cX12_terrace 26 = .ok (.aload_n 0, 1) := by decide +kernel
theorem dX12_terrace_27 : decode cX12_terrace 27 = .ok (.getfield 29, 3) := by decide +kernel
theorem dX12_terrace_30 : decode cX12_terrace 30 = .ok (.iload_n 1, 1) := by decide +kernel
theorem dX12_terrace_31 : decode cX12_terrace 31 = .ok (.iaload, 1) := by decide +kernel
theorem dX12_terrace_32 : decode cX12_terrace 32 = .ok (.goto 37, 3) := by decide +kernel
theorem dX12_terrace_35 : decode cX12_terrace 35 = .ok (.iload_n 2, 1) := by decide +kernel
theorem dX12_terrace_36 : decode cX12_terrace 36 = .ok (.iconst 1, 1) := by decide +kernel
theorem dX12_terrace_37 : decode cX12_terrace 37 = .ok (.if_icmp .ne 12, 3) := by decide +kernel
theorem dX12_terrace_40 : decode cX12_terrace 40 = .ok (.aload_n 0, 1) := by decide +kernel
theorem dX12_terrace_41 : decode cX12_terrace 41 = .ok (.getfield 13, 3) := by decide +kernel
theorem dX12_terrace_44 : decode cX12_terrace 44 = .ok (.iload_n 1, 1) := by decide +kernel
theorem dX12_terrace_45 : decode cX12_terrace 45 = .ok (.iaload, 1) := by decide +kernel
theorem dX12_terrace_46 : decode cX12_terrace 46 = .ok (.goto 23, 3) := by decide +kernel
theorem dX12_terrace_49 : decode cX12_terrace 49 = .ok (.iload_n 2, 1) := by decide +kernel
theorem dX12_terrace_50 : decode cX12_terrace 50 = .ok (.iconst 2, 1) := by decide +kernel
theorem dX12_terrace_51 : decode cX12_terrace 51 = .ok (.if_icmp .ne 12, 3) := by decide +kernel
theorem dX12_terrace_54 : decode cX12_terrace 54 = .ok (.aload_n 0, 1) := by decide +kernel
theorem dX12_terrace_55 : decode cX12_terrace 55 = .ok (.getfield 16, 3) := by decide +kernel
theorem dX12_terrace_58 : decode cX12_terrace 58 = .ok (.iload_n 1, 1) := by decide +kernel
theorem dX12_terrace_59 : decode cX12_terrace 59 = .ok (.iaload, 1) := by decide +kernel
theorem dX12_terrace_60 : decode cX12_terrace 60 = .ok (.goto 9, 3) := by decide +kernel
theorem dX12_terrace_63 : decode cX12_terrace 63 = .ok (.aload_n 0, 1) := by decide +kernel
theorem dX12_terrace_64 : decode cX12_terrace 64 = .ok (.getfield 32, 3) := by decide +kernel
theorem dX12_terrace_67 : decode cX12_terrace 67 = .ok (.iload_n 1, 1) := by decide +kernel
theorem dX12_terrace_68 : decode cX12_terrace 68 = .ok (.iaload, 1) := by decide +kernel
theorem dX12_terrace_69 : decode cX12_terrace 69 = .ok (.ireturn, 1) := by decide +kernel
set_option maxRecDepth 20000 in
theorem ggX12_drip_X12_in : GoodIn wsX12_drip wsX12_in := goodIn_r _ [5] (by decide +kernel) (by decide +kernel)
set_option maxRecDepth 20000 in
theorem gX12_drip_X12_in : GoodIn wsX12_drip (va_wsS RX12 72 yX12_in wsX12_in) := goodIn_app (goodIn_of _ (by decide +kernel)) ggX12_drip_X12_in
set_option maxRecDepth 20000 in
theorem ggX12_drip_X12_dripOf : GoodIn wsX12_drip wsX12_dripOf := goodIn_r _ [9, 10, 11, 12, 13, 14, 15, 16, 17, 18, 19, 20, 21, 22, 23, 24, 25, 26, 27, 28, 29, 30, 31, 32, 33, 34, 35, 36, 37, 38, 39, 40, 41, 42, 43, 44, 45, 46, 47, 48, 49] (by decide +kernel) (by decide +kernel)
set_option maxRecDepth 20000 in
theorem gX12_drip_X12_dripOf : GoodIn wsX12_drip (wsV RX12 182 RX12 yX12_dripOf wsX12_dripOf) := goodIn_app (goodIn_of _ (by decide +kernel)) ggX12_drip_X12_dripOf
theorem dX12_drip_0 : decode cX12_drip 0 = .ok (.iload_n 1, 1) := by decide +kernel
theorem dX12_drip_1 : decode cX12_drip 1 = .ok (.i2l, 1) := by decide +kernel
theorem dX12_drip_2 : decode cX12_drip 2 = .ok (.lconst 0, 1) := by decide +kernel
theorem dX12_drip_3 : decode cX12_drip 3 = .ok (.ldc2_w 200, 3) := by decide +kernel
theorem dX12_drip_6 : decode cX12_drip 6 = .ok (.invokestatic 72, 3) := by decide +kernel
theorem dX12_drip_9 : decode cX12_drip 9 = .ok (.ifCond .eq 11, 3) := by decide +kernel
theorem dX12_drip_12 : decode cX12_drip 12 = .ok (.aload_n 0, 1) := by decide +kernel
theorem dX12_drip_13 : decode cX12_drip 13 = .ok (.iload_n 1, 1) := by decide +kernel
theorem dX12_drip_14 : decode cX12_drip 14 = .ok (.invokevirtual 182, 3) := by decide +kernel
theorem dX12_drip_17 : decode cX12_drip 17 = .ok (.goto 4, 3) := by decide +kernel
theorem dX12_drip_20 : decode cX12_drip 20 = .ok (.iconst (-1), 1) := by decide +kernel
theorem dX12_drip_21 : decode cX12_drip 21 = .ok (.ireturn, 1) := by decide +kernel
theorem dX12_song_0 : decode cX12_song 0 = .ok (.iload_n 1, 1) := by decide +kernel
theorem dX12_song_1 : decode cX12_song 1 = .ok (.ifCond .ge 7, 3) := by decide +kernel
theorem dX12_song_4 : decode cX12_song 4 = .ok (.iconst (-1), 1) := by decide +kernel
theorem dX12_song_5 : decode cX12_song 5 = .ok (.goto 22, 3) := by decide +kernel
theorem dX12_song_8 : decode cX12_song 8 = .ok (.iload_n 1, 1) := by decide +kernel
theorem dX12_song_9 : decode cX12_song 9 = .ok (.aload_n 0, 1) := by decide +kernel
theorem dX12_song_10 : decode cX12_song 10 = .ok (.getfield 22, 3) := by decide +kernel
theorem dX12_song_13 : decode cX12_song 13 = .ok (.if_icmp .ge 12, 3) := by decide +kernel
theorem dX12_song_16 : decode cX12_song 16 = .ok (.aload_n 0, 1) := by decide +kernel
theorem dX12_song_17 : decode cX12_song 17 = .ok (.getfield 26, 3) := by decide +kernel
theorem dX12_song_20 : decode cX12_song 20 = .ok (.iload_n 1, 1) := by decide +kernel
theorem dX12_song_21 : decode cX12_song 21 = .ok (.iaload, 1) := by decide +kernel
theorem dX12_song_22 : decode cX12_song 22 = .ok (.goto 5, 3) := by decide +kernel
theorem dX12_song_25 : decode cX12_song 25 = .ok (.bipush (-9), 2) := by decide +kernel
theorem dX12_song_27 : decode cX12_song 27 = .ok (.ireturn, 1) := by decide +kernel
theorem dX12_deal_0 : decode cX12_deal 0 = .ok (.aload_n 0, 1) := by decide +kernel
theorem dX12_deal_1 : decode cX12_deal 1 = .ok (.getfield 186, 3) := by decide +kernel
theorem dX12_deal_4 : decode cX12_deal 4 = .ok (.ifCond .eq 10, 3) := by decide +kernel
theorem dX12_deal_7 : decode cX12_deal 7 = .ok (.aload_n 0, 1) := by decide +kernel
theorem dX12_deal_8 : decode cX12_deal 8 = .ok (.getfield 69, 3) := by decide +kernel
theorem dX12_deal_11 : decode cX12_deal 11 = .ok (.ifCond .ne 6, 3) := by decide +kernel
theorem dX12_deal_14 : decode cX12_deal 14 = .ok (.bipush (-2), 2) := by decide +kernel
theorem dX12_deal_16 : decode cX12_deal 16 = .ok (.ireturn, 1) := by decide +kernel
theorem dX12_deal_17 : decode cX12_deal 17 = .ok (.aload_n 0, 1) := by decide +kernel
theorem dX12_deal_18 : decode cX12_deal 18 = .ok (.getfield 173, 3) := by decide +kernel
theorem dX12_deal_21 : decode cX12_deal 21 = .ok (.ifCond .ne 15, 3) := by decide +kernel
theorem dX12_deal_24 : decode cX12_deal 24 = .ok (.aload_n 0, 1) := by decide +kernel
theorem dX12_deal_25 : decode cX12_deal 25 = .ok (.getfield 189, 3) := by decide +kernel
theorem dX12_deal_28 : decode cX12_deal 28 = .ok (.aload_n 0, 1) := by decide +kernel
theorem dX12_deal_29 : decode cX12_deal 29 = .ok (.getfield 69, 3) := by decide +kernel
theorem dX12_deal_32 : decode cX12_deal 32 = .ok (.irem, 1) := by decide +kernel
theorem dX12_deal_33 : decode cX12_deal 33 = .ok (.goto 17, 3) := by decide +kernel
theorem dX12_deal_36 : decode cX12_deal 36 = .ok (.aload_n 0, 1) := by decide +kernel
theorem dX12_deal_37 : decode cX12_deal 37 = .ok (.getfield 26, 3) := by decide +kernel
theorem dX12_deal_40 : decode cX12_deal 40 = .ok (.aload_n 0, 1) := by decide +kernel
theorem dX12_deal_41 : decode cX12_deal 41 = .ok (.getfield 189, 3) := by decide +kernel
theorem dX12_deal_44 : decode cX12_deal 44 = .ok (.aload_n 0, 1) := by decide +kernel
theorem dX12_deal_45 : decode cX12_deal 45 = .ok (.getfield 22, 3) := by decide +kernel
theorem dX12_deal_48 : decode cX12_deal 48 = .ok (.irem, 1) := by decide +kernel
theorem dX12_deal_49 : decode cX12_deal 49 = .ok (.iaload, 1) := by decide +kernel
theorem dX12_deal_50 : decode cX12_deal 50 = .ok (.istore_n 1, 1) := by decide +kernel
theorem dX12_deal_51 : decode cX12_deal 51 = .ok (.aload_n 0, 1) := by decide +kernel
theorem dX12_deal_52 : decode cX12_deal 52 = .ok (.getfield 173, 3) := by decide +kernel
theorem dX12_deal_55 : decode cX12_deal 55 = .ok (.iconst 1, 1) := by decide +kernel
theorem dX12_deal_56 : decode cX12_deal 56 = .ok (.if_icmp .ne 56, 3) := by decide +kernel
theorem dX12_deal_59 : decode cX12_deal 59 = .ok (.iconst 0, 1) := by decide +kernel
theorem dX12_deal_60 : decode cX12_deal 60 = .ok (.istore_n 1, 1) := by decide +kernel
theorem dX12_deal_61 : decode cX12_deal 61 = .ok (.iconst 1, 1) := by decide +kernel
theorem dX12_deal_62 : decode cX12_deal 62 = .ok (.istore_n 2, 1) := by decide +kernel
theorem dX12_deal_63 : decode cX12_deal 63 = .ok (.iload_n 2, 1) := by decide +kernel
theorem dX12_deal_64 : decode cX12_deal 64 = .ok (.aload_n 0, 1) := by decide +kernel
theorem dX12_deal_65 : decode cX12_deal 65 = .ok (.getfield 69, 3) := by decide +kernel
theorem dX12_deal_68 : decode cX12_deal 68 = .ok (.if_icmp .ge 44, 3) := by decide +kernel
theorem dX12_deal_71 : decode cX12_deal 71 = .ok (.aload_n 0, 1) := by decide +kernel
theorem dX12_deal_72 : decode cX12_deal 72 = .ok (.getfield 29, 3) := by decide +kernel
theorem dX12_deal_75 : decode cX12_deal 75 = .ok (.iload_n 2, 1) := by decide +kernel
theorem dX12_deal_76 : decode cX12_deal 76 = .ok (.iaload, 1) := by decide +kernel
theorem dX12_deal_77 : decode cX12_deal 77 = .ok (.aload_n 0, 1) := by decide +kernel
theorem dX12_deal_78 : decode cX12_deal 78 = .ok (.getfield 13, 3) := by decide +kernel
theorem dX12_deal_81 : decode cX12_deal 81 = .ok (.iload_n 2, 1) := by decide +kernel
theorem dX12_deal_82 : decode cX12_deal 82 = .ok (.iaload, 1) := by decide +kernel
theorem dX12_deal_83 : decode cX12_deal 83 = .ok (.isub, 1) := by decide +kernel
theorem dX12_deal_84 : decode cX12_deal 84 = .ok (.aload_n 0, 1) := by decide +kernel
theorem dX12_deal_85 : decode cX12_deal 85 = .ok (.getfield 29, 3) := by decide +kernel
theorem dX12_deal_88 : decode cX12_deal 88 = .ok (.iload_n 1, 1) := by decide +kernel
theorem dX12_deal_89 : decode cX12_deal 89 = .ok (.iaload, 1) := by decide +kernel
theorem dX12_deal_90 : decode cX12_deal 90 = .ok (.aload_n 0, 1) := by decide +kernel
theorem dX12_deal_91 : decode cX12_deal 91 = .ok (.getfield 13, 3) := by decide +kernel
theorem dX12_deal_94 : decode cX12_deal 94 = .ok (.iload_n 1, 1) := by decide +kernel
theorem dX12_deal_95 : decode cX12_deal 95 = .ok (.iaload, 1) := by decide +kernel
theorem dX12_deal_96 : decode cX12_deal 96 = .ok (.isub, 1) := by decide +kernel
theorem dX12_deal_97 : decode cX12_deal 97 = .ok (.if_icmp .ge 7, 3) := by decide +kernel
theorem dX12_deal_100 : decode cX12_deal 100 = .ok (.iload_n 2, 1) := by decide +kernel
theorem dX12_deal_101 : decode cX12_deal 101 = .ok (.goto 4, 3) := by decide +kernel
theorem dX12_deal_104 : decode cX12_deal 104 = .ok (.iload_n 1, 1) := by decide +kernel
theorem dX12_deal_105 : decode cX12_deal 105 = .ok (.istore_n 1, 1) := by decide +kernel
theorem dX12_deal_106 : decode cX12_deal 106 = .ok (.iinc 2 1, 3) := by decide +kernel
theorem dX12_deal_109 : decode cX12_deal 109 = .ok (.goto (-46), 3) := by decide +kernel
theorem dX12_deal_112 : decode cX12_deal 112 = .ok (.aload_n 0, 1) := by decide +kernel
theorem dX12_deal_113 : decode cX12_deal 113 = .ok (.getfield 176, 3) := by decide +kernel
theorem dX12_deal_116 : decode cX12_deal 116 = .ok (.ifCond .le 48, 3) := by decide +kernel
theorem dX12_deal_119 : decode cX12_deal 119 = .ok (.aload_n 0, 1) := by decide +kernel
theorem dX12_deal_120 : decode cX12_deal 120 = .ok (.aload_n 0, 1) := by decide +kernel
theorem dX12_deal_121 : decode cX12_deal 121 = .ok (.getfield 35, 3) := by decide +kernel
theorem dX12_deal_124 : decode cX12_deal 124 = .ok (.ldc 202, 2) := by decide +kernel
theorem dX12_deal_126 : decode cX12_deal 126 = .ok (.imul, 1) := by decide +kernel
theorem dX12_deal_127 : decode cX12_deal 127 = .ok (.sipush 12345, 3) := by decide +kernel
theorem dX12_deal_130 : decode cX12_deal 130 = .ok (.iadd, 1) := by decide +kernel
theorem dX12_deal_131 : decode cX12_deal 131 = .ok (.putfield 35, 3) := by decide +kernel
theorem dX12_deal_134 : decode cX12_deal 134 = .ok (.aload_n 0, 1) := by decide +kernel
theorem dX12_deal_135 : decode cX12_deal 135 = .ok (.getfield 35, 3) := by decide +kernel
theorem dX12_deal_138 : decode cX12_deal 138 = .ok (.bipush 16, 2) := by decide +kernel
theorem dX12_deal_140 : decode cX12_deal 140 = .ok (.iushr, 1) := by decide +kernel
theorem dX12_deal_141 : decode cX12_deal 141 = .ok (.bipush 10, 2) := by decide +kernel
theorem dX12_deal_143 : decode cX12_deal 143 = .ok (.irem, 1) := by decide +kernel
theorem dX12_deal_144 : decode cX12_deal 144 = .ok (.aload_n 0, 1) := by decide +kernel
theorem dX12_deal_145 : decode cX12_deal 145 = .ok (.getfield 176, 3) := by decide +kernel
theorem dX12_deal_148 : decode cX12_deal 148 = .ok (.if_icmp .ge 14, 3) := by decide +kernel
theorem dX12_deal_151 : decode cX12_deal 151 = .ok (.iload_n 1, 1) := by decide +kernel
theorem dX12_deal_152 : decode cX12_deal 152 = .ok (.iconst 1, 1) := by decide +kernel
theorem dX12_deal_153 : decode cX12_deal 153 = .ok (.iadd, 1) := by decide +kernel
theorem dX12_deal_154 : decode cX12_deal 154 = .ok (.aload_n 0, 1) := by decide +kernel
theorem dX12_deal_155 : decode cX12_deal 155 = .ok (.getfield 69, 3) := by decide +kernel
theorem dX12_deal_158 : decode cX12_deal 158 = .ok (.irem, 1) := by decide +kernel
theorem dX12_deal_159 : decode cX12_deal 159 = .ok (.goto 4, 3) := by decide +kernel
theorem dX12_deal_162 : decode cX12_deal 162 = .ok (.iload_n 1, 1) := by decide +kernel
theorem dX12_deal_163 : decode cX12_deal 163 = .ok (.istore_n 1, 1) := by decide +kernel
theorem dX12_deal_164 : decode cX12_deal 164 = .ok (.aload_n 0, 1) := by decide +kernel
theorem dX12_deal_165 : decode cX12_deal 165 = .ok (.getfield 29, 3) := by decide +kernel
theorem dX12_deal_168 : decode cX12_deal 168 = .ok (.iload_n 1, 1) := by decide +kernel
theorem dX12_deal_169 : decode cX12_deal 169 = .ok (.dup2, 1) := by decide +kernel
theorem dX12_deal_170 : decode cX12_deal 170 = .ok (.iaload, 1) := by decide +kernel
theorem dX12_deal_171 : decode cX12_deal 171 = .ok (.iconst 1, 1) := by decide +kernel
theorem dX12_deal_172 : decode cX12_deal 172 = .ok (.iadd, 1) := by decide +kernel
theorem dX12_deal_173 : decode cX12_deal 173 = .ok (.iastore, 1) := by decide +kernel
theorem dX12_deal_174 : decode cX12_deal 174 = .ok (.aload_n 0, 1) := by decide +kernel
theorem dX12_deal_175 : decode cX12_deal 175 = .ok (.dup, 1) := by decide +kernel
theorem dX12_deal_176 : decode cX12_deal 176 = .ok (.getfield 186, 3) := by decide +kernel
theorem dX12_deal_179 : decode cX12_deal 179 = .ok (.iconst 1, 1) := by decide +kernel
theorem dX12_deal_180 : decode cX12_deal 180 = .ok (.isub, 1) := by decide +kernel
theorem dX12_deal_181 : decode cX12_deal 181 = .ok (.putfield 186, 3) := by decide +kernel
theorem dX12_deal_184 : decode cX12_deal 184 = .ok (.aload_n 0, 1) := by decide +kernel
theorem dX12_deal_185 : decode cX12_deal 185 = .ok (.dup, 1) := by decide +kernel
theorem dX12_deal_186 : decode cX12_deal 186 = .ok (.getfield 189, 3) := by decide +kernel
theorem dX12_deal_189 : decode cX12_deal 189 = .ok (.iconst 1, 1) := by decide +kernel
theorem dX12_deal_190 : decode cX12_deal 190 = .ok (.iadd, 1) := by decide +kernel
theorem dX12_deal_191 : decode cX12_deal 191 = .ok (.putfield 189, 3) := by decide +kernel
theorem dX12_deal_194 : decode cX12_deal 194 = .ok (.iload_n 1, 1) := by decide +kernel
theorem dX12_deal_195 : decode cX12_deal 195 = .ok (.ireturn, 1) := by decide +kernel
set_option maxRecDepth 20000 in
theorem ggX12_give_X12_isTerrace : GoodIn wsX12_give wsX12_isTerrace := goodIn_r _ [8, 9, 10, 11, 7, 12, 13, 14, 15, 16, 17, 18, 19, 20, 21, 22, 23, 24, 25, 26, 27, 28, 29, 30, 31, 32, 33, 34, 35, 36, 37, 38, 39, 40, 41, 42, 43, 44, 45, 46, 47, 48, 49, 50] (by decide +kernel) (by decide +kernel)
set_option maxRecDepth 20000 in
theorem gX12_give_X12_isTerrace : GoodIn wsX12_give (wsV RX12 195 RX12 yX12_isTerrace wsX12_isTerrace) := goodIn_app (goodIn_of _ (by decide +kernel)) ggX12_give_X12_isTerrace
set_option maxRecDepth 20000 in
theorem ggX12_give_X12_in : GoodIn wsX12_give wsX12_in := goodIn_r _ [12] (by decide +kernel) (by decide +kernel)
set_option maxRecDepth 20000 in
theorem gX12_give_X12_in : GoodIn wsX12_give (va_wsS RX12 72 yX12_in wsX12_in) := goodIn_app (goodIn_of _ (by decide +kernel)) ggX12_give_X12_in
theorem dX12_give_0 : decode cX12_give 0 = .ok (.aload_n 0, 1) := by decide +kernel
theorem dX12_give_1 : decode cX12_give 1 = .ok (.iload_n 1, 1) := by decide +kernel
theorem dX12_give_2 : decode cX12_give 2 = .ok (.invokevirtual 195, 3) := by decide +kernel
theorem dX12_give_5 : decode cX12_give 5 = .ok (.ifCond .eq 15, 3) := by decide +kernel
theorem dX12_give_8 : decode cX12_give 8 = .ok (.iload_n 2, 1) := by decide +kernel
theorem dX12_give_9 : decode cX12_give 9 = .ok (.i2l, 1) := by decide +kernel
theorem dX12_give_10 : decode cX12_give 10 = .ok (.lconst 1, 1) := by decide +kernel
theorem dX12_give_11 : decode cX12_give 11 = .ok (.ldc2_w 203, 3) := by decide +kernel
theorem dX12_give_14 : decode cX12_give 14 = .ok (.invokestatic 72, 3) := by decide +kernel
theorem dX12_give_17 : decode cX12_give 17 = .ok (.ifCond .ne 5, 3) := by decide +kernel
theorem dX12_give_20 : decode cX12_give 20 = .ok (.iconst (-1), 1) := by decide +kernel
theorem dX12_give_21 : decode cX12_give 21 = .ok (.ireturn, 1) := by decide +kernel
theorem dX12_give_22 : decode cX12_give 22 = .ok (.iload_n 2, 1) := by decide +kernel
theorem dX12_give_23 : decode cX12_give 23 = .ok (.aload_n 0, 1) := by decide +kernel
theorem dX12_give_24 : decode cX12_give 24 = .ok (.getfield 186, 3) := by decide +kernel
theorem dX12_give_27 : decode cX12_give 27 = .ok (.if_icmp .le 6, 3) := by decide +kernel
theorem dX12_give_30 : decode cX12_give 30 = .ok (.bipush (-2), 2) := by decide +kernel
theorem dX12_give_32 : decode cX12_give 32 = .ok (.ireturn, 1) := by decide +kernel
theorem dX12_give_33 : decode cX12_give 33 = .ok (.aload_n 0, 1) := by decide +kernel
theorem dX12_give_34 : decode cX12_give 34 = .ok (.dup, 1) := by decide +kernel
theorem dX12_give_35 : decode cX12_give 35 = .ok (.getfield 186, 3) := by decide +kernel
theorem dX12_give_38 : decode cX12_give 38 = .ok (.iload_n 2, 1) := by decide +kernel
theorem dX12_give_39 : decode cX12_give 39 = .ok (.isub, 1) := by decide +kernel
theorem dX12_give_40 : decode cX12_give 40 = .ok (.putfield 186, 3) := by decide +kernel
theorem dX12_give_43 : decode cX12_give 43 = .ok (.aload_n 0, 1) := by decide +kernel
theorem dX12_give_44 : decode cX12_give 44 = .ok (.getfield 29, 3) := by decide +kernel
theorem dX12_give_47 : decode cX12_give 47 = .ok (.iload_n 1, 1) := by decide +kernel
theorem dX12_give_48 : decode cX12_give 48 = .ok (.dup2, 1) := by decide +kernel
theorem dX12_give_49 : decode cX12_give 49 = .ok (.iaload, 1) := by decide +kernel
theorem dX12_give_50 : decode cX12_give 50 = .ok (.iload_n 2, 1) := by decide +kernel
theorem dX12_give_51 : decode cX12_give 51 = .ok (.iadd, 1) := by decide +kernel
theorem dX12_give_52 : decode cX12_give 52 = .ok (.iastore, 1) := by decide +kernel
theorem dX12_give_53 : decode cX12_give 53 = .ok (.aload_n 0, 1) := by decide +kernel
theorem dX12_give_54 : decode cX12_give 54 = .ok (.getfield 29, 3) := by decide +kernel
theorem dX12_give_57 : decode cX12_give 57 = .ok (.iload_n 1, 1) := by decide +kernel
theorem dX12_give_58 : decode cX12_give 58 = .ok (.iaload, 1) := by decide +kernel
theorem dX12_give_59 : decode cX12_give 59 = .ok (.ireturn, 1) := by decide +kernel
set_option maxRecDepth 20000 in
theorem ggX12_bird_X12_isTerrace : GoodIn wsX12_bird wsX12_isTerrace := goodIn_r _ [6, 7, 8, 9, 5, 10, 11, 12, 13, 14, 15, 16, 17, 18, 19, 20, 21, 22, 23, 24, 25, 26, 27, 28, 29, 30, 31, 32, 33, 34, 35, 36, 37, 38, 39, 40, 41, 42, 43, 44, 45, 46, 47, 48] (by decide +kernel) (by decide +kernel)
set_option maxRecDepth 20000 in
theorem gX12_bird_X12_isTerrace : GoodIn wsX12_bird (wsV RX12 195 RX12 yX12_isTerrace wsX12_isTerrace) := goodIn_app (goodIn_of _ (by decide +kernel)) ggX12_bird_X12_isTerrace
theorem dX12_bird_0 : decode cX12_bird 0 = .ok (.aload_n 0, 1) := by decide +kernel
theorem dX12_bird_1 : decode cX12_bird 1 = .ok (.iload_n 1, 1) := by decide +kernel
theorem dX12_bird_2 : decode cX12_bird 2 = .ok (.invokevirtual 195, 3) := by decide +kernel
theorem dX12_bird_5 : decode cX12_bird 5 = .ok (.ifCond .ne 5, 3) := by decide +kernel
theorem dX12_bird_8 : decode cX12_bird 8 = .ok (.iconst (-1), 1) := by decide +kernel
theorem dX12_bird_9 : decode cX12_bird 9 = .ok (.ireturn, 1) := by decide +kernel
theorem dX12_bird_10 : decode cX12_bird 10 = .ok (.aload_n 0, 1) := by decide +kernel
theorem dX12_bird_11 : decode cX12_bird 11 = .ok (.getfield 29, 3) := by decide +kernel
theorem dX12_bird_14 : decode cX12_bird 14 = .ok (.iload_n 1, 1) := by decide +kernel
theorem dX12_bird_15 : decode cX12_bird 15 = .ok (.iaload, 1) := by decide +kernel
theorem dX12_bird_16 : decode cX12_bird 16 = .ok (.ifCond .ne 6, 3) := by decide +kernel
theorem dX12_bird_19 : decode cX12_bird 19 = .ok (.bipush (-2), 2) := by decide +kernel
theorem dX12_bird_21 : decode cX12_bird 21 = .ok (.ireturn, 1) := by decide +kernel
theorem dX12_bird_22 : decode cX12_bird 22 = .ok (.aload_n 0, 1) := by decide +kernel
theorem dX12_bird_23 : decode cX12_bird 23 = .ok (.getfield 29, 3) := by decide +kernel
theorem dX12_bird_26 : decode cX12_bird 26 = .ok (.iload_n 1, 1) := by decide +kernel
theorem dX12_bird_27 : decode cX12_bird 27 = .ok (.dup2, 1) := by decide +kernel
theorem dX12_bird_28 : decode cX12_bird 28 = .ok (.iaload, 1) := by decide +kernel
theorem dX12_bird_29 : decode cX12_bird 29 = .ok (.iconst 1, 1) := by decide +kernel
theorem dX12_bird_30 : decode cX12_bird 30 = .ok (.isub, 1) := by decide +kernel
theorem dX12_bird_31 : decode cX12_bird 31 = .ok (.iastore, 1) := by decide +kernel
theorem dX12_bird_32 : decode cX12_bird 32 = .ok (.aload_n 0, 1) := by decide +kernel
theorem dX12_bird_33 : decode cX12_bird 33 = .ok (.getfield 29, 3) := by decide +kernel
theorem dX12_bird_36 : decode cX12_bird 36 = .ok (.iload_n 1, 1) := by decide +kernel
theorem dX12_bird_37 : decode cX12_bird 37 = .ok (.iaload, 1) := by decide +kernel
theorem dX12_bird_38 : decode cX12_bird 38 = .ok (.ireturn, 1) := by decide +kernel
set_option maxRecDepth 20000 in
theorem ggX12_end_X12_dripOf : GoodIn wsX12_end wsX12_dripOf := goodIn_r _ [12, 13, 14, 15, 16, 17, 18, 19, 20, 21, 22, 23, 24, 25, 26, 27, 28, 29, 30, 31, 32, 33, 34, 35, 36, 37, 38, 39, 40, 41, 42, 43, 44, 45, 46, 47, 48, 49, 50, 51, 52] (by decide +kernel) (by decide +kernel)
set_option maxRecDepth 20000 in
theorem gX12_end_X12_dripOf : GoodIn wsX12_end (wsV RX12 182 RX12 yX12_dripOf wsX12_dripOf) := goodIn_app (goodIn_of _ (by decide +kernel)) ggX12_end_X12_dripOf
theorem dX12_end_0 : decode cX12_end 0 = .ok (.aload_n 0, 1) := by decide +kernel
theorem dX12_end_1 : decode cX12_end 1 = .ok (.getfield 179, 3) := by decide +kernel
theorem dX12_end_4 : decode cX12_end 4 = .ok (.bipush 99, 2) := by decide +kernel
theorem dX12_end_6 : decode cX12_end 6 = .ok (.if_icmp .ne 6, 3) := by decide +kernel
theorem dX12_end_9 : decode cX12_end 9 = .ok (.bipush (-2), 2) := by decide +kernel
theorem dX12_end_11 : decode cX12_end 11 = .ok (.ireturn, 1) := by decide +kernel
theorem dX12_end_12 : decode cX12_end 12 = .ok (.iconst 0, 1) := by decide +kernel
theorem dX12_end_13 : decode cX12_end 13 = .ok (.istore_n 1, 1) := by decide +kernel
theorem dX12_end_14 : decode cX12_end 14 = .ok (.iconst 0, 1) := by decide +kernel
theorem dX12_end_15 : decode cX12_end 15 = .ok (.istore_n 2, 1) := by decide +kernel
theorem dX12_end_16 : decode cX12_end 16 = .ok (.iload_n 2, 1) := by decide +kernel
theorem dX12_end_17 : decode cX12_end 17 = .ok (.aload_n 0, 1) := by decide +kernel
theorem dX12_end_18 : decode cX12_end 18 = .ok (.getfield 69, 3) := by decide +kernel
theorem dX12_end_21 : decode cX12_end 21 = .ok (.if_icmp .ge 73, 3) := by decide +kernel
theorem dX12_end_24 : decode cX12_end 24 = .ok (.aload_n 0, 1) := by decide +kernel
theorem dX12_end_25 : decode cX12_end 25 = .ok (.getfield 29, 3) := by decide +kernel
theorem dX12_end_28 : decode cX12_end 28 = .ok (.iload_n 2, 1) := by decide +kernel
theorem dX12_end_29 : decode cX12_end 29 = .ok (.iaload, 1) := by decide +kernel
theorem dX12_end_30 : decode cX12_end 30 = .ok (.aload_n 0, 1) := by decide +kernel
theorem dX12_end_31 : decode cX12_end 31 = .ok (.getfield 16, 3) := by decide +kernel
theorem dX12_end_34 : decode cX12_end 34 = .ok (.iload_n 2, 1) := by decide +kernel
theorem dX12_end_35 : decode cX12_end 35 = .ok (.iaload, 1) := by decide +kernel
theorem dX12_end_36 : decode cX12_end 36 = .ok (.iadd, 1) := by decide +kernel
theorem dX12_end_37 : decode cX12_end 37 = .ok (.aload_n 0, 1) := by decide +kernel
theorem dX12_end_38 : decode cX12_end 38 = .ok (.getfield 13, 3) := by decide +kernel
theorem dX12_end_41 : decode cX12_end 41 = .ok (.iload_n 2, 1) := by decide +kernel
theorem dX12_end_42 : decode cX12_end 42 = .ok (.iaload, 1) := by decide +kernel
theorem dX12_end_43 : decode cX12_end 43 = .ok (.isub, 1) := by decide +kernel
theorem dX12_end_44 : decode cX12_end 44 = .ok (.istore_n 3, 1) := by decide +kernel
theorem dX12_end_45 : decode cX12_end 45 = .ok (.iload_n 3, 1) := by decide +kernel
theorem dX12_end_46 : decode cX12_end 46 = .ok (.ifCond .ge 8, 3) := by decide +kernel
theorem dX12_end_49 : decode cX12_end 49 = .ok (.iload_n 3, 1) := by decide +kernel
theorem dX12_end_50 : decode cX12_end 50 = .ok (.ineg, 1) := by decide +kernel
theorem dX12_end_51 : decode cX12_end 51 = .ok (.goto 4, 3) := by decide +kernel
theorem dX12_end_54 : decode cX12_end 54 = .ok (.iconst 0, 1) := by decide +kernel
theorem dX12_end_55 : decode cX12_end 55 = .ok (.istore 4, 2) := by decide +kernel
theorem dX12_end_57 : decode cX12_end 57 = .ok (.aload_n 0, 1) := by decide +kernel
theorem dX12_end_58 : decode cX12_end 58 = .ok (.getfield 32, 3) := by decide +kernel
theorem dX12_end_61 : decode cX12_end 61 = .ok (.iload_n 2, 1) := by decide +kernel
theorem dX12_end_62 : decode cX12_end 62 = .ok (.dup2, 1) := by decide +kernel
theorem dX12_end_63 : decode cX12_end 63 = .ok (.iaload, 1) := by decide +kernel
theorem dX12_end_64 : decode cX12_end 64 = .ok (.iload 4, 2) := by decide +kernel
theorem dX12_end_66 : decode cX12_end 66 = .ok (.iadd, 1) := by decide +kernel
theorem dX12_end_67 : decode cX12_end 67 = .ok (.iastore, 1) := by decide +kernel
theorem dX12_end_68 : decode cX12_end 68 = .ok (.iload_n 1, 1) := by decide +kernel
theorem dX12_end_69 : decode cX12_end 69 = .ok (.iload 4, 2) := by decide +kernel
theorem dX12_end_71 : decode cX12_end 71 = .ok (.iadd, 1) := by decide +kernel
theorem dX12_end_72 : decode cX12_end 72 = .ok (.istore_n 1, 1) := by decide +kernel
theorem dX12_end_73 : decode cX12_end 73 = .ok (.aload_n 0, 1) := by decide +kernel
theorem dX12_end_74 : decode cX12_end 74 = .ok (.getfield 29, 3) := by decide +kernel
theorem dX12_end_77 : decode cX12_end 77 = .ok (.iload_n 2, 1) := by decide +kernel
theorem dX12_end_78 : decode cX12_end 78 = .ok (.iload_n 3, 1) := by decide +kernel
theorem dX12_end_79 : decode cX12_end 79 = .ok (.ifCond .ge 7, 3) := by decide +kernel
theorem dX12_end_82 : decode cX12_end 82 = .ok (.iconst 0, 1) := by decide +kernel
theorem dX12_end_83 : decode cX12_end 83 = .ok (.goto 4, 3) := by decide +kernel
theorem dX12_end_86 : decode cX12_end 86 = .ok (.iload_n 3, 1) := by decide +kernel
theorem dX12_end_87 : decode cX12_end 87 = .ok (.iastore, 1) := by decide +kernel
theorem dX12_end_88 : decode cX12_end 88 = .ok (.iinc 2 1, 3) := by decide +kernel
theorem dX12_end_91 : decode cX12_end 91 = .ok (.goto (-75), 3) := by decide +kernel
theorem dX12_end_94 : decode cX12_end 94 = .ok (.aload_n 0, 1) := by decide +kernel
theorem dX12_end_95 : decode cX12_end 95 = .ok (.dup, 1) := by decide +kernel
theorem dX12_end_96 : decode cX12_end 96 = .ok (.getfield 179, 3) := by decide +kernel
theorem dX12_end_99 : decode cX12_end 99 = .ok (.iconst 1, 1) := by decide +kernel
theorem dX12_end_100 : decode cX12_end 100 = .ok (.iadd, 1) := by decide +kernel
theorem dX12_end_101 : decode cX12_end 101 = .ok (.putfield 179, 3) := by decide +kernel
theorem dX12_end_104 : decode cX12_end 104 = .ok (.aload_n 0, 1) := by decide +kernel
theorem dX12_end_105 : decode cX12_end 105 = .ok (.aload_n 0, 1) := by decide +kernel
theorem dX12_end_106 : decode cX12_end 106 = .ok (.aload_n 0, 1) := by decide +kernel
theorem dX12_end_107 : decode cX12_end 107 = .ok (.getfield 179, 3) := by decide +kernel
theorem dX12_end_110 : decode cX12_end 110 = .ok (.invokevirtual 182, 3) := by decide +kernel
theorem dX12_end_113 : decode cX12_end 113 = .ok (.putfield 186, 3) := by decide +kernel
theorem dX12_end_116 : decode cX12_end 116 = .ok (.iload_n 1, 1) := by decide +kernel
theorem dX12_end_117 : decode cX12_end 117 = .ok (.ireturn, 1) := by decide +kernel
theorem dX12_now_0 : decode cX12_now 0 = .ok (.iconst 0, 1) := by decide +kernel
theorem dX12_now_1 : decode cX12_now 1 = .ok (.istore_n 2, 1) := by decide +kernel
theorem dX12_now_2 : decode cX12_now 2 = .ok (.iconst 0, 1) := by decide +kernel
theorem dX12_now_3 : decode cX12_now 3 = .ok (.istore_n 3, 1) := by decide +kernel
theorem dX12_now_4 : decode cX12_now 4 = .ok (.iconst 0, 1) := by decide +kernel
theorem dX12_now_5 : decode cX12_now 5 = .ok (.istore 4, 2) := by decide +kernel
theorem dX12_now_7 : decode cX12_now 7 = .ok (.iload 4, 2) := by decide +kernel
theorem dX12_now_9 : decode cX12_now 9 = .ok (.aload_n 0, 1) := by decide +kernel
theorem dX12_now_10 : decode cX12_now 10 = .ok (.getfield 69, 3) := by decide +kernel
theorem dX12_now_13 : decode cX12_now 13 = .ok (.if_icmp .ge 29, 3) := by decide +kernel
theorem dX12_now_16 : decode cX12_now 16 = .ok (.iload_n 2, 1) := by decide +kernel
theorem dX12_now_17 : decode cX12_now 17 = .ok (.aload_n 0, 1) := by decide +kernel
theorem dX12_now_18 : decode cX12_now 18 = .ok (.getfield 29, 3) := by decide +kernel
theorem dX12_now_21 : decode cX12_now 21 = .ok (.iload 4, 2) := by decide +kernel
theorem dX12_now_23 : decode cX12_now 23 = .ok (.iaload, 1) := by decide +kernel
theorem dX12_now_24 : decode cX12_now 24 = .ok (.iadd, 1) := by decide +kernel
theorem dX12_now_25 : decode cX12_now 25 = .ok (.istore_n 2, 1) := by decide +kernel
theorem dX12_now_26 : decode cX12_now 26 = .ok (.iload_n 3, 1) := by decide +kernel
theorem dX12_now_27 : decode cX12_now 27 = .ok (.aload_n 0, 1) := by decide +kernel
theorem dX12_now_28 : decode cX12_now 28 = .ok (.getfield 32, 3) := by decide +kernel
theorem dX12_now_31 : decode cX12_now 31 = .ok (.iload 4, 2) := by decide +kernel
theorem dX12_now_33 : decode cX12_now 33 = .ok (.iaload, 1) := by decide +kernel
theorem dX12_now_34 : decode cX12_now 34 = .ok (.iadd, 1) := by decide +kernel
theorem dX12_now_35 : decode cX12_now 35 = .ok (.istore_n 3, 1) := by decide +kernel
theorem dX12_now_36 : decode cX12_now 36 = .ok (.iinc 4 1, 3) := by decide +kernel
theorem dX12_now_39 : decode cX12_now 39 = .ok (.goto (-32), 3) := by decide +kernel
theorem dX12_now_42 : decode cX12_now 42 = .ok (.iload_n 1, 1) := by decide +kernel
theorem dX12_now_43 : decode cX12_now 43 = .ok (.ifCond .ne 10, 3) := by decide +kernel
theorem dX12_now_46 : decode cX12_now 46 = .ok (.aload_n 0, 1) := by decide +kernel
theorem dX12_now_47 : decode cX12_now 47 = .ok (.getfield 179, 3) := by decide +kernel
theorem dX12_now_50 : decode cX12_now 50 = .ok (.goto 46, 3) := by decide +kernel
theorem dX12_now_53 : decode cX12_now 53 = .ok (.iload_n 1, 1) := by decide +kernel
theorem dX12_now_54 : decode cX12_now 54 = .ok (.iconst 1, 1) := by decide +kernel
theorem dX12_now_55 : decode cX12_now 55 = .ok (.if_icmp .ne 10, 3) := by decide +kernel
theorem dX12_now_58 : decode cX12_now 58 = .ok (.aload_n 0, 1) := by decide +kernel
theorem dX12_now_59 : decode cX12_now 59 = .ok (.getfield 186, 3) := by decide +kernel
theorem dX12_now_62 : decode cX12_now 62 = .ok (.goto 34, 3) := by decide +kernel
theorem dX12_now_65 : decode cX12_now 65 = .ok (.iload_n 1, 1) := by decide +kernel
theorem dX12_now_66 : decode cX12_now 66 = .ok (.iconst 2, 1) := by decide +kernel
theorem dX12_now_67 : decode cX12_now 67 = .ok (.if_icmp .ne 7, 3) := by decide +kernel
theorem dX12_now_70 : decode cX12_now 70 = .ok (.iload_n 2, 1) := by decide +kernel
theorem dX12_now_71 : decode cX12_now 71 = .ok (.goto 25, 3) := by decide +kernel
theorem dX12_now_74 : decode cX12_now 74 = .ok (.iload_n 1, 1) := by decide +kernel
theorem dX12_now_75 : decode cX12_now 75 = .ok (.iconst 3, 1) := by decide +kernel
theorem dX12_now_76 : decode cX12_now 76 = .ok (.if_icmp .ne 7, 3) := by decide +kernel
theorem dX12_now_79 : decode cX12_now 79 = .ok (.iload_n 3, 1) := by decide +kernel
theorem dX12_now_80 : decode cX12_now 80 = .ok (.goto 16, 3) := by decide +kernel
theorem dX12_now_83 : decode cX12_now 83 = .ok (.iload_n 1, 1) := by decide +kernel
theorem dX12_now_84 : decode cX12_now 84 = .ok (.iconst 4, 1) := by decide +kernel
theorem dX12_now_85 : decode cX12_now 85 = .ok (.if_icmp .ne 10, 3) := by decide +kernel
theorem dX12_now_88 : decode cX12_now 88 = .ok (.aload_n 0, 1) := by decide +kernel
theorem dX12_now_89 : decode cX12_now 89 = .ok (.getfield 189, 3) := by decide +kernel
theorem dX12_now_92 : decode cX12_now 92 = .ok (.goto 4, 3) := by decide +kernel
theorem dX12_now_95 : decode cX12_now 95 = .ok (.iconst (-1), 1) := by decide +kernel
theorem dX12_now_96 : decode cX12_now 96 = .ok (.ireturn, 1) := by decide +kernel
theorem dX12_lot_0 : decode cX12_lot 0 = .ok (.aload_n 0, 1) := by decide +kernel
theorem dX12_lot_1 : decode cX12_lot 1 = .ok (.getfield 35, 3) := by decide +kernel
theorem dX12_lot_4 : decode cX12_lot 4 = .ok (.istore_n 2, 1) := by decide +kernel
theorem dX12_lot_5 : decode cX12_lot 5 = .ok (.aload_n 0, 1) := by decide +kernel
theorem dX12_lot_6 : decode cX12_lot 6 = .ok (.iload_n 1, 1) := by decide +kernel
theorem dX12_lot_7 : decode cX12_lot 7 = .ok (.putfield 35, 3) := by decide +kernel
theorem dX12_lot_10 : decode cX12_lot 10 = .ok (.iload_n 2, 1) := by decide +kernel
theorem dX12_lot_11 : decode cX12_lot 11 = .ok (.ireturn, 1) := by decide +kernel
theorem dX12_wants_0 : decode cX12_wants 0 = .ok (.aload_n 0, 1) := by decide +kernel
theorem dX12_wants_1 : decode cX12_wants 1 = .ok (.getfield 13, 3) := by decide +kernel
theorem dX12_wants_4 : decode cX12_wants 4 = .ok (.iload_n 1, 1) := by decide +kernel
theorem dX12_wants_5 : decode cX12_wants 5 = .ok (.iaload, 1) := by decide +kernel
theorem dX12_wants_6 : decode cX12_wants 6 = .ok (.aload_n 0, 1) := by decide +kernel
theorem dX12_wants_7 : decode cX12_wants 7 = .ok (.getfield 16, 3) := by decide +kernel
theorem dX12_wants_10 : decode cX12_wants 10 = .ok (.iload_n 1, 1) := by decide +kernel
theorem dX12_wants_11 : decode cX12_wants 11 = .ok (.iaload, 1) := by decide +kernel
theorem dX12_wants_12 : decode cX12_wants 12 = .ok (.isub, 1) := by decide +kernel
theorem dX12_wants_13 : decode cX12_wants 13 = .ok (.istore_n 3, 1) := by decide +kernel
theorem dX12_wants_14 : decode cX12_wants 14 = .ok (.iload_n 3, 1) := by decide +kernel
theorem dX12_wants_15 : decode cX12_wants 15 = .ok (.iload_n 2, 1) := by decide +kernel
theorem dX12_wants_16 : decode cX12_wants 16 = .ok (.iconst 1, 1) := by decide +kernel
theorem dX12_wants_17 : decode cX12_wants 17 = .ok (.iadd, 1) := by decide +kernel
theorem dX12_wants_18 : decode cX12_wants 18 = .ok (.imul, 1) := by decide +kernel
theorem dX12_wants_19 : decode cX12_wants 19 = .ok (.aload_n 0, 1) := by decide +kernel
theorem dX12_wants_20 : decode cX12_wants 20 = .ok (.getfield 29, 3) := by decide +kernel
theorem dX12_wants_23 : decode cX12_wants 23 = .ok (.iload_n 1, 1) := by decide +kernel
theorem dX12_wants_24 : decode cX12_wants 24 = .ok (.iaload, 1) := by decide +kernel
theorem dX12_wants_25 : decode cX12_wants 25 = .ok (.isub, 1) := by decide +kernel
theorem dX12_wants_26 : decode cX12_wants 26 = .ok (.istore 4, 2) := by decide +kernel
theorem dX12_wants_28 : decode cX12_wants 28 = .ok (.iload 4, 2) := by decide +kernel
