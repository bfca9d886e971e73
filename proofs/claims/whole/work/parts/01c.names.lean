theorem inJ11 : ∀ w ∈ wsJ110, w ∈ lw_tbl := by decide +kernel
theorem inJ6 : ∀ w ∈ wsJ60, w ∈ lw_tbl := by decide +kernel
theorem inJ9 : ∀ w ∈ wsJ90, w ∈ lw_tbl := by decide +kernel
theorem inJ0 : ∀ w ∈ wsJ00, w ∈ lw_tbl := by decide +kernel
theorem inJ1 : ∀ w ∈ wsJ10, w ∈ lw_tbl := by decide +kernel
theorem inJ2 : ∀ w ∈ wsJ20, w ∈ lw_tbl := by decide +kernel
theorem inJ10 : ∀ w ∈ wsJ100, w ∈ lw_tbl := by decide +kernel
theorem inJ3 : ∀ w ∈ wsJ30, w ∈ lw_tbl := by decide +kernel
theorem dX0_init_0 : decode cX0_init 0 = .ok (.aload_n 0, 1) := by decide +kernel
theorem dX0_init_1 : decode cX0_init 1 = .ok (.invokespecial 3, 3) := by decide +kernel
theorem dX0_init_4 : decode cX0_init 4 = .ok (.aload_n 0, 1) := by decide +kernel
theorem dX0_init_5 : decode cX0_init 5 = .ok (.bipush 20, 2) := by decide +kernel
theorem dX0_init_7 : decode cX0_init 7 = .ok (.newarray .int, 2) := by decide +kernel
theorem dX0_init_9 : decode cX0_init 9 = .ok (.putfield 9, 3) := by decide +kernel
theorem dX0_init_12 : decode cX0_init 12 = .ok (.return_, 1) := by decide +kernel
set_option maxRecDepth 20000 in
theorem ggX0_does_X0_body : GoodIn wsX0_does wsX0_body := goodIn_r _ [8, 9, 1, 3, 2, 10, 11, 12, 7, 13, 14, 15, 4, 5, 6, 16, 17, 18, 19, 20] (by decide +kernel) (by decide +kernel)
set_option maxRecDepth 20000 in
theorem gX0_does_X0_body : GoodIn wsX0_does (wsV RX0 25 RX0 yX0_body wsX0_body) := goodIn_app (goodIn_of _ (by decide +kernel)) ggX0_does_X0_body
theorem dX0_does_0 : decode cX0_does 0 = .ok (.aload_n 0, 1) := by decide +kernel
theorem dX0_does_1 : decode cX0_does 1 = .ok (.iload_n 1, 1) := by decide +kernel
theorem dX0_does_2 : decode cX0_does 2 = .ok (.putfield 15, 3) := by decide +kernel
theorem dX0_does_5 : decode cX0_does 5 = .ok (.aload_n 0, 1) := by decide +kernel
theorem dX0_does_6 : decode cX0_does 6 = .ok (.iload_n 2, 1) := by decide +kernel
theorem dX0_does_7 : decode cX0_does 7 = .ok (.putfield 19, 3) := by decide +kernel
theorem dX0_does_10 : decode cX0_does 10 = .ok (.aload_n 0, 1) := by decide +kernel
theorem dX0_does_11 : decode cX0_does 11 = .ok (.iload_n 3, 1) := by decide +kernel
theorem dX0_does_12 : decode cX0_does 12 = .ok (.putfield 22, 3) := by decide +kernel
theorem dX0_does_15 : decode cX0_does 15 = .ok (.aload_n 0, 1) := by decide +kernel
theorem dX0_does_16 : decode cX0_does 16 = .ok (.aload_n 0, 1) := by decide +kernel
theorem dX0_does_17 : decode cX0_does 17 = .ok (.getfield 22, 3) := by decide +kernel
theorem dX0_does_20 : decode cX0_does 20 = .ok (.iload 4, 2) := by decide +kernel
theorem dX0_does_22 : decode cX0_does 22 = .ok (.iload 5, 2) := by decide +kernel
theorem dX0_does_24 : decode cX0_does 24 = .ok (.iconst 0, 1) := by decide +kernel
theorem dX0_does_25 : decode cX0_does 25 = .ok (.invokevirtual 25, 3) := by decide +kernel
theorem dX0_does_28 : decode cX0_does 28 = .ok (.ireturn, 1) := by decide +kernel
set_option maxRecDepth 20000 in
theorem ggX0_body_X0_begins : GoodIn wsX0_body wsX0_begins := goodIn_r _ [9, 10, 11, 15, 16, 17, 18, 19] (by decide +kernel) (by decide +kernel)
set_option maxRecDepth 20000 in
theorem gX0_body_X0_begins : GoodIn wsX0_body (wsV RX0 35 RX0 yX0_begins wsX0_begins) := goodIn_app (goodIn_of _ (by decide +kernel)) ggX0_body_X0_begins
set_option maxRecDepth 20000 in
theorem ggX0_body_X0_body : GoodIn wsX0_body wsX0_body := goodIn_r _ [0, 1, 2, 3, 4, 5, 6, 7, 8, 9, 10, 11, 12, 13, 14, 15, 16, 17, 18, 19] (by decide +kernel) (by decide +kernel)
set_option maxRecDepth 20000 in
theorem gX0_body_X0_body : GoodIn wsX0_body (wsV RX0 25 RX0 yX0_body wsX0_body) := goodIn_app (goodIn_of _ (by decide +kernel)) ggX0_body_X0_body
theorem dX0_body_0 : decode cX0_body 0 = .ok (.iload_n 1, 1) := by decide +kernel
theorem dX0_body_1 : decode cX0_body 1 = .ok (.ifCond .lt 10, 3) := by decide +kernel
theorem dX0_body_4 : decode cX0_body 4 = .ok (.iload 4, 2) := by decide +kernel
theorem dX0_body_6 : decode cX0_body 6 = .ok (.bipush 40, 2) := by decide +kernel
theorem dX0_body_8 : decode cX0_body 8 = .ok (.if_icmp .le 5, 3) := by decide +kernel
theorem dX0_body_11 : decode cX0_body 11 = .ok (.iconst 0, 1) := by decide +kernel
theorem dX0_body_12 : decode cX0_body 12 = .ok (.ireturn, 1) := by decide +kernel
theorem dX0_body_13 : decode cX0_body 13 = .ok (.iload_n 1, 1) := by decide +kernel
theorem dX0_body_14 : decode cX0_body 14 = .ok (.istore 5, 2) := by decide +kernel
theorem dX0_body_16 : decode cX0_body 16 = .ok (.iconst 0, 1) := by decide +kernel
theorem dX0_body_17 : decode cX0_body 17 = .ok (.istore 6, 2) := by decide +kernel
theorem dX0_body_19 : decode cX0_body 19 = .ok (.iload 6, 2) := by decide +kernel
theorem dX0_body_21 : decode cX0_body 21 = .ok (.bipush 7, 2) := by decide +kernel
theorem dX0_body_23 : decode cX0_body 23 = .ok (.if_icmp .ge 39, 3) := by decide +kernel
theorem dX0_body_26 : decode cX0_body 26 = .ok (.getstatic 29, 3) := by decide +kernel
theorem dX0_body_29 : decode cX0_body 29 = .ok (.iload 5, 2) := by decide +kernel
theorem dX0_body_31 : decode cX0_body 31 = .ok (.iaload, 1) := by decide +kernel
theorem dX0_body_32 : decode cX0_body 32 = .ok (.ifCond .lt 30, 3) := by decide +kernel
theorem dX0_body_35 : decode cX0_body 35 = .ok (.getstatic 32, 3) := by decide +kernel
theorem dX0_body_38 : decode cX0_body 38 = .ok (.iload 5, 2) := by decide +kernel
theorem dX0_body_40 : decode cX0_body 40 = .ok (.iconst 3, 1) := by decide +kernel
theorem dX0_body_41 : decode cX0_body 41 = .ok (.imul, 1) := by decide +kernel
theorem dX0_body_42 : decode cX0_body 42 = .ok (.iload_n 2, 1) := by decide +kernel
theorem dX0_body_43 : decode cX0_body 43 = .ok (.iadd, 1) := by decide +kernel
theorem dX0_body_44 : decode cX0_body 44 = .ok (.iaload, 1) := by decide +kernel
theorem dX0_body_45 : decode cX0_body 45 = .ok (.ifCond .ne 17, 3) := by decide +kernel
theorem dX0_body_48 : decode cX0_body 48 = .ok (.getstatic 29, 3) := by decide +kernel
theorem dX0_body_51 : decode cX0_body 51 = .ok (.iload 5, 2) := by decide +kernel
theorem dX0_body_53 : decode cX0_body 53 = .ok (.iaload, 1) := by decide +kernel
theorem dX0_body_54 : decode cX0_body 54 = .ok (.istore 5, 2) := by decide +kernel
theorem dX0_body_56 : decode cX0_body 56 = .ok (.iinc 6 1, 3) := by decide +kernel
theorem dX0_body_59 : decode cX0_body 59 = .ok (.goto (-40), 3) := by decide +kernel
theorem dX0_body_62 : decode cX0_body 62 = .ok (.getstatic 29, 3) := by decide +kernel
theorem dX0_body_65 : decode cX0_body 65 = .ok (.iload 5, 2) := by decide +kernel
theorem dX0_body_67 : decode cX0_body 67 = .ok (.iaload, 1) := by decide +kernel
theorem dX0_body_68 : decode cX0_body 68 = .ok (.istore 6, 2) := by decide +kernel
theorem dX0_body_70 : decode cX0_body 70 = .ok (.iload 4, 2) := by decide +kernel
theorem dX0_body_72 : decode cX0_body 72 = .ok (.iconst 1, 1) := by decide +kernel
theorem dX0_body_73 : decode cX0_body 73 = .ok (.iadd, 1) := by decide +kernel
theorem dX0_body_74 : decode cX0_body 74 = .ok (.istore 7, 2) := by decide +kernel
theorem dX0_body_76 : decode cX0_body 76 = .ok (.aload_n 0, 1) := by decide +kernel
theorem dX0_body_77 : decode cX0_body 77 = .ok (.getstatic 32, 3) := by decide +kernel
theorem dX0_body_80 : decode cX0_body 80 = .ok (.iload 5, 2) := by decide +kernel
theorem dX0_body_82 : decode cX0_body 82 = .ok (.iconst 3, 1) := by decide +kernel
theorem dX0_body_83 : decode cX0_body 83 = .ok (.imul, 1) := by decide +kernel
theorem dX0_body_84 : decode cX0_body 84 = .ok (.iload_n 2, 1) := by decide +kernel
theorem dX0_body_85 : decode cX0_body 85 = .ok (.iadd, 1) := by decide +kernel
theorem dX0_body_86 : decode cX0_body 86 = .ok (.iaload, 1) := by decide +kernel
theorem dX0_body_87 : decode cX0_body 87 = .ok (.invokevirtual 35, 3) := by decide +kernel
theorem dX0_body_90 : decode cX0_body 90 = .ok (.getstatic 32, 3) := by decide +kernel
theorem dX0_body_93 : decode cX0_body 93 = .ok (.iload 5, 2) := by decide +kernel
theorem dX0_body_95 : decode cX0_body 95 = .ok (.iconst 3, 1) := by decide +kernel
theorem dX0_body_96 : decode cX0_body 96 = .ok (.imul, 1) := by decide +kernel
theorem dX0_body_97 : decode cX0_body 97 = .ok (.iload_n 2, 1) := by decide +kernel
theorem dX0_body_98 : decode cX0_body 98 = .ok (.iadd, 1) := by decide +kernel
theorem dX0_body_99 : decode cX0_body 99 = .ok (.iaload, 1) := by decide +kernel
theorem dX0_body_100 : decode cX0_body 100 = .ok (.lookupswitch 270 #[(10, 100), (11, 107), (12, 125), (20, 140), (30, 154), (40, 167), (50, 191), (51, 203), (60, 216), (70, 232), (71, 254)], 100) := by decide +kernel
theorem dX0_body_200 : decode cX0_body 200 = .ok (.iload_n 3, 1) := by decide +kernel
theorem dX0_body_201 : decode cX0_body 201 = .ok (.aload_n 0, 1) := by decide +kernel
theorem dX0_body_202 : decode cX0_body 202 = .ok (.getfield 15, 3) := by decide +kernel
theorem dX0_body_205 : decode cX0_body 205 = .ok (.iadd, 1) := by decide +kernel
theorem dX0_body_206 : decode cX0_body 206 = .ok (.ireturn, 1) := by decide +kernel
theorem dX0_body_207 : decode cX0_body 207 = .ok (.aload_n 0, 1) := by decide +kernel
theorem dX0_body_208 : decode cX0_body 208 = .ok (.aload_n 0, 1) := by decide +kernel
theorem dX0_body_209 : decode cX0_body 209 = .ok (.getfield 22, 3) := by decide +kernel
theorem dX0_body_212 : decode cX0_body 212 = .ok (.iconst 0, 1) := by decide +kernel
theorem dX0_body_213 : decode cX0_body 213 = .ok (.iload_n 3, 1) := by decide +kernel
theorem dX0_body_214 : decode cX0_body 214 = .ok (.iload 7, 2) := by decide +kernel
theorem dX0_body_216 : decode cX0_body 216 = .ok (.invokevirtual 25, 3) := by decide +kernel
theorem dX0_body_219 : decode cX0_body 219 = .ok (.aload_n 0, 1) := by decide +kernel
theorem dX0_body_220 : decode cX0_body 220 = .ok (.getfield 19, 3) := by decide +kernel
theorem dX0_body_223 : decode cX0_body 223 = .ok (.isub, 1) := by decide +kernel
theorem dX0_body_224 : decode cX0_body 224 = .ok (.ireturn, 1) := by decide +kernel
theorem dX0_body_225 : decode cX0_body 225 = .ok (.aload_n 0, 1) := by decide +kernel
theorem dX0_body_226 : decode cX0_body 226 = .ok (.aload_n 0, 1) := by decide +kernel
theorem dX0_body_227 : decode cX0_body 227 = .ok (.getfield 22, 3) := by decide +kernel
theorem dX0_body_230 : decode cX0_body 230 = .ok (.iconst 1, 1) := by decide +kernel
theorem dX0_body_231 : decode cX0_body 231 = .ok (.iload_n 3, 1) := by decide +kernel
theorem dX0_body_232 : decode cX0_body 232 = .ok (.iload 7, 2) := by decide +kernel
theorem dX0_body_234 : decode cX0_body 234 = .ok (.invokevirtual 25, 3) := by decide +kernel
theorem dX0_body_237 : decode cX0_body 237 = .ok (.iconst 2, 1) := by decide +kernel
theorem dX0_body_238 : decode cX0_body 238 = .ok (.imul, 1) := by decide +kernel
theorem dX0_body_239 : decode cX0_body 239 = .ok (.ireturn, 1) := by decide +kernel
theorem dX0_body_240 : decode cX0_body 240 = .ok (.aload_n 0, 1) := by decide +kernel
theorem dX0_body_241 : decode cX0_body 241 = .ok (.iload 6, 2) := by decide +kernel
theorem dX0_body_243 : decode cX0_body 243 = .ok (.iconst 1, 1) := by decide +kernel
theorem dX0_body_244 : decode cX0_body 244 = .ok (.iload_n 3, 1) := by decide +kernel
theorem dX0_body_245 : decode cX0_body 245 = .ok (.iload 7, 2) := by decide +kernel
theorem dX0_body_247 : decode cX0_body 247 = .ok (.invokevirtual 25, 3) := by decide +kernel
theorem dX0_body_250 : decode cX0_body 250 = .ok (.bipush 6, 2) := by decide +kernel
theorem dX0_body_252 : decode cX0_body 252 = .ok (.ixor, 1) := by decide +kernel
theorem dX0_body_253 : decode cX0_body 253 = .ok (.ireturn, 1) := by decide +kernel
theorem dX0_body_254 : decode cX0_body 254 = .ok (.aload_n 0, 1) := by decide +kernel
theorem dX0_body_255 : decode cX0_body 255 = .ok (.iload 6, 2) := by decide +kernel
theorem dX0_body_257 : decode cX0_body 257 = .ok (.iconst 0, 1) := by decide +kernel
theorem dX0_body_258 : decode cX0_body 258 = .ok (.iload_n 3, 1) := by decide +kernel
theorem dX0_body_259 : decode cX0_body 259 = .ok (.iconst 3, 1) := by decide +kernel
theorem dX0_body_260 : decode cX0_body 260 = .ok (.imul, 1) := by decide +kernel
theorem dX0_body_261 : decode cX0_body 261 = .ok (.iload 7, 2) := by decide +kernel
theorem dX0_body_263 : decode cX0_body 263 = .ok (.invokevirtual 25, 3) := by decide +kernel
theorem dX0_body_266 : decode cX0_body 266 = .ok (.ireturn, 1) := by decide +kernel
theorem dX0_body_267 : decode cX0_body 267 = .ok (.aload_n 0, 1) := by decide +kernel
theorem dX0_body_268 : decode cX0_body 268 = .ok (.iload 6, 2) := by decide +kernel
theorem dX0_body_270 : decode cX0_body 270 = .ok (.iconst 2, 1) := by decide +kernel
theorem dX0_body_271 : decode cX0_body 271 = .ok (.iload_n 3, 1) := by decide +kernel
theorem dX0_body_272 : decode cX0_body 272 = .ok (.iload 7, 2) := by decide +kernel
theorem dX0_body_274 : decode cX0_body 274 = .ok (.invokevirtual 25, 3) := by decide +kernel
theorem dX0_body_277 : decode cX0_body 277 = .ok (.aload_n 0, 1) := by decide +kernel
theorem dX0_body_278 : decode cX0_body 278 = .ok (.aload_n 0, 1) := by decide +kernel
theorem dX0_body_279 : decode cX0_body 279 = .ok (.getfield 22, 3) := by decide +kernel
theorem dX0_body_282 : decode cX0_body 282 = .ok (.iconst 1, 1) := by decide +kernel
theorem dX0_body_283 : decode cX0_body 283 = .ok (.iconst 1, 1) := by decide +kernel
theorem dX0_body_284 : decode cX0_body 284 = .ok (.iload 7, 2) := by decide +kernel
theorem dX0_body_286 : decode cX0_body 286 = .ok (.invokevirtual 25, 3) := by decide +kernel
theorem dX0_body_289 : decode cX0_body 289 = .ok (.iadd, 1) := by decide +kernel
theorem dX0_body_290 : decode cX0_body 290 = .ok (.ireturn, 1) := by decide +kernel
theorem dX0_body_291 : decode cX0_body 291 = .ok (.aload_n 0, 1) := by decide +kernel
theorem dX0_body_292 : decode cX0_body 292 = .ok (.iload 6, 2) := by decide +kernel
theorem dX0_body_294 : decode cX0_body 294 = .ok (.iconst 0, 1) := by decide +kernel
theorem dX0_body_295 : decode cX0_body 295 = .ok (.iload_n 3, 1) := by decide +kernel
theorem dX0_body_296 : decode cX0_body 296 = .ok (.iload 7, 2) := by decide +kernel
theorem dX0_body_298 : decode cX0_body 298 = .ok (.invokevirtual 25, 3) := by decide +kernel
theorem dX0_body_301 : decode cX0_body 301 = .ok (.ineg, 1) := by decide +kernel
theorem dX0_body_302 : decode cX0_body 302 = .ok (.ireturn, 1) := by decide +kernel
theorem dX0_body_303 : decode cX0_body 303 = .ok (.aload_n 0, 1) := by decide +kernel
theorem dX0_body_304 : decode cX0_body 304 = .ok (.iload 6, 2) := by decide +kernel
theorem dX0_body_306 : decode cX0_body 306 = .ok (.iconst 1, 1) := by decide +kernel
theorem dX0_body_307 : decode cX0_body 307 = .ok (.iload_n 3, 1) := by decide +kernel
theorem dX0_body_308 : decode cX0_body 308 = .ok (.iconst 1, 1) := by decide +kernel
theorem dX0_body_309 : decode cX0_body 309 = .ok (.iadd, 1) := by decide +kernel
theorem dX0_body_310 : decode cX0_body 310 = .ok (.iload 7, 2) := by decide +kernel
theorem dX0_body_312 : decode cX0_body 312 = .ok (.invokevirtual 25, 3) := by decide +kernel
theorem dX0_body_315 : decode cX0_body 315 = .ok (.ireturn, 1) := by decide +kernel
theorem dX0_body_316 : decode cX0_body 316 = .ok (.aload_n 0, 1) := by decide +kernel
theorem dX0_body_317 : decode cX0_body 317 = .ok (.iload 6, 2) := by decide +kernel
theorem dX0_body_319 : decode cX0_body 319 = .ok (.iconst 2, 1) := by decide +kernel
theorem dX0_body_320 : decode cX0_body 320 = .ok (.iload_n 3, 1) := by decide +kernel
theorem dX0_body_321 : decode cX0_body 321 = .ok (.aload_n 0, 1) := by decide +kernel
theorem dX0_body_322 : decode cX0_body 322 = .ok (.getfield 15, 3) := by decide +kernel
theorem dX0_body_325 : decode cX0_body 325 = .ok (.isub, 1) := by decide +kernel
theorem dX0_body_326 : decode cX0_body 326 = .ok (.iload 7, 2) := by decide +kernel
theorem dX0_body_328 : decode cX0_body 328 = .ok (.invokevirtual 25, 3) := by decide +kernel
theorem dX0_body_331 : decode cX0_body 331 = .ok (.ireturn, 1) := by decide +kernel
theorem dX0_body_332 : decode cX0_body 332 = .ok (.aload_n 0, 1) := by decide +kernel
theorem dX0_body_333 : decode cX0_body 333 = .ok (.iload 6, 2) := by decide +kernel
theorem dX0_body_335 : decode cX0_body 335 = .ok (.iconst 1, 1) := by decide +kernel
theorem dX0_body_336 : decode cX0_body 336 = .ok (.iload_n 3, 1) := by decide +kernel
theorem dX0_body_337 : decode cX0_body 337 = .ok (.iload 7, 2) := by decide +kernel
theorem dX0_body_339 : decode cX0_body 339 = .ok (.invokevirtual 25, 3) := by decide +kernel
theorem dX0_body_342 : decode cX0_body 342 = .ok (.aload_n 0, 1) := by decide +kernel
theorem dX0_body_343 : decode cX0_body 343 = .ok (.iload 6, 2) := by decide +kernel
theorem dX0_body_345 : decode cX0_body 345 = .ok (.iconst 0, 1) := by decide +kernel
theorem dX0_body_346 : decode cX0_body 346 = .ok (.iconst 2, 1) := by decide +kernel
theorem dX0_body_347 : decode cX0_body 347 = .ok (.iload 7, 2) := by decide +kernel
theorem dX0_body_349 : decode cX0_body 349 = .ok (.invokevirtual 25, 3) := by decide +kernel
theorem dX0_body_352 : decode cX0_body 352 = .ok (.iadd, 1) := by decide +kernel
theorem dX0_body_353 : decode cX0_body 353 = .ok (.ireturn, 1) := by decide +kernel
theorem dX0_body_354 : decode cX0_body 354 = .ok (.aload_n 0, 1) := by decide +kernel
theorem dX0_body_355 : decode cX0_body 355 = .ok (.iload 6, 2) := by decide +kernel
theorem dX0_body_357 : decode cX0_body 357 = .ok (.iconst 0, 1) := by decide +kernel
theorem dX0_body_358 : decode cX0_body 358 = .ok (.iload_n 3, 1) := by decide +kernel
theorem dX0_body_359 : decode cX0_body 359 = .ok (.iload 7, 2) := by decide +kernel
theorem dX0_body_361 : decode cX0_body 361 = .ok (.invokevirtual 25, 3) := by decide +kernel
theorem dX0_body_364 : decode cX0_body 364 = .ok (.aload_n 0, 1) := by decide +kernel
theorem dX0_body_365 : decode cX0_body 365 = .ok (.getfield 19, 3) := by decide +kernel
theorem dX0_body_368 : decode cX0_body 368 = .ok (.ixor, 1) := by decide +kernel
theorem dX0_body_369 : decode cX0_body 369 = .ok (.ireturn, 1) := by decide +kernel
theorem dX0_body_370 : decode cX0_body 370 = .ok (.iconst 0, 1) := by decide +kernel
theorem dX0_body_371 : decode cX0_body 371 = .ok (.ireturn, 1) := by decide +kernel
theorem dX0_begins_0 : decode cX0_begins 0 = .ok (.aload_n 0, 1) := by decide +kernel
theorem dX0_begins_1 : decode cX0_begins 1 = .ok (.getfield 39, 3) := by decide +kernel
theorem dX0_begins_4 : decode cX0_begins 4 = .ok (.aload_n 0, 1) := by decide +kernel
theorem dX0_begins_5 : decode cX0_begins 5 = .ok (.getfield 9, 3) := by decide +kernel
theorem dX0_begins_8 : decode cX0_begins 8 = .ok (.arraylength, 1) := by decide +kernel
theorem dX0_begins_9 : decode cX0_begins 9 = .ok (.if_icmp .ge 13, 3) := by decide +kernel
theorem dX0_begins_12 : decode cX0_begins 12 = .ok (.aload_n 0, 1) := by decide +kernel
theorem dX0_begins_13 : decode cX0_begins 13 = .ok (.getfield 9, 3) := by decide +kernel
theorem dX0_begins_16 : decode cX0_begins 16 = .ok (.aload_n 0, 1) := by decide +kernel
theorem dX0_begins_17 : decode cX0_begins 17 = .ok (.getfield 39, 3) := by decide +kernel
theorem dX0_begins_20 : decode cX0_begins 20 = .ok (.iload_n 1, 1) := by decide +kernel
theorem dX0_begins_21 : decode cX0_begins 21 = .ok (.iastore, 1) := by decide +kernel
theorem dX0_begins_22 : decode cX0_begins 22 = .ok (.aload_n 0, 1) := by decide +kernel
theorem dX0_begins_23 : decode cX0_begins 23 = .ok (.dup, 1) := by decide +kernel
theorem dX0_begins_24 : decode cX0_begins 24 = .ok (.getfield 39, 3) := by decide +kernel
theorem dX0_begins_27 : decode cX0_begins 27 = .ok (.iconst 1, 1) := by decide +kernel
theorem dX0_begins_28 : decode cX0_begins 28 = .ok (.iadd, 1) := by decide +kernel
theorem dX0_begins_29 : decode cX0_begins 29 = .ok (.putfield 39, 3) := by decide +kernel
theorem dX0_begins_32 : decode cX0_begins 32 = .ok (.return_, 1) := by decide +kernel
theorem dX1_init_0 : decode cX1_init 0 = .ok (.aload_n 0, 1) := by decide +kernel
theorem dX1_init_1 : decode cX1_init 1 = .ok (.invokespecial 3, 3) := by decide +kernel
theorem dX1_init_4 : decode cX1_init 4 = .ok (.aload_n 0, 1) := by decide +kernel
theorem dX1_init_5 : decode cX1_init 5 = .ok (.bipush 6, 2) := by decide +kernel
theorem dX1_init_7 : decode cX1_init 7 = .ok (.newarray .int, 2) := by decide +kernel
theorem dX1_init_9 : decode cX1_init 9 = .ok (.putfield 9, 3) := by decide +kernel
theorem dX1_init_12 : decode cX1_init 12 = .ok (.aload_n 0, 1) := by decide +kernel
theorem dX1_init_13 : decode cX1_init 13 = .ok (.bipush 6, 2) := by decide +kernel
theorem dX1_init_15 : decode cX1_init 15 = .ok (.newarray .int, 2) := by decide +kernel
theorem dX1_init_17 : decode cX1_init 17 = .ok (.putfield 15, 3) := by decide +kernel
theorem dX1_init_20 : decode cX1_init 20 = .ok (.aload_n 0, 1) := by decide +kernel
theorem dX1_init_21 : decode cX1_init 21 = .ok (.bipush 6, 2) := by decide +kernel
theorem dX1_init_23 : decode cX1_init 23 = .ok (.newarray .int, 2) := by decide +kernel
theorem dX1_init_25 : decode cX1_init 25 = .ok (.putfield 18, 3) := by decide +kernel
theorem dX1_init_28 : decode cX1_init 28 = .ok (.aload_n 0, 1) := by decide +kernel
theorem dX1_init_29 : decode cX1_init 29 = .ok (.bipush 6, 2) := by decide +kernel
theorem dX1_init_31 : decode cX1_init 31 = .ok (.newarray .int, 2) := by decide +kernel
theorem dX1_init_33 : decode cX1_init 33 = .ok (.putfield 21, 3) := by decide +kernel
theorem dX1_init_36 : decode cX1_init 36 = .ok (.aload_n 0, 1) := by decide +kernel
theorem dX1_init_37 : decode cX1_init 37 = .ok (.bipush 6, 2) := by decide +kernel
theorem dX1_init_39 : decode cX1_init 39 = .ok (.newarray .int, 2) := by decide +kernel
theorem dX1_init_41 : decode cX1_init 41 = .ok (.putfield 24, 3) := by decide +kernel
theorem dX1_init_44 : decode cX1_init 44 = .ok (.aload_n 0, 1) := by decide +kernel
theorem dX1_init_45 : decode cX1_init 45 = .ok (.bipush 6, 2) := by decide +kernel
theorem dX1_init_47 : decode cX1_init 47 = .ok (.newarray .int, 2) := by decide +kernel
theorem dX1_init_49 : decode cX1_init 49 = .ok (.putfield 27, 3) := by decide +kernel
theorem dX1_init_52 : decode cX1_init 52 = .ok (.aload_n 0, 1) := by decide +kernel
theorem dX1_init_53 : decode cX1_init 53 = .ok (.bipush 6, 2) := by decide +kernel
theorem dX1_init_55 : decode cX1_init 55 = .ok (.newarray .int, 2) := by decide +kernel
theorem dX1_init_57 : decode cX1_init 57 = .ok (.putfield 30, 3) := by decide +kernel
theorem dX1_init_60 : decode cX1_init 60 = .ok (.aload_n 0, 1) := by decide +kernel
theorem dX1_init_61 : decode cX1_init 61 = .ok (.bipush 24, 2) := by decide +kernel
theorem dX1_init_63 : decode cX1_init 63 = .ok (.newarray .int, 2) := by decide +kernel
theorem dX1_init_65 : decode cX1_init 65 = .ok (.putfield 33, 3) := by decide +kernel
theorem dX1_init_68 : decode cX1_init 68 = .ok (.aload_n 0, 1) := by decide +kernel
theorem dX1_init_69 : decode cX1_init 69 = .ok (.bipush 10, 2) := by decide +kernel
theorem dX1_init_71 : decode cX1_init 71 = .ok (.newarray .int, 2) := by decide +kernel
theorem dX1_init_73 : decode cX1_init 73 = .ok (.putfield 36, 3) := by decide +kernel
theorem dX1_init_76 : decode cX1_init 76 = .ok (.aload_n 0, 1) := by decide +kernel
theorem dX1_init_77 : decode cX1_init 77 = .ok (.bipush 6, 2) := by decide +kernel
theorem dX1_init_79 : decode cX1_init 79 = .ok (.newarray .int, 2) := by decide +kernel
theorem dX1_init_81 : decode cX1_init 81 = .ok (.putfield 39, 3) := by decide +kernel
theorem dX1_init_84 : decode cX1_init 84 = .ok (.aload_n 0, 1) := by decide +kernel
theorem dX1_init_85 : decode cX1_init 85 = .ok (.iload_n 1, 1) := by decide +kernel
theorem dX1_init_86 : decode cX1_init 86 = .ok (.putfield 42, 3) := by decide +kernel
theorem dX1_init_89 : decode cX1_init 89 = .ok (.aload_n 0, 1) := by decide +kernel
theorem dX1_init_90 : decode cX1_init 90 = .ok (.iload_n 2, 1) := by decide +kernel
theorem dX1_init_91 : decode cX1_init 91 = .ok (.putfield 46, 3) := by decide +kernel
theorem dX1_init_94 : decode cX1_init 94 = .ok (.iconst 0, 1) := by decide +kernel
theorem dX1_init_95 : decode cX1_init 95 = .ok (.istore_n 3, 1) := by decide +kernel
theorem dX1_init_96 : decode cX1_init 96 = .ok (.iload_n 3, 1) := by decide +kernel
theorem dX1_init_97 : decode cX1_init 97 = .ok (.bipush 10, 2) := by decide +kernel
theorem dX1_init_99 : decode cX1_init 99 = .ok (.if_icmp .ge 16, 3) := by decide +kernel
theorem dX1_init_102 : decode cX1_init 102 = .ok (.aload_n 0, 1) := by decide +kernel
theorem dX1_init_103 : decode cX1_init 103 = .ok (.getfield 36, 3) := by decide +kernel
theorem dX1_init_106 : decode cX1_init 106 = .ok (.iload_n 3, 1) := by decide +kernel
theorem dX1_init_107 : decode cX1_init 107 = .ok (.iload_n 3, 1) := by decide +kernel
theorem dX1_init_108 : decode cX1_init 108 = .ok (.iastore, 1) := by decide +kernel
theorem dX1_init_109 : decode cX1_init 109 = .ok (.iinc 3 1, 3) := by decide +kernel
theorem dX1_init_112 : decode cX1_init 112 = .ok (.goto (-16), 3) := by decide +kernel
theorem dX1_init_115 : decode cX1_init 115 = .ok (.return_, 1) := by decide +kernel
set_option maxRecDepth 20000 in
theorem ggX1_copies_X8_copy : GoodIn wsX1_copies wsX8_copy := goodIn_r _ [17, 18, 19, 20, 21, 22, 23, 24, 25] (by decide +kernel) (by decide +kernel)
set_option maxRecDepth 20000 in
theorem gX1_copies_X8_copy_n49 : GoodIn wsX1_copies (wsX8_copy) := ggX1_copies_X8_copy
theorem dX1_copies_0 : decode cX1_copies 0 = .ok (.aload_n 1, 1) := by decide +kernel
theorem dX1_copies_1 : decode cX1_copies 1 = .ok (.getfield 9, 3) := by decide +kernel
theorem dX1_copies_4 : decode cX1_copies 4 = .ok (.aload_n 0, 1) := by decide +kernel
theorem dX1_copies_5 : decode cX1_copies 5 = .ok (.getfield 9, 3) := by decide +kernel
theorem dX1_copies_8 : decode cX1_copies 8 = .ok (.invokestatic 49, 3) := by decide +kernel
theorem dX1_copies_11 : decode cX1_copies 11 = .ok (.aload_n 1, 1) := by decide +kernel
theorem dX1_copies_12 : decode cX1_copies 12 = .ok (.getfield 15, 3) := by decide +kernel
theorem dX1_copies_15 : decode cX1_copies 15 = .ok (.aload_n 0, 1) := by decide +kernel
theorem dX1_copies_16 : decode cX1_copies 16 = .ok (.getfield 15, 3) := by decide +kernel
theorem dX1_copies_19 : decode cX1_copies 19 = .ok (.invokestatic 49, 3) := by decide +kernel
theorem dX1_copies_22 : decode cX1_copies 22 = .ok (.aload_n 1, 1) := by decide +kernel
theorem dX1_copies_23 : decode cX1_copies 23 = .ok (.getfield 18, 3) := by decide +kernel
theorem dX1_copies_26 : decode cX1_copies 26 = .ok (.aload_n 0, 1) := by decide +kernel
theorem dX1_copies_27 : decode cX1_copies 27 = .ok (.getfield 18, 3) := by decide +kernel
theorem dX1_copies_30 : decode cX1_copies 30 = .ok (.invokestatic 49, 3) := by decide +kernel
theorem dX1_copies_33 : decode cX1_copies 33 = .ok (.aload_n 1, 1) := by decide +kernel
theorem dX1_copies_34 : decode cX1_copies 34 = .ok (.getfield 21, 3) := by decide +kernel
theorem dX1_copies_37 : decode cX1_copies 37 = .ok (.aload_n 0, 1) := by decide +kernel
theorem dX1_copies_38 : decode cX1_copies 38 = .ok (.getfield 21, 3) := by decide +kernel
theorem dX1_copies_41 : decode cX1_copies 41 = .ok (.invokestatic 49, 3) := by decide +kernel
theorem dX1_copies_44 : decode cX1_copies 44 = .ok (.aload_n 1, 1) := by decide +kernel
theorem dX1_copies_45 : decode cX1_copies 45 = .ok (.getfield 24, 3) := by decide +kernel
theorem dX1_copies_48 : decode cX1_copies 48 = .ok (.aload_n 0, 1) := by decide +kernel
theorem dX1_copies_49 : decode cX1_copies 49 = .ok (.getfield 24, 3) := by decide +kernel
theorem dX1_copies_52 : decode cX1_copies 52 = .ok (.invokestatic 49, 3) := by decide +kernel
theorem dX1_copies_55 : decode cX1_copies 55 = .ok (.aload_n 1, 1) := by decide +kernel
theorem dX1_copies_56 : decode cX1_copies 56 = .ok (.getfield 27, 3) := by decide +kernel
theorem dX1_copies_59 : decode cX1_copies 59 = .ok (.aload_n 0, 1) := by decide +kernel
theorem dX1_copies_60 : decode cX1_copies 60 = .ok (.getfield 27, 3) := by decide +kernel
theorem dX1_copies_63 : decode cX1_copies 63 = .ok (.invokestatic 49, 3) := by decide +kernel
theorem dX1_copies_66 : decode cX1_copies 66 = .ok (.aload_n 1, 1) := by decide +kernel
theorem dX1_copies_67 : decode cX1_copies 67 = .ok (.getfield 30, 3) := by decide +kernel
theorem dX1_copies_70 : decode cX1_copies 70 = .ok (.aload_n 0, 1) := by decide +kernel
theorem dX1_copies_71 : decode cX1_copies 71 = .ok (.getfield 30, 3) := by decide +kernel
theorem dX1_copies_74 : decode cX1_copies 74 = .ok (.invokestatic 49, 3) := by decide +kernel
theorem dX1_copies_77 : decode cX1_copies 77 = .ok (.aload_n 1, 1) := by decide +kernel
theorem dX1_copies_78 : decode cX1_copies 78 = .ok (.getfield 33, 3) := by decide +kernel
theorem dX1_copies_81 : decode cX1_copies 81 = .ok (.aload_n 0, 1) := by decide +kernel
theorem dX1_copies_82 : decode cX1_copies 82 = .ok (.getfield 33, 3) := by decide +kernel
theorem dX1_copies_85 : decode cX1_copies 85 = .ok (.invokestatic 49, 3) := by decide +kernel
theorem dX1_copies_88 : decode cX1_copies 88 = .ok (.aload_n 1, 1) := by decide +kernel
theorem dX1_copies_89 : decode cX1_copies 89 = .ok (.getfield 36, 3) := by decide +kernel
theorem dX1_copies_92 : decode cX1_copies 92 = .ok (.aload_n 0, 1) := by decide +kernel
theorem dX1_copies_93 : decode cX1_copies 93 = .ok (.getfield 36, 3) := by decide +kernel
theorem dX1_copies_96 : decode cX1_copies 96 = .ok (.invokestatic 49, 3) := by decide +kernel
theorem dX1_copies_99 : decode cX1_copies 99 = .ok (.aload_n 0, 1) := by decide +kernel
theorem dX1_copies_100 : decode cX1_copies 100 = .ok (.aload_n 1, 1) := by decide +kernel
theorem dX1_copies_101 : decode cX1_copies 101 = .ok (.getfield 53, 3) := by decide +kernel
theorem dX1_copies_104 : decode cX1_copies 104 = .ok (.putfield 53, 3) := by decide +kernel
theorem dX1_copies_107 : decode cX1_copies 107 = .ok (.aload_n 0, 1) := by decide +kernel
theorem dX1_copies_108 : decode cX1_copies 108 = .ok (.aload_n 1, 1) := by decide +kernel
theorem dX1_copies_109 : decode cX1_copies 109 = .ok (.getfield 56, 3) := by decide +kernel
theorem dX1_copies_112 : decode cX1_copies 112 = .ok (.putfield 56, 3) := by decide +kernel
theorem dX1_copies_115 : decode cX1_copies 115 = .ok (.aload_n 0, 1) := by decide +kernel
theorem dX1_copies_116 : decode cX1_copies 116 = .ok (.aload_n 1, 1) := by decide +kernel
theorem dX1_copies_117 : decode cX1_copies 117 = .ok (.getfield 59, 3) := by decide +kernel
theorem dX1_copies_120 : decode cX1_copies 120 = .ok (.putfield 59, 3) := by decide +kernel
theorem dX1_copies_123 : decode cX1_copies 123 = .ok (.aload_n 0, 1) := by decide +kernel
theorem dX1_copies_124 : decode cX1_copies 124 = .ok (.aload_n 1, 1) := by decide +kernel
theorem dX1_copies_125 : decode cX1_copies 125 = .ok (.getfield 62, 3) := by decide +kernel
theorem dX1_copies_128 : decode cX1_copies 128 = .ok (.putfield 62, 3) := by decide +kernel
theorem dX1_copies_131 : decode cX1_copies 131 = .ok (.aload_n 0, 1) := by decide +kernel
theorem dX1_copies_132 : decode cX1_copies 132 = .ok (.aload_n 1, 1) := by decide +kernel
theorem dX1_copies_133 : decode cX1_copies 133 = .ok (.getfield 65, 3) := by decide +kernel
theorem dX1_copies_136 : decode cX1_copies 136 = .ok (.putfield 65, 3) := by decide +kernel
theorem dX1_copies_139 : decode cX1_copies 139 = .ok (.return_, 1) := by decide +kernel
theorem dX1_comes_0 : decode cX1_comes 0 = .ok (.aload_n 0, 1) := by decide +kernel
theorem dX1_comes_1 : decode cX1_comes 1 = .ok (.getfield 53, 3) := by decide +kernel
theorem dX1_comes_4 : decode cX1_comes 4 = .ok (.istore 4, 2) := by decide +kernel
theorem dX1_comes_6 : decode cX1_comes 6 = .ok (.iload 4, 2) := by decide +kernel
theorem dX1_comes_8 : decode cX1_comes 8 = .ok (.bipush 6, 2) := by decide +kernel
theorem dX1_comes_10 : decode cX1_comes 10 = .ok (.if_icmp .lt 6, 3) := by decide +kernel
theorem dX1_comes_13 : decode cX1_comes 13 = .ok (.bipush (-4), 2) := by decide +kernel
theorem dX1_comes_15 : decode cX1_comes 15 = .ok (.ireturn, 1) := by decide +kernel
theorem dX1_comes_16 : decode cX1_comes 16 = .ok (.aload_n 0, 1) := by decide +kernel
theorem dX1_comes_17 : decode cX1_comes 17 = .ok (.getfield 9, 3) := by decide +kernel
theorem dX1_comes_20 : decode cX1_comes 20 = .ok (.iload 4, 2) := by decide +kernel
theorem dX1_comes_22 : decode cX1_comes 22 = .ok (.iload_n 1, 1) := by decide +kernel
theorem dX1_comes_23 : decode cX1_comes 23 = .ok (.iastore, 1) := by decide +kernel
theorem dX1_comes_24 : decode cX1_comes 24 = .ok (.aload_n 0, 1) := by decide +kernel
theorem dX1_comes_25 : decode cX1_comes 25 = .ok (.getfield 15, 3) := by decide +kernel
theorem dX1_comes_28 : decode cX1_comes 28 = .ok (.iload 4, 2) := by decide +kernel
theorem dX1_comes_30 : decode cX1_comes 30 = .ok (.iload_n 2, 1) := by decide +kernel
theorem dX1_comes_31 : decode cX1_comes 31 = .ok (.iastore, 1) := by decide +kernel
theorem dX1_comes_32 : decode cX1_comes 32 = .ok (.aload_n 0, 1) := by decide +kernel
theorem dX1_comes_33 : decode cX1_comes 33 = .ok (.getfield 18, 3) := by decide +kernel
theorem dX1_comes_36 : decode cX1_comes 36 = .ok (.iload 4, 2) := by decide +kernel
theorem dX1_comes_38 : decode cX1_comes 38 = .ok (.iload_n 3, 1) := by decide +kernel
theorem dX1_comes_39 : decode cX1_comes 39 = .ok (.iastore, 1) := by decide +kernel
theorem dX1_comes_40 : decode cX1_comes 40 = .ok (.aload_n 0, 1) := by decide +kernel
theorem dX1_comes_41 : decode cX1_comes 41 = .ok (.getfield 21, 3) := by decide +kernel
theorem dX1_comes_44 : decode cX1_comes 44 = .ok (.iload 4, 2) := by decide +kernel
theorem dX1_comes_46 : decode cX1_comes 46 = .ok (.bipush (-5), 2) := by decide +kernel
theorem dX1_comes_48 : decode cX1_comes 48 = .ok (.iastore, 1) := by decide +kernel
theorem dX1_comes_49 : decode cX1_comes 49 = .ok (.aload_n 0, 1) := by decide +kernel
theorem dX1_comes_50 : decode cX1_comes 50 = .ok (.dup, 1) := by decide +kernel
theorem dX1_comes_51 : decode cX1_comes 51 = .ok (.getfield 53, 3) := by decide +kernel
theorem dX1_comes_54 : decode cX1_comes 54 = .ok (.iconst 1, 1) := by decide +kernel
theorem dX1_comes_55 : decode cX1_comes 55 = .ok (.iadd, 1) := by decide +kernel
theorem dX1_comes_56 : decode cX1_comes 56 = .ok (.putfield 53, 3) := by decide +kernel
theorem dX1_comes_59 : decode cX1_comes 59 = .ok (.iload 4, 2) := by decide +kernel
theorem dX1_comes_61 : decode cX1_comes 61 = .ok (.ireturn, 1) := by decide +kernel
theorem dX1_rings_0 : decode cX1_rings 0 = .ok (.aload_n 0, 1) := by decide +kernel
theorem dX1_rings_1 : decode cX1_rings 1 = .ok (.dup, 1) := by decide +kernel
theorem dX1_rings_2 : decode cX1_rings 2 = .ok (.getfield 56, 3) := by decide +kernel
theorem dX1_rings_5 : decode cX1_rings 5 = .ok (.iconst 1, 1) := by decide +kernel
theorem dX1_rings_6 : decode cX1_rings 6 = .ok (.aload_n 0, 1) := by decide +kernel
theorem dX1_rings_7 : decode cX1_rings 7 = .ok (.getfield 36, 3) := by decide +kernel
theorem dX1_rings_10 : decode cX1_rings 10 = .ok (.iload_n 1, 1) := by decide +kernel
theorem dX1_rings_11 : decode cX1_rings 11 = .ok (.iaload, 1) := by decide +kernel
theorem dX1_rings_12 : decode cX1_rings 12 = .ok (.ishl, 1) := by decide +kernel
theorem dX1_rings_13 : decode cX1_rings 13 = .ok (.ior, 1) := by decide +kernel
theorem dX1_rings_14 : decode cX1_rings 14 = .ok (.putfield 56, 3) := by decide +kernel
theorem dX1_rings_17 : decode cX1_rings 17 = .ok (.aload_n 0, 1) := by decide +kernel
theorem dX1_rings_18 : decode cX1_rings 18 = .ok (.getfield 36, 3) := by decide +kernel
theorem dX1_rings_21 : decode cX1_rings 21 = .ok (.iload_n 1, 1) := by decide +kernel
theorem dX1_rings_22 : decode cX1_rings 22 = .ok (.iaload, 1) := by decide +kernel
theorem dX1_rings_23 : decode cX1_rings 23 = .ok (.ireturn, 1) := by decide +kernel
theorem dX1_isRung_0 : decode cX1_isRung 0 = .ok (.aload_n 0, 1) := by decide +kernel
theorem dX1_isRung_1 : decode cX1_isRung 1 = .ok (.getfield 56, 3) := by decide +kernel
theorem dX1_isRung_4 : decode cX1_isRung 4 = .ok (.iload_n 1, 1) := by decide +kernel
theorem dX1_isRung_5 : decode cX1_isRung 5 = .ok (.ishr, 1) := by decide +kernel
theorem dX1_isRung_6 : decode cX1_isRung 6 = .ok (.iconst 1, 1) := by decide +kernel
theorem dX1_isRung_7 : decode cX1_isRung 7 = .ok (.iand, 1) := by decide +kernel
theorem dX1_isRung_8 : decode cX1_isRung 8 = .ok (.ifCond .eq 7, 3) := by decide +kernel
theorem dX1_isRung_11 : decode cX1_isRung 11 = .ok (.iconst 1, 1) := by decide +kernel
theorem dX1_isRung_12 : decode cX1_isRung 12 = .ok (.goto 4, 3) := by decide +kernel
theorem dX1_isRung_15 : decode cX1_isRung 15 = .ok (.iconst 0, 1) := by decide +kernel
theorem dX1_isRung_16 : decode cX1_isRung 16 = .ok (.ireturn, 1) := by decide +kernel
theorem dX1_isFree_0 : decode cX1_isFree 0 = .ok (.aload_n 0, 1) := by decide +kernel
theorem dX1_isFree_1 : decode cX1_isFree 1 = .ok (.getfield 27, 3) := by decide +kernel
theorem dX1_isFree_4 : decode cX1_isFree 4 = .ok (.iload_n 1, 1) := by decide +kernel
theorem dX1_isFree_5 : decode cX1_isFree 5 = .ok (.iaload, 1) := by decide +kernel
theorem dX1_isFree_6 : decode cX1_isFree 6 = .ok (.ifCond .ne 27, 3) := by decide +kernel
theorem dX1_isFree_9 : decode cX1_isFree 9 = .ok (.aload_n 0, 1) := by decide +kernel
theorem dX1_isFree_10 : decode cX1_isFree 10 = .ok (.getfield 21, 3) := by decide +kernel
theorem dX1_isFree_13 : decode cX1_isFree 13 = .ok (.iload_n 1, 1) := by decide +kernel
theorem dX1_isFree_14 : decode cX1_isFree 14 = .ok (.iaload, 1) := by decide +kernel
theorem dX1_isFree_15 : decode cX1_isFree 15 = .ok (.bipush (-5), 2) := by decide +kernel
theorem dX1_isFree_17 : decode cX1_isFree 17 = .ok (.if_icmp .ne 16, 3) := by decide +kernel
theorem dX1_isFree_20 : decode cX1_isFree 20 = .ok (.aload_n 0, 1) := by decide +kernel
theorem dX1_isFree_21 : decode cX1_isFree 21 = .ok (.getfield 24, 3) := by decide +kernel
theorem dX1_isFree_24 : decode cX1_isFree 24 = .ok (.iload_n 1, 1) := by decide +kernel
theorem dX1_isFree_25 : decode cX1_isFree 25 = .ok (.iaload, 1) := by decide +kernel
theorem dX1_isFree_26 : decode cX1_isFree 26 = .ok (.ifCond .ne 7, 3) := by decide +kernel
theorem dX1_isFree_29 : decode cX1_isFree 29 = .ok (.iconst 1, 1) := by decide +kernel
theorem dX1_isFree_30 : decode cX1_isFree 30 = .ok (.goto 4, 3) := by decide +kernel
theorem dX1_isFree_33 : decode cX1_isFree 33 = .ok (.iconst 0, 1) := by decide +kernel
theorem dX1_isFree_34 : decode cX1_isFree 34 = .ok (.ireturn, 1) := by decide +kernel
theorem dX1_whoseGoal_0 : decode cX1_whoseGoal 0 = .ok (.iconst 0, 1) := by decide +kernel
theorem dX1_whoseGoal_1 : decode cX1_whoseGoal 1 = .ok (.istore_n 2, 1) := by decide +kernel
theorem dX1_whoseGoal_2 : decode cX1_whoseGoal 2 = .ok (.iload_n 2, 1) := by decide +kernel
theorem dX1_whoseGoal_3 : decode cX1_whoseGoal 3 = .ok (.aload_n 0, 1) := by decide +kernel
theorem dX1_whoseGoal_4 : decode cX1_whoseGoal 4 = .ok (.getfield 53, 3) := by decide +kernel
theorem dX1_whoseGoal_7 : decode cX1_whoseGoal 7 = .ok (.if_icmp .ge 21, 3) := by decide +kernel
theorem dX1_whoseGoal_10 : decode cX1_whoseGoal 10 = .ok (.aload_n 0, 1) := by decide +kernel
theorem dX1_whoseGoal_11 : decode cX1_whoseGoal 11 = .ok (.getfield 21, 3) := by decide +kernel
theorem dX1_whoseGoal_14 : decode cX1_whoseGoal 14 = .ok (.iload_n 2, 1) := by decide +kernel
theorem dX1_whoseGoal_15 : decode cX1_whoseGoal 15 = .ok (.iaload, 1) := by decide +kernel
theorem dX1_whoseGoal_16 : decode cX1_whoseGoal 16 = .ok (.iload_n 1, 1) := by decide +kernel
theorem dX1_whoseGoal_17 : decode cX1_whoseGoal 17 = .ok (.if_icmp .ne 5, 3) := by decide +kernel
theorem dX1_whoseGoal_20 : decode cX1_whoseGoal 20 = .ok (.iload_n 2, 1) := by decide +kernel
theorem dX1_whoseGoal_21 : decode cX1_whoseGoal 21 = .ok (.ireturn, 1) := by decide +kernel
theorem dX1_whoseGoal_22 : decode cX1_whoseGoal 22 = .ok (.iinc 2 1, 3) := by decide +kernel
theorem dX1_whoseGoal_25 : decode cX1_whoseGoal 25 = .ok (.goto (-23), 3) := by decide +kernel
theorem dX1_whoseGoal_28 : decode cX1_whoseGoal 28 = .ok (.bipush (-5), 2) := by decide +kernel
theorem dX1_whoseGoal_30 : decode cX1_whoseGoal 30 = .ok (.ireturn, 1) := by decide +kernel
set_option maxRecDepth 20000 in
theorem ggX1_waitsFor_X1_isRung : GoodIn wsX1_waitsFor wsX1_isRung := goodIn_r _ [5, 6, 13, 14, 15, 16, 17, 18, 19, 20, 21, 22, 23, 24, 25, 26, 27, 28, 29] (by decide +kernel) (by decide +kernel)
set_option maxRecDepth 20000 in
theorem gX1_waitsFor_X1_isRung : GoodIn wsX1_waitsFor (wsV RX1 69 RX1 yX1_isRung wsX1_isRung) := goodIn_app (goodIn_of _ (by decide +kernel)) ggX1_waitsFor_X1_isRung
set_option maxRecDepth 20000 in
theorem ggX1_waitsFor_X1_whoseGoal : GoodIn wsX1_waitsFor wsX1_whoseGoal := goodIn_r _ [10, 11, 12, 13, 14, 15, 16, 17, 18, 19, 20, 21, 22, 23, 24, 25, 26, 27, 28, 29] (by decide +kernel) (by decide +kernel)
set_option maxRecDepth 20000 in
theorem gX1_waitsFor_X1_whoseGoal : GoodIn wsX1_waitsFor (wsV RX1 73 RX1 yX1_whoseGoal wsX1_whoseGoal) := goodIn_app (goodIn_of _ (by decide +kernel)) ggX1_waitsFor_X1_whoseGoal
theorem dX1_waitsFor_0 : decode cX1_waitsFor 0 = .ok (.aload_n 0, 1) := by decide +kernel
theorem dX1_waitsFor_1 : decode cX1_waitsFor 1 = .ok (.iload_n 1, 1) := by decide +kernel
theorem dX1_waitsFor_2 : decode cX1_waitsFor 2 = .ok (.invokevirtual 69, 3) := by decide +kernel
theorem dX1_waitsFor_5 : decode cX1_waitsFor 5 = .ok (.ifCond .eq 17, 3) := by decide +kernel
theorem dX1_waitsFor_8 : decode cX1_waitsFor 8 = .ok (.aload_n 0, 1) := by decide +kernel
theorem dX1_waitsFor_9 : decode cX1_waitsFor 9 = .ok (.iload_n 1, 1) := by decide +kernel
theorem dX1_waitsFor_10 : decode cX1_waitsFor 10 = .ok (.invokevirtual 73, 3) := by decide +kernel
theorem dX1_waitsFor_13 : decode cX1_waitsFor 13 = .ok (.bipush (-5), 2) := by decide +kernel
theorem dX1_waitsFor_15 : decode cX1_waitsFor 15 = .ok (.if_icmp .ne 7, 3) := by decide +kernel
theorem dX1_waitsFor_18 : decode cX1_waitsFor 18 = .ok (.iconst 1, 1) := by decide +kernel
theorem dX1_waitsFor_19 : decode cX1_waitsFor 19 = .ok (.goto 4, 3) := by decide +kernel
theorem dX1_waitsFor_22 : decode cX1_waitsFor 22 = .ok (.iconst 0, 1) := by decide +kernel
theorem dX1_waitsFor_23 : decode cX1_waitsFor 23 = .ok (.ireturn, 1) := by decide +kernel
set_option maxRecDepth 20000 in
theorem ggX1_goes_X1_gives : GoodIn wsX1_goes wsX1_gives := goodIn_r _ [15, 16, 17, 18, 19, 14, 20, 21, 22, 23, 24, 5, 25, 26, 27, 28, 1, 29, 30, 31, 32, 33, 34, 35, 36, 2, 37, 38, 39, 40, 41, 42, 43, 44, 45, 10, 46, 47, 48, 49, 50, 51, 52, 8, 53, 54, 55, 56, 57, 58, 59, 60, 61, 62, 82, 83, 84, 85, 86, 87, 88, 89, 90, 91, 92, 93, 94, 95, 96, 97, 98, 99, 100, 101] (by decide +kernel) (by decide +kernel)
set_option maxRecDepth 20000 in
theorem gX1_goes_X1_gives : GoodIn wsX1_goes (wsV RX1 77 RX1 yX1_gives wsX1_gives) := goodIn_app (goodIn_of _ (by decide +kernel)) ggX1_goes_X1_gives
set_option maxRecDepth 20000 in
theorem ggX1_goes_X1_moves : GoodIn wsX1_goes wsX1_moves := goodIn_r _ [66, 16, 37, 67, 68, 8, 69, 42, 45, 70, 6, 7, 9, 5, 54, 71, 72, 73, 74, 75, 82, 83, 84, 85, 86, 87, 88, 89, 90, 91, 92, 93, 94, 95, 96, 97, 98, 99, 100, 101] (by decide +kernel) (by decide +kernel)
set_option maxRecDepth 20000 in
theorem gX1_goes_X1_moves : GoodIn wsX1_goes (wsV RX1 80 RX1 yX1_moves wsX1_moves) := goodIn_app (goodIn_of _ (by decide +kernel)) ggX1_goes_X1_moves
set_option maxRecDepth 20000 in
theorem ggX1_goes_J6_bitCount_0f7a4 : GoodIn wsX1_goes wsJ6_bitCount_0f7a4 := goodIn_r _ [78, 79, 80, 81] (by decide +kernel) (by decide +kernel)
set_option maxRecDepth 20000 in
theorem gX1_goes_J6_bitCount_0f7a4 : GoodIn wsX1_goes (va_wsS RX1 84 yJ6_bitCount_0f7a4 wsJ6_bitCount_0f7a4) := goodIn_app (goodIn_of _ (by decide +kernel)) ggX1_goes_J6_bitCount_0f7a4
theorem dX1_goes_0 : decode cX1_goes 0 = .ok (.iconst 0, 1) := by decide +kernel
theorem dX1_goes_1 : decode cX1_goes 1 = .ok (.istore_n 2, 1) := by decide +kernel
theorem dX1_goes_2 : decode cX1_goes 2 = .ok (.iload_n 2, 1) := by decide +kernel
theorem dX1_goes_3 : decode cX1_goes 3 = .ok (.iload_n 1, 1) := by decide +kernel
theorem dX1_goes_4 : decode cX1_goes 4 = .ok (.if_icmp .ge 76, 3) := by decide +kernel
theorem dX1_goes_7 : decode cX1_goes 7 = .ok (.aload_n 0, 1) := by decide +kernel
theorem dX1_goes_8 : decode cX1_goes 8 = .ok (.invokevirtual 77, 3) := by decide +kernel
theorem dX1_goes_11 : decode cX1_goes 11 = .ok (.iconst 0, 1) := by decide +kernel
theorem dX1_goes_12 : decode cX1_goes 12 = .ok (.istore_n 3, 1) := by decide +kernel
theorem dX1_goes_13 : decode cX1_goes 13 = .ok (.iload_n 3, 1) := by decide +kernel
theorem dX1_goes_14 : decode cX1_goes 14 = .ok (.aload_n 0, 1) := by decide +kernel
theorem dX1_goes_15 : decode cX1_goes 15 = .ok (.getfield 53, 3) := by decide +kernel
theorem dX1_goes_18 : decode cX1_goes 18 = .ok (.if_icmp .ge 23, 3) := by decide +kernel
theorem dX1_goes_21 : decode cX1_goes 21 = .ok (.aload_n 0, 1) := by decide +kernel
theorem dX1_goes_22 : decode cX1_goes 22 = .ok (.getfield 27, 3) := by decide +kernel
theorem dX1_goes_25 : decode cX1_goes 25 = .ok (.iload_n 3, 1) := by decide +kernel
theorem dX1_goes_26 : decode cX1_goes 26 = .ok (.iaload, 1) := by decide +kernel
theorem dX1_goes_27 : decode cX1_goes 27 = .ok (.ifCond .ne 8, 3) := by decide +kernel
theorem dX1_goes_30 : decode cX1_goes 30 = .ok (.aload_n 0, 1) := by decide +kernel
theorem dX1_goes_31 : decode cX1_goes 31 = .ok (.iload_n 3, 1) := by decide +kernel
theorem dX1_goes_32 : decode cX1_goes 32 = .ok (.invokevirtual 80, 3) := by decide +kernel
theorem dX1_goes_35 : decode cX1_goes 35 = .ok (.iinc 3 1, 3) := by decide +kernel
theorem dX1_goes_38 : decode cX1_goes 38 = .ok (.goto (-25), 3) := by decide +kernel
theorem dX1_goes_41 : decode cX1_goes 41 = .ok (.aload_n 0, 1) := by decide +kernel
theorem dX1_goes_42 : decode cX1_goes 42 = .ok (.aload_n 0, 1) := by decide +kernel
theorem dX1_goes_43 : decode cX1_goes 43 = .ok (.getfield 46, 3) := by decide +kernel
theorem dX1_goes_46 : decode cX1_goes 46 = .ok (.aload_n 0, 1) := by decide +kernel
theorem dX1_goes_47 : decode cX1_goes 47 = .ok (.getfield 59, 3) := by decide +kernel
theorem dX1_goes_50 : decode cX1_goes 50 = .ok (.aload_n 0, 1) := by decide +kernel
theorem dX1_goes_51 : decode cX1_goes 51 = .ok (.getfield 56, 3) := by decide +kernel
theorem dX1_goes_54 : decode cX1_goes 54 = .ok (.invokestatic 84, 3) := by decide +kernel
theorem dX1_goes_57 : decode cX1_goes 57 = .ok (.iadd, 1) := by decide +kernel
theorem dX1_goes_58 : decode cX1_goes 58 = .ok (.invokestatic 89, 3) := by decide +kernel
theorem dX1_goes_61 : decode cX1_goes 61 = .ok (.putfield 59, 3) := by decide +kernel
theorem dX1_goes_64 : decode cX1_goes 64 = .ok (.aload_n 0, 1) := by decide +kernel
theorem dX1_goes_65 : decode cX1_goes 65 = .ok (.dup, 1) := by decide +kernel
theorem dX1_goes_66 : decode cX1_goes 66 = .ok (.getfield 62, 3) := by decide +kernel
theorem dX1_goes_69 : decode cX1_goes 69 = .ok (.iconst 1, 1) := by decide +kernel
theorem dX1_goes_70 : decode cX1_goes 70 = .ok (.iadd, 1) := by decide +kernel
theorem dX1_goes_71 : decode cX1_goes 71 = .ok (.putfield 62, 3) := by decide +kernel
theorem dX1_goes_74 : decode cX1_goes 74 = .ok (.iinc 2 1, 3) := by decide +kernel
theorem dX1_goes_77 : decode cX1_goes 77 = .ok (.goto (-75), 3) := by decide +kernel
theorem dX1_goes_80 : decode cX1_goes 80 = .ok (.return_, 1) := by decide +kernel
set_option maxRecDepth 20000 in
theorem ggX1_gives_X1_waitsFor : GoodIn wsX1_gives wsX1_waitsFor := goodIn_r _ [6, 7, 8, 9, 5, 10, 11, 12, 13, 14, 15, 16, 1, 54, 55, 56, 57, 58, 59, 60, 61, 62, 63, 64, 65, 66, 67, 68, 69, 70] (by decide +kernel) (by decide +kernel)
set_option maxRecDepth 20000 in
theorem gX1_gives_X1_waitsFor : GoodIn wsX1_gives (wsV RX1 95 RX1 yX1_waitsFor wsX1_waitsFor) := goodIn_app (goodIn_of _ (by decide +kernel)) ggX1_gives_X1_waitsFor
set_option maxRecDepth 20000 in
theorem ggX1_gives_X1_cheapest : GoodIn wsX1_gives wsX1_cheapest := goodIn_r _ [20, 16, 21, 22, 23, 5, 24, 25, 1, 26, 27, 28, 29, 30, 31, 32, 33, 34, 35, 36, 37, 38, 39, 40, 41, 42, 43, 44, 45, 46, 47, 48, 49, 50, 51, 52, 53, 54, 55, 56, 57, 58, 59, 60, 61, 62, 63, 64, 65, 66, 67, 68, 69, 70, 71, 72, 73] (by decide +kernel) (by decide +kernel)
set_option maxRecDepth 20000 in
theorem gX1_gives_X1_cheapest : GoodIn wsX1_gives (wsV RX1 98 RX1 yX1_cheapest wsX1_cheapest) := goodIn_app (goodIn_of _ (by decide +kernel)) ggX1_gives_X1_cheapest
theorem dX1_gives_0 : decode cX1_gives 0 = .ok (.iconst 0, 1) := by decide +kernel
theorem dX1_gives_1 : decode cX1_gives 1 = .ok (.istore_n 1, 1) := by decide +kernel
theorem dX1_gives_2 : decode cX1_gives 2 = .ok (.iload_n 1, 1) := by decide +kernel
theorem dX1_gives_3 : decode cX1_gives 3 = .ok (.bipush 10, 2) := by decide +kernel
theorem dX1_gives_5 : decode cX1_gives 5 = .ok (.if_icmp .ge 40, 3) := by decide +kernel
theorem dX1_gives_8 : decode cX1_gives 8 = .ok (.aload_n 0, 1) := by decide +kernel
theorem dX1_gives_9 : decode cX1_gives 9 = .ok (.iload_n 1, 1) := by decide +kernel
theorem dX1_gives_10 : decode cX1_gives 10 = .ok (.invokevirtual 95, 3) := by decide +kernel
theorem dX1_gives_13 : decode cX1_gives 13 = .ok (.ifCond .ne 6, 3) := by decide +kernel
theorem dX1_gives_16 : decode cX1_gives 16 = .ok (.goto 23, 3) := by decide +kernel
theorem dX1_gives_19 : decode cX1_gives 19 = .ok (.aload_n 0, 1) := by decide +kernel
theorem dX1_gives_20 : decode cX1_gives 20 = .ok (.iload_n 1, 1) := by decide +kernel
theorem dX1_gives_21 : decode cX1_gives 21 = .ok (.invokevirtual 98, 3) := by decide +kernel
theorem dX1_gives_24 : decode cX1_gives 24 = .ok (.istore_n 2, 1) := by decide +kernel
theorem dX1_gives_25 : decode cX1_gives 25 = .ok (.iload_n 2, 1) := by decide +kernel
theorem dX1_gives_26 : decode cX1_gives 26 = .ok (.bipush (-5), 2) := by decide +kernel
theorem dX1_gives_28 : decode cX1_gives 28 = .ok (.if_icmp .ne 4, 3) := by decide +kernel
theorem dX1_gives_31 : decode cX1_gives 31 = .ok (.return_, 1) := by decide +kernel
theorem dX1_gives_32 : decode cX1_gives 32 = .ok (.aload_n 0, 1) := by decide +kernel
theorem dX1_gives_33 : decode cX1_gives 33 = .ok (.getfield 21, 3) := by decide +kernel
theorem dX1_gives_36 : decode cX1_gives 36 = .ok (.iload_n 2, 1) := by decide +kernel
theorem dX1_gives_37 : decode cX1_gives 37 = .ok (.iload_n 1, 1) := by decide +kernel
theorem dX1_gives_38 : decode cX1_gives 38 = .ok (.iastore, 1) := by decide +kernel
theorem dX1_gives_39 : decode cX1_gives 39 = .ok (.iinc 1 1, 3) := by decide +kernel
theorem dX1_gives_42 : decode cX1_gives 42 = .ok (.goto (-40), 3) := by decide +kernel
theorem dX1_gives_45 : decode cX1_gives 45 = .ok (.return_, 1) := by decide +kernel
set_option maxRecDepth 20000 in
theorem ggX1_cheapest_X1_isFree : GoodIn wsX1_cheapest wsX1_isFree := goodIn_r _ [6, 7, 8, 9, 37, 38, 39, 40, 41, 42, 43, 44, 45, 46, 47, 48, 49, 50, 51, 52, 53] (by decide +kernel) (by decide +kernel)
set_option maxRecDepth 20000 in
theorem gX1_cheapest_X1_isFree : GoodIn wsX1_cheapest (wsV RX1 101 RX1 yX1_isFree wsX1_isFree) := goodIn_app (goodIn_of _ (by decide +kernel)) ggX1_cheapest_X1_isFree
set_option maxRecDepth 20000 in
theorem ggX1_cheapest_X1_cost : GoodIn wsX1_cheapest wsX1_cost := goodIn_r _ [13, 14, 15, 16, 17, 18, 19, 20, 21, 22, 5, 23, 24, 25, 26, 27, 28, 29, 30, 31, 32, 33, 34, 35, 36, 37, 38, 39, 40, 41, 42, 43, 44, 45, 46, 47, 48, 49, 50, 51, 52, 53, 54, 55, 56] (by decide +kernel) (by decide +kernel)
set_option maxRecDepth 20000 in
theorem gX1_cheapest_X1_cost : GoodIn wsX1_cheapest (wsV RX1 104 RX1 yX1_cost wsX1_cost) := goodIn_app (goodIn_of _ (by decide +kernel)) ggX1_cheapest_X1_cost
theorem dX1_cheapest_0 : decode cX1_cheapest 0 = .ok (.bipush (-5), 2) := by decide +kernel
theorem dX1_cheapest_2 : decode cX1_cheapest 2 = .ok (.istore_n 2, 1) := by decide +kernel
theorem dX1_cheapest_3 : decode cX1_cheapest 3 = .ok (.iconst 0, 1) := by decide +kernel
theorem dX1_cheapest_4 : decode cX1_cheapest 4 = .ok (.istore_n 3, 1) := by decide +kernel
theorem dX1_cheapest_5 : decode cX1_cheapest 5 = .ok (.iconst 0, 1) := by decide +kernel
theorem dX1_cheapest_6 : decode cX1_cheapest 6 = .ok (.istore 4, 2) := by decide +kernel
theorem dX1_cheapest_8 : decode cX1_cheapest 8 = .ok (.iload 4, 2) := by decide +kernel
theorem dX1_cheapest_10 : decode cX1_cheapest 10 = .ok (.aload_n 0, 1) := by decide +kernel
theorem dX1_cheapest_11 : decode cX1_cheapest 11 = .ok (.getfield 53, 3) := by decide +kernel
theorem dX1_cheapest_14 : decode cX1_cheapest 14 = .ok (.if_icmp .ge 45, 3) := by decide +kernel
theorem dX1_cheapest_17 : decode cX1_cheapest 17 = .ok (.aload_n 0, 1) := by decide +kernel
theorem dX1_cheapest_18 : decode cX1_cheapest 18 = .ok (.iload 4, 2) := by decide +kernel
theorem dX1_cheapest_20 : decode cX1_cheapest 20 = .ok (.invokevirtual 101, 3) := by decide +kernel
theorem dX1_cheapest_23 : decode cX1_cheapest 23 = .ok (.ifCond .eq 30, 3) := by decide +kernel
theorem dX1_cheapest_26 : decode cX1_cheapest 26 = .ok (.aload_n 0, 1) := by decide +kernel
theorem dX1_cheapest_27 : decode cX1_cheapest 27 = .ok (.iload 4, 2) := by decide +kernel
theorem dX1_cheapest_29 : decode cX1_cheapest 29 = .ok (.iload_n 1, 1) := by decide +kernel
theorem dX1_cheapest_30 : decode cX1_cheapest 30 = .ok (.invokevirtual 104, 3) := by decide +kernel
theorem dX1_cheapest_33 : decode cX1_cheapest 33 = .ok (.istore 5, 2) := by decide +kernel
theorem dX1_cheapest_35 : decode cX1_cheapest 35 = .ok (.iload_n 2, 1) := by decide +kernel
theorem dX1_cheapest_36 : decode cX1_cheapest 36 = .ok (.bipush (-5), 2) := by decide +kernel
theorem dX1_cheapest_38 : decode cX1_cheapest 38 = .ok (.if_icmp .eq 9, 3) := by decide +kernel
theorem dX1_cheapest_41 : decode cX1_cheapest 41 = .ok (.iload 5, 2) := by decide +kernel
theorem dX1_cheapest_43 : decode cX1_cheapest 43 = .ok (.iload_n 3, 1) := by decide +kernel
theorem dX1_cheapest_44 : decode cX1_cheapest 44 = .ok (.if_icmp .ge 9, 3) := by decide +kernel
theorem dX1_cheapest_47 : decode cX1_cheapest 47 = .ok (.iload 4, 2) := by decide +kernel
theorem dX1_cheapest_49 : decode cX1_cheapest 49 = .ok (.istore_n 2, 1) := by decide +kernel
theorem dX1_cheapest_50 : decode cX1_cheapest 50 = .ok (.iload 5, 2) := by decide +kernel
theorem dX1_cheapest_52 : decode cX1_cheapest 52 = .ok (.istore_n 3, 1) := by decide +kernel
theorem dX1_cheapest_53 : decode cX1_cheapest 53 = .ok (.iinc 4 1, 3) := by decide +kernel
theorem dX1_cheapest_56 : decode cX1_cheapest 56 = .ok (.goto (-48), 3) := by decide +kernel
theorem dX1_cheapest_59 : decode cX1_cheapest 59 = .ok (.iload_n 2, 1) := by decide +kernel
theorem dX1_cheapest_60 : decode cX1_cheapest 60 = .ok (.ireturn, 1) := by decide +kernel
set_option maxRecDepth 20000 in
theorem ggX1_moves_J6_compare_7cf53 : GoodIn wsX1_moves wsJ6_compare_7cf53 := goodIn_r _ [19] (by decide +kernel) (by decide +kernel)
set_option maxRecDepth 20000 in
theorem gX1_moves_J6_compare_7cf53 : GoodIn wsX1_moves (va_wsS RX1 110 yJ6_compare_7cf53 wsJ6_compare_7cf53) := goodIn_app (goodIn_of _ (by decide +kernel)) ggX1_moves_J6_compare_7cf53
theorem dX1_moves_0 : decode cX1_moves 0 = .ok (.aload_n 0, 1) := by decide +kernel
theorem dX1_moves_1 : decode cX1_moves 1 = .ok (.getfield 21, 3) := by decide +kernel
theorem dX1_moves_4 : decode cX1_moves 4 = .ok (.iload_n 1, 1) := by decide +kernel
theorem dX1_moves_5 : decode cX1_moves 5 = .ok (.iaload, 1) := by decide +kernel
theorem dX1_moves_6 : decode cX1_moves 6 = .ok (.bipush (-5), 2) := by decide +kernel
theorem dX1_moves_8 : decode cX1_moves 8 = .ok (.if_icmp .ne 22, 3) := by decide +kernel
theorem dX1_moves_11 : decode cX1_moves 11 = .ok (.aload_n 0, 1) := by decide +kernel
theorem dX1_moves_12 : decode cX1_moves 12 = .ok (.getfield 24, 3) := by decide +kernel
theorem dX1_moves_15 : decode cX1_moves 15 = .ok (.iload_n 1, 1) := by decide +kernel
theorem dX1_moves_16 : decode cX1_moves 16 = .ok (.iconst 0, 1) := by decide +kernel
theorem dX1_moves_17 : decode cX1_moves 17 = .ok (.aload_n 0, 1) := by decide +kernel
theorem dX1_moves_18 : decode cX1_moves 18 = .ok (.getfield 24, 3) := by decide +kernel
theorem dX1_moves_21 : decode cX1_moves 21 = .ok (.iload_n 1, 1) := by decide +kernel
theorem dX1_moves_22 : decode cX1_moves 22 = .ok (.iaload, 1) := by decide +kernel
theorem dX1_moves_23 : decode cX1_moves 23 = .ok (.iconst 1, 1) := by decide +kernel
theorem dX1_moves_24 : decode cX1_moves 24 = .ok (.isub, 1) := by decide +kernel
theorem dX1_moves_25 : decode cX1_moves 25 = .ok (.invokestatic 107, 3) := by decide +kernel
theorem dX1_moves_28 : decode cX1_moves 28 = .ok (.iastore, 1) := by decide +kernel
theorem dX1_moves_29 : decode cX1_moves 29 = .ok (.return_, 1) := by decide +kernel
theorem dX1_moves_30 : decode cX1_moves 30 = .ok (.aload_n 0, 1) := by decide +kernel
theorem dX1_moves_31 : decode cX1_moves 31 = .ok (.getfield 18, 3) := by decide +kernel
theorem dX1_moves_34 : decode cX1_moves 34 = .ok (.iload_n 1, 1) := by decide +kernel
theorem dX1_moves_35 : decode cX1_moves 35 = .ok (.dup2, 1) := by decide +kernel
theorem dX1_moves_36 : decode cX1_moves 36 = .ok (.iaload, 1) := by decide +kernel
theorem dX1_moves_37 : decode cX1_moves 37 = .ok (.aload_n 0, 1) := by decide +kernel
theorem dX1_moves_38 : decode cX1_moves 38 = .ok (.getfield 21, 3) := by decide +kernel
theorem dX1_moves_41 : decode cX1_moves 41 = .ok (.iload_n 1, 1) := by decide +kernel
theorem dX1_moves_42 : decode cX1_moves 42 = .ok (.iaload, 1) := by decide +kernel
theorem dX1_moves_43 : decode cX1_moves 43 = .ok (.aload_n 0, 1) := by decide +kernel
theorem dX1_moves_44 : decode cX1_moves 44 = .ok (.getfield 18, 3) := by decide +kernel
theorem dX1_moves_47 : decode cX1_moves 47 = .ok (.iload_n 1, 1) := by decide +kernel
theorem dX1_moves_48 : decode cX1_moves 48 = .ok (.iaload, 1) := by decide +kernel
theorem dX1_moves_49 : decode cX1_moves 49 = .ok (.invokestatic 110, 3) := by decide +kernel
theorem dX1_moves_52 : decode cX1_moves 52 = .ok (.iadd, 1) := by decide +kernel
theorem dX1_moves_53 : decode cX1_moves 53 = .ok (.iastore, 1) := by decide +kernel
theorem dX1_moves_54 : decode cX1_moves 54 = .ok (.aload_n 0, 1) := by decide +kernel
theorem dX1_moves_55 : decode cX1_moves 55 = .ok (.getfield 18, 3) := by decide +kernel
theorem dX1_moves_58 : decode cX1_moves 58 = .ok (.iload_n 1, 1) := by decide +kernel
theorem dX1_moves_59 : decode cX1_moves 59 = .ok (.iaload, 1) := by decide +kernel
theorem dX1_moves_60 : decode cX1_moves 60 = .ok (.aload_n 0, 1) := by decide +kernel
theorem dX1_moves_61 : decode cX1_moves 61 = .ok (.getfield 21, 3) := by decide +kernel
theorem dX1_moves_64 : decode cX1_moves 64 = .ok (.iload_n 1, 1) := by decide +kernel
theorem dX1_moves_65 : decode cX1_moves 65 = .ok (.iaload, 1) := by decide +kernel
theorem dX1_moves_66 : decode cX1_moves 66 = .ok (.if_icmp .ne 75, 3) := by decide +kernel
theorem dX1_moves_69 : decode cX1_moves 69 = .ok (.aload_n 0, 1) := by decide +kernel
theorem dX1_moves_70 : decode cX1_moves 70 = .ok (.getfield 30, 3) := by decide +kernel
theorem dX1_moves_73 : decode cX1_moves 73 = .ok (.iload_n 1, 1) := by decide +kernel
theorem dX1_moves_74 : decode cX1_moves 74 = .ok (.aload_n 0, 1) := by decide +kernel
theorem dX1_moves_75 : decode cX1_moves 75 = .ok (.getfield 42, 3) := by decide +kernel
theorem dX1_moves_78 : decode cX1_moves 78 = .ok (.aload_n 0, 1) := by decide +kernel
theorem dX1_moves_79 : decode cX1_moves 79 = .ok (.getfield 30, 3) := by decide +kernel
theorem dX1_moves_82 : decode cX1_moves 82 = .ok (.iload_n 1, 1) := by decide +kernel
theorem dX1_moves_83 : decode cX1_moves 83 = .ok (.iaload, 1) := by decide +kernel
theorem dX1_moves_84 : decode cX1_moves 84 = .ok (.iconst 1, 1) := by decide +kernel
theorem dX1_moves_85 : decode cX1_moves 85 = .ok (.iadd, 1) := by decide +kernel
theorem dX1_moves_86 : decode cX1_moves 86 = .ok (.invokestatic 89, 3) := by decide +kernel
theorem dX1_moves_89 : decode cX1_moves 89 = .ok (.iastore, 1) := by decide +kernel
theorem dX1_moves_90 : decode cX1_moves 90 = .ok (.aload_n 0, 1) := by decide +kernel
theorem dX1_moves_91 : decode cX1_moves 91 = .ok (.dup, 1) := by decide +kernel
theorem dX1_moves_92 : decode cX1_moves 92 = .ok (.getfield 56, 3) := by decide +kernel
theorem dX1_moves_95 : decode cX1_moves 95 = .ok (.iconst 1, 1) := by decide +kernel
theorem dX1_moves_96 : decode cX1_moves 96 = .ok (.aload_n 0, 1) := by decide +kernel
theorem dX1_moves_97 : decode cX1_moves 97 = .ok (.getfield 21, 3) := by decide +kernel
theorem dX1_moves_100 : decode cX1_moves 100 = .ok (.iload_n 1, 1) := by decide +kernel
theorem dX1_moves_101 : decode cX1_moves 101 = .ok (.iaload, 1) := by decide +kernel
theorem dX1_moves_102 : decode cX1_moves 102 = .ok (.ishl, 1) := by decide +kernel
theorem dX1_moves_103 : decode cX1_moves 103 = .ok (.iconst (-1), 1) := by decide +kernel
theorem dX1_moves_104 : decode cX1_moves 104 = .ok (.ixor, 1) := by decide +kernel
theorem dX1_moves_105 : decode cX1_moves 105 = .ok (.iand, 1) := by decide +kernel
theorem dX1_moves_106 : decode cX1_moves 106 = .ok (.putfield 56, 3) := by decide +kernel
theorem dX1_moves_109 : decode cX1_moves 109 = .ok (.aload_n 0, 1) := by decide +kernel
theorem dX1_moves_110 : decode cX1_moves 110 = .ok (.getfield 21, 3) := by decide +kernel
theorem dX1_moves_113 : decode cX1_moves 113 = .ok (.iload_n 1, 1) := by decide +kernel
theorem dX1_moves_114 : decode cX1_moves 114 = .ok (.bipush (-5), 2) := by decide +kernel
theorem dX1_moves_116 : decode cX1_moves 116 = .ok (.iastore, 1) := by decide +kernel
theorem dX1_moves_117 : decode cX1_moves 117 = .ok (.aload_n 0, 1) := by decide +kernel
theorem dX1_moves_118 : decode cX1_moves 118 = .ok (.getfield 24, 3) := by decide +kernel
theorem dX1_moves_121 : decode cX1_moves 121 = .ok (.iload_n 1, 1) := by decide +kernel
theorem dX1_moves_122 : decode cX1_moves 122 = .ok (.aload_n 0, 1) := by decide +kernel
theorem dX1_moves_123 : decode cX1_moves 123 = .ok (.getfield 65, 3) := by decide +kernel
theorem dX1_moves_126 : decode cX1_moves 126 = .ok (.ifnonnull 7, 3) := by decide +kernel
theorem dX1_moves_129 : decode cX1_moves 129 = .ok (.iconst 2, 1) := by decide +kernel
theorem dX1_moves_130 : decode cX1_moves 130 = .ok (.goto 10, 3) := by decide +kernel
theorem dX1_moves_133 : decode cX1_moves 133 = .ok (.aload_n 0, 1) := by decide +kernel
theorem dX1_moves_134 : decode cX1_moves 134 = .ok (.getfield 65, 3) := by decide +kernel
theorem dX1_moves_137 : decode cX1_moves 137 = .ok (.getfield 115, 3) := by decide +kernel
theorem dX1_moves_140 : decode cX1_moves 140 = .ok (.iastore, 1) := by decide +kernel
theorem dX1_moves_141 : decode cX1_moves 141 = .ok (.return_, 1) := by decide +kernel
set_option maxRecDepth 20000 in
theorem ggX1_cost_X1_sum : GoodIn wsX1_cost wsX1_sum := goodIn_r _ [11, 1, 12, 13, 14, 15, 16, 17, 3, 2, 5, 18, 19, 20, 21, 22, 23, 24, 25, 26, 27, 28, 29, 30, 31, 32, 33, 34, 35, 36, 37, 38, 39, 40, 41, 42, 43, 44] (by decide +kernel) (by decide +kernel)
set_option maxRecDepth 20000 in
theorem gX1_cost_X1_sum : GoodIn wsX1_cost (wsV RX1 118 RX1 yX1_sum wsX1_sum) := goodIn_app (goodIn_of _ (by decide +kernel)) ggX1_cost_X1_sum
theorem dX1_cost_0 : decode cX1_cost 0 = .ok (.aload_n 0, 1) := by decide +kernel
theorem dX1_cost_1 : decode cX1_cost 1 = .ok (.iload_n 1, 1) := by decide +kernel
theorem dX1_cost_2 : decode cX1_cost 2 = .ok (.iload_n 2, 1) := by decide +kernel
theorem dX1_cost_3 : decode cX1_cost 3 = .ok (.invokevirtual 118, 3) := by decide +kernel
theorem dX1_cost_6 : decode cX1_cost 6 = .ok (.istore_n 3, 1) := by decide +kernel
theorem dX1_cost_7 : decode cX1_cost 7 = .ok (.iload_n 2, 1) := by decide +kernel
theorem dX1_cost_8 : decode cX1_cost 8 = .ok (.aload_n 0, 1) := by decide +kernel
theorem dX1_cost_9 : decode cX1_cost 9 = .ok (.getfield 18, 3) := by decide +kernel
theorem dX1_cost_12 : decode cX1_cost 12 = .ok (.iload_n 1, 1) := by decide +kernel
theorem dX1_cost_13 : decode cX1_cost 13 = .ok (.iaload, 1) := by decide +kernel
theorem dX1_cost_14 : decode cX1_cost 14 = .ok (.if_icmp .ge 12, 3) := by decide +kernel
theorem dX1_cost_17 : decode cX1_cost 17 = .ok (.aload_n 0, 1) := by decide +kernel
theorem dX1_cost_18 : decode cX1_cost 18 = .ok (.getfield 15, 3) := by decide +kernel
theorem dX1_cost_21 : decode cX1_cost 21 = .ok (.iload_n 1, 1) := by decide +kernel
theorem dX1_cost_22 : decode cX1_cost 22 = .ok (.iaload, 1) := by decide +kernel
theorem dX1_cost_23 : decode cX1_cost 23 = .ok (.goto 4, 3) := by decide +kernel
theorem dX1_cost_26 : decode cX1_cost 26 = .ok (.iconst 0, 1) := by decide +kernel
theorem dX1_cost_27 : decode cX1_cost 27 = .ok (.istore 4, 2) := by decide +kernel
theorem dX1_cost_29 : decode cX1_cost 29 = .ok (.aload_n 0, 1) := by decide +kernel
theorem dX1_cost_30 : decode cX1_cost 30 = .ok (.getfield 9, 3) := by decide +kernel
theorem dX1_cost_33 : decode cX1_cost 33 = .ok (.iload_n 1, 1) := by decide +kernel
theorem dX1_cost_34 : decode cX1_cost 34 = .ok (.iaload, 1) := by decide +kernel
theorem dX1_cost_35 : decode cX1_cost 35 = .ok (.tableswitch 106 1 6 #[37, 46, 50, 55, 74, 85], 37) := by decide +kernel
theorem dX1_cost_72 : decode cX1_cost 72 = .ok (.iload_n 3, 1) := by decide +kernel
theorem dX1_cost_73 : decode cX1_cost 73 = .ok (.aload_n 0, 1) := by decide +kernel
theorem dX1_cost_74 : decode cX1_cost 74 = .ok (.getfield 30, 3) := by decide +kernel
theorem dX1_cost_77 : decode cX1_cost 77 = .ok (.iload_n 1, 1) := by decide +kernel
theorem dX1_cost_78 : decode cX1_cost 78 = .ok (.iaload, 1) := by decide +kernel
theorem dX1_cost_79 : decode cX1_cost 79 = .ok (.iadd, 1) := by decide +kernel
theorem dX1_cost_80 : decode cX1_cost 80 = .ok (.ireturn, 1) := by decide +kernel
theorem dX1_cost_81 : decode cX1_cost 81 = .ok (.iload_n 3, 1) := by decide +kernel
theorem dX1_cost_82 : decode cX1_cost 82 = .ok (.iconst 2, 1) := by decide +kernel
theorem dX1_cost_83 : decode cX1_cost 83 = .ok (.idiv, 1) := by decide +kernel
theorem dX1_cost_84 : decode cX1_cost 84 = .ok (.ireturn, 1) := by decide +kernel
theorem dX1_cost_85 : decode cX1_cost 85 = .ok (.iload_n 3, 1) := by decide +kernel
theorem dX1_cost_86 : decode cX1_cost 86 = .ok (.iload 4, 2) := by decide +kernel
theorem dX1_cost_88 : decode cX1_cost 88 = .ok (.iadd, 1) := by decide +kernel
theorem dX1_cost_89 : decode cX1_cost 89 = .ok (.ireturn, 1) := by decide +kernel
theorem dX1_cost_90 : decode cX1_cost 90 = .ok (.iload_n 3, 1) := by decide +kernel
theorem dX1_cost_91 : decode cX1_cost 91 = .ok (.aload_n 0, 1) := by decide +kernel
theorem dX1_cost_92 : decode cX1_cost 92 = .ok (.getfield 30, 3) := by decide +kernel
theorem dX1_cost_95 : decode cX1_cost 95 = .ok (.iload_n 1, 1) := by decide +kernel
theorem dX1_cost_96 : decode cX1_cost 96 = .ok (.iaload, 1) := by decide +kernel
theorem dX1_cost_97 : decode cX1_cost 97 = .ok (.iadd, 1) := by decide +kernel
theorem dX1_cost_98 : decode cX1_cost 98 = .ok (.aload_n 0, 1) := by decide +kernel
theorem dX1_cost_99 : decode cX1_cost 99 = .ok (.getfield 62, 3) := by decide +kernel
theorem dX1_cost_102 : decode cX1_cost 102 = .ok (.iconst 2, 1) := by decide +kernel
theorem dX1_cost_103 : decode cX1_cost 103 = .ok (.irem, 1) := by decide +kernel
theorem dX1_cost_104 : decode cX1_cost 104 = .ok (.bipush 20, 2) := by decide +kernel
theorem dX1_cost_106 : decode cX1_cost 106 = .ok (.imul, 1) := by decide +kernel
theorem dX1_cost_107 : decode cX1_cost 107 = .ok (.iadd, 1) := by decide +kernel
theorem dX1_cost_108 : decode cX1_cost 108 = .ok (.ireturn, 1) := by decide +kernel
theorem dX1_cost_109 : decode cX1_cost 109 = .ok (.iload_n 3, 1) := by decide +kernel
theorem dX1_cost_110 : decode cX1_cost 110 = .ok (.iconst 2, 1) := by decide +kernel
theorem dX1_cost_111 : decode cX1_cost 111 = .ok (.idiv, 1) := by decide +kernel
theorem dX1_cost_112 : decode cX1_cost 112 = .ok (.aload_n 0, 1) := by decide +kernel
theorem dX1_cost_113 : decode cX1_cost 113 = .ok (.getfield 15, 3) := by decide +kernel
theorem dX1_cost_116 : decode cX1_cost 116 = .ok (.iload_n 1, 1) := by decide +kernel
theorem dX1_cost_117 : decode cX1_cost 117 = .ok (.iaload, 1) := by decide +kernel
theorem dX1_cost_118 : decode cX1_cost 118 = .ok (.isub, 1) := by decide +kernel
theorem dX1_cost_119 : decode cX1_cost 119 = .ok (.ireturn, 1) := by decide +kernel
theorem dX1_cost_120 : decode cX1_cost 120 = .ok (.iload_n 3, 1) := by decide +kernel
theorem dX1_cost_121 : decode cX1_cost 121 = .ok (.iload 4, 2) := by decide +kernel
theorem dX1_cost_123 : decode cX1_cost 123 = .ok (.iadd, 1) := by decide +kernel
theorem dX1_cost_124 : decode cX1_cost 124 = .ok (.aload_n 0, 1) := by decide +kernel
theorem dX1_cost_125 : decode cX1_cost 125 = .ok (.getfield 33, 3) := by decide +kernel
theorem dX1_cost_128 : decode cX1_cost 128 = .ok (.iload_n 1, 1) := by decide +kernel
theorem dX1_cost_129 : decode cX1_cost 129 = .ok (.iconst 4, 1) := by decide +kernel
theorem dX1_cost_130 : decode cX1_cost 130 = .ok (.imul, 1) := by decide +kernel
theorem dX1_cost_131 : decode cX1_cost 131 = .ok (.aload_n 0, 1) := by decide +kernel
theorem dX1_cost_132 : decode cX1_cost 132 = .ok (.getfield 62, 3) := by decide +kernel
theorem dX1_cost_135 : decode cX1_cost 135 = .ok (.iconst 4, 1) := by decide +kernel
theorem dX1_cost_136 : decode cX1_cost 136 = .ok (.irem, 1) := by decide +kernel
theorem dX1_cost_137 : decode cX1_cost 137 = .ok (.iadd, 1) := by decide +kernel
theorem dX1_cost_138 : decode cX1_cost 138 = .ok (.iaload, 1) := by decide +kernel
theorem dX1_cost_139 : decode cX1_cost 139 = .ok (.iadd, 1) := by decide +kernel
theorem dX1_cost_140 : decode cX1_cost 140 = .ok (.ireturn, 1) := by decide +kernel
theorem dX1_cost_141 : decode cX1_cost 141 = .ok (.iload_n 3, 1) := by decide +kernel
theorem dX1_cost_142 : decode cX1_cost 142 = .ok (.ireturn, 1) := by decide +kernel
set_option maxRecDepth 20000 in
theorem ggX1_sum_X2_weighs : GoodIn wsX1_sum wsX2_weighs := goodIn_r _ [15, 16, 17, 35, 36, 37] (by decide +kernel) (by decide +kernel)
set_option maxRecDepth 20000 in
theorem gX1_sum_X2_weighs : GoodIn wsX1_sum (wsV RX1 124 RX2 yX2_weighs wsX2_weighs) := goodIn_app (goodIn_of _ (by decide +kernel)) ggX1_sum_X2_weighs
theorem dX1_sum_0 : decode cX1_sum 0 = .ok (.aload_n 0, 1) := by decide +kernel
theorem dX1_sum_1 : decode cX1_sum 1 = .ok (.getfield 18, 3) := by decide +kernel
theorem dX1_sum_4 : decode cX1_sum 4 = .ok (.iload_n 1, 1) := by decide +kernel
theorem dX1_sum_5 : decode cX1_sum 5 = .ok (.iaload, 1) := by decide +kernel
theorem dX1_sum_6 : decode cX1_sum 6 = .ok (.iload_n 2, 1) := by decide +kernel
theorem dX1_sum_7 : decode cX1_sum 7 = .ok (.isub, 1) := by decide +kernel
theorem dX1_sum_8 : decode cX1_sum 8 = .ok (.invokestatic 121, 3) := by decide +kernel
theorem dX1_sum_11 : decode cX1_sum 11 = .ok (.istore_n 3, 1) := by decide +kernel
theorem dX1_sum_12 : decode cX1_sum 12 = .ok (.aload_n 0, 1) := by decide +kernel
theorem dX1_sum_13 : decode cX1_sum 13 = .ok (.getfield 65, 3) := by decide +kernel
theorem dX1_sum_16 : decode cX1_sum 16 = .ok (.ifnonnull 7, 3) := by decide +kernel
theorem dX1_sum_19 : decode cX1_sum 19 = .ok (.iconst 2, 1) := by decide +kernel
theorem dX1_sum_20 : decode cX1_sum 20 = .ok (.iload_n 3, 1) := by decide +kernel
theorem dX1_sum_21 : decode cX1_sum 21 = .ok (.imul, 1) := by decide +kernel
theorem dX1_sum_22 : decode cX1_sum 22 = .ok (.ireturn, 1) := by decide +kernel
theorem dX1_sum_23 : decode cX1_sum 23 = .ok (.aload_n 0, 1) := by decide +kernel
theorem dX1_sum_24 : decode cX1_sum 24 = .ok (.getfield 39, 3) := by decide +kernel
theorem dX1_sum_27 : decode cX1_sum 27 = .ok (.iconst 0, 1) := by decide +kernel
theorem dX1_sum_28 : decode cX1_sum 28 = .ok (.iload_n 1, 1) := by decide +kernel
theorem dX1_sum_29 : decode cX1_sum 29 = .ok (.iastore, 1) := by decide +kernel
theorem dX1_sum_30 : decode cX1_sum 30 = .ok (.aload_n 0, 1) := by decide +kernel
theorem dX1_sum_31 : decode cX1_sum 31 = .ok (.getfield 39, 3) := by decide +kernel
theorem dX1_sum_34 : decode cX1_sum 34 = .ok (.iconst 1, 1) := by decide +kernel
theorem dX1_sum_35 : decode cX1_sum 35 = .ok (.aload_n 0, 1) := by decide +kernel
theorem dX1_sum_36 : decode cX1_sum 36 = .ok (.getfield 9, 3) := by decide +kernel
theorem dX1_sum_39 : decode cX1_sum 39 = .ok (.iload_n 1, 1) := by decide +kernel
theorem dX1_sum_40 : decode cX1_sum 40 = .ok (.iaload, 1) := by decide +kernel
theorem dX1_sum_41 : decode cX1_sum 41 = .ok (.iastore, 1) := by decide +kernel
theorem dX1_sum_42 : decode cX1_sum 42 = .ok (.aload_n 0, 1) := by decide +kernel
theorem dX1_sum_43 : decode cX1_sum 43 = .ok (.getfield 39, 3) := by decide +kernel
theorem dX1_sum_46 : decode cX1_sum 46 = .ok (.iconst 2, 1) := by decide +kernel
theorem dX1_sum_47 : decode cX1_sum 47 = .ok (.aload_n 0, 1) := by decide +kernel
theorem dX1_sum_48 : decode cX1_sum 48 = .ok (.getfield 15, 3) := by decide +kernel
theorem dX1_sum_51 : decode cX1_sum 51 = .ok (.iload_n 1, 1) := by decide +kernel
theorem dX1_sum_52 : decode cX1_sum 52 = .ok (.iaload, 1) := by decide +kernel
theorem dX1_sum_53 : decode cX1_sum 53 = .ok (.iastore, 1) := by decide +kernel
theorem dX1_sum_54 : decode cX1_sum 54 = .ok (.aload_n 0, 1) := by decide +kernel
theorem dX1_sum_55 : decode cX1_sum 55 = .ok (.getfield 39, 3) := by decide +kernel
theorem dX1_sum_58 : decode cX1_sum 58 = .ok (.iconst 3, 1) := by decide +kernel
theorem dX1_sum_59 : decode cX1_sum 59 = .ok (.iload_n 2, 1) := by decide +kernel
theorem dX1_sum_60 : decode cX1_sum 60 = .ok (.iastore, 1) := by decide +kernel
theorem dX1_sum_61 : decode cX1_sum 61 = .ok (.aload_n 0, 1) := by decide +kernel
theorem dX1_sum_62 : decode cX1_sum 62 = .ok (.getfield 39, 3) := by decide +kernel
theorem dX1_sum_65 : decode cX1_sum 65 = .ok (.iconst 4, 1) := by decide +kernel
theorem dX1_sum_66 : decode cX1_sum 66 = .ok (.iload_n 3, 1) := by decide +kernel
theorem dX1_sum_67 : decode cX1_sum 67 = .ok (.iastore, 1) := by decide +kernel
theorem dX1_sum_68 : decode cX1_sum 68 = .ok (.aload_n 0, 1) := by decide +kernel
theorem dX1_sum_69 : decode cX1_sum 69 = .ok (.getfield 39, 3) := by decide +kernel
theorem dX1_sum_72 : decode cX1_sum 72 = .ok (.iconst 5, 1) := by decide +kernel
theorem dX1_sum_73 : decode cX1_sum 73 = .ok (.aload_n 0, 1) := by decide +kernel
theorem dX1_sum_74 : decode cX1_sum 74 = .ok (.getfield 62, 3) := by decide +kernel
theorem dX1_sum_77 : decode cX1_sum 77 = .ok (.bipush 10, 2) := by decide +kernel
theorem dX1_sum_79 : decode cX1_sum 79 = .ok (.irem, 1) := by decide +kernel
theorem dX1_sum_80 : decode cX1_sum 80 = .ok (.iastore, 1) := by decide +kernel
theorem dX1_sum_81 : decode cX1_sum 81 = .ok (.iconst 2, 1) := by decide +kernel
theorem dX1_sum_82 : decode cX1_sum 82 = .ok (.iload_n 3, 1) := by decide +kernel
theorem dX1_sum_83 : decode cX1_sum 83 = .ok (.imul, 1) := by decide +kernel
theorem dX1_sum_84 : decode cX1_sum 84 = .ok (.aload_n 0, 1) := by decide +kernel
theorem dX1_sum_85 : decode cX1_sum 85 = .ok (.getfield 65, 3) := by decide +kernel
theorem dX1_sum_88 : decode cX1_sum 88 = .ok (.aload_n 0, 1) := by decide +kernel
theorem dX1_sum_89 : decode cX1_sum 89 = .ok (.getfield 39, 3) := by decide +kernel
theorem dX1_sum_92 : decode cX1_sum 92 = .ok (.invokevirtual 124, 3) := by decide +kernel
theorem dX1_sum_95 : decode cX1_sum 95 = .ok (.iadd, 1) := by decide +kernel
theorem dX1_sum_96 : decode cX1_sum 96 = .ok (.ireturn, 1) := by decide +kernel
theorem dX1_loop_0 : decode cX1_loop 0 = .ok (.iconst 1, 1) := by decide +kernel
theorem dX1_loop_1 : decode cX1_loop 1 = .ok (.istore_n 2, 1) := by decide +kernel
theorem dX1_loop_2 : decode cX1_loop 2 = .ok (.aload_n 0, 1) := by decide +kernel
theorem dX1_loop_3 : decode cX1_loop 3 = .ok (.getfield 36, 3) := by decide +kernel
theorem dX1_loop_6 : decode cX1_loop 6 = .ok (.iload_n 1, 1) := by decide +kernel
theorem dX1_loop_7 : decode cX1_loop 7 = .ok (.iaload, 1) := by decide +kernel
theorem dX1_loop_8 : decode cX1_loop 8 = .ok (.istore_n 3, 1) := by decide +kernel
theorem dX1_loop_9 : decode cX1_loop 9 = .ok (.iload_n 3, 1) := by decide +kernel
theorem dX1_loop_10 : decode cX1_loop 10 = .ok (.iload_n 1, 1) := by decide +kernel
theorem dX1_loop_11 : decode cX1_loop 11 = .ok (.if_icmp .eq 22, 3) := by decide +kernel
theorem dX1_loop_14 : decode cX1_loop 14 = .ok (.iload_n 2, 1) := by decide +kernel
theorem dX1_loop_15 : decode cX1_loop 15 = .ok (.bipush 10, 2) := by decide +kernel
theorem dX1_loop_17 : decode cX1_loop 17 = .ok (.if_icmp .ge 16, 3) := by decide +kernel
theorem dX1_loop_20 : decode cX1_loop 20 = .ok (.aload_n 0, 1) := by decide +kernel
theorem dX1_loop_21 : decode cX1_loop 21 = .ok (.getfield 36, 3) := by decide +kernel
theorem dX1_loop_24 : decode cX1_loop 24 = .ok (.iload_n 3, 1) := by decide +kernel
theorem dX1_loop_25 : decode cX1_loop 25 = .ok (.iaload, 1) := by decide +kernel
theorem dX1_loop_26 : decode cX1_loop 26 = .ok (.istore_n 3, 1) := by decide +kernel
theorem dX1_loop_27 : decode cX1_loop 27 = .ok (.iinc 2 1, 3) := by decide +kernel
theorem dX1_loop_30 : decode cX1_loop 30 = .ok (.goto (-21), 3) := by decide +kernel
theorem dX1_loop_33 : decode cX1_loop 33 = .ok (.iload_n 2, 1) := by decide +kernel
theorem dX1_loop_34 : decode cX1_loop 34 = .ok (.ireturn, 1) := by decide +kernel
theorem dX1_crossings_0 : decode cX1_crossings 0 = .ok (.iconst 0, 1) := by decide +kernel
theorem dX1_crossings_1 : decode cX1_crossings 1 = .ok (.istore_n 1, 1) := by decide +kernel
theorem dX1_crossings_2 : decode cX1_crossings 2 = .ok (.iconst 0, 1) := by decide +kernel
theorem dX1_crossings_3 : decode cX1_crossings 3 = .ok (.istore_n 2, 1) := by decide +kernel
theorem dX1_crossings_4 : decode cX1_crossings 4 = .ok (.iload_n 2, 1) := by decide +kernel
theorem dX1_crossings_5 : decode cX1_crossings 5 = .ok (.bipush 10, 2) := by decide +kernel
theorem dX1_crossings_7 : decode cX1_crossings 7 = .ok (.if_icmp .ge 52, 3) := by decide +kernel
theorem dX1_crossings_10 : decode cX1_crossings 10 = .ok (.aload_n 0, 1) := by decide +kernel
theorem dX1_crossings_11 : decode cX1_crossings 11 = .ok (.getfield 36, 3) := by decide +kernel
theorem dX1_crossings_14 : decode cX1_crossings 14 = .ok (.iload_n 2, 1) := by decide +kernel
theorem dX1_crossings_15 : decode cX1_crossings 15 = .ok (.iaload, 1) := by decide +kernel
theorem dX1_crossings_16 : decode cX1_crossings 16 = .ok (.istore_n 3, 1) := by decide +kernel
theorem dX1_crossings_17 : decode cX1_crossings 17 = .ok (.iconst 0, 1) := by decide +kernel
theorem dX1_crossings_18 : decode cX1_crossings 18 = .ok (.istore 4, 2) := by decide +kernel
theorem dX1_crossings_20 : decode cX1_crossings 20 = .ok (.iload 4, 2) := by decide +kernel
theorem dX1_crossings_22 : decode cX1_crossings 22 = .ok (.bipush 10, 2) := by decide +kernel
theorem dX1_crossings_24 : decode cX1_crossings 24 = .ok (.if_icmp .ge 21, 3) := by decide +kernel
theorem dX1_crossings_27 : decode cX1_crossings 27 = .ok (.iload_n 3, 1) := by decide +kernel
theorem dX1_crossings_28 : decode cX1_crossings 28 = .ok (.iload_n 2, 1) := by decide +kernel
theorem dX1_crossings_29 : decode cX1_crossings 29 = .ok (.if_icmp .le 16, 3) := by decide +kernel
theorem dX1_crossings_32 : decode cX1_crossings 32 = .ok (.aload_n 0, 1) := by decide +kernel
theorem dX1_crossings_33 : decode cX1_crossings 33 = .ok (.getfield 36, 3) := by decide +kernel
theorem dX1_crossings_36 : decode cX1_crossings 36 = .ok (.iload_n 3, 1) := by decide +kernel
theorem dX1_crossings_37 : decode cX1_crossings 37 = .ok (.iaload, 1) := by decide +kernel
theorem dX1_crossings_38 : decode cX1_crossings 38 = .ok (.istore_n 3, 1) := by decide +kernel
theorem dX1_crossings_39 : decode cX1_crossings 39 = .ok (.iinc 4 1, 3) := by decide +kernel
theorem dX1_crossings_42 : decode cX1_crossings 42 = .ok (.goto (-22), 3) := by decide +kernel
theorem dX1_crossings_45 : decode cX1_crossings 45 = .ok (.iload_n 3, 1) := by decide +kernel
theorem dX1_crossings_46 : decode cX1_crossings 46 = .ok (.iload_n 2, 1) := by decide +kernel
theorem dX1_crossings_47 : decode cX1_crossings 47 = .ok (.if_icmp .eq 6, 3) := by decide +kernel
theorem dX1_crossings_50 : decode cX1_crossings 50 = .ok (.iinc 1 1, 3) := by decide +kernel
theorem dX1_crossings_53 : decode cX1_crossings 53 = .ok (.iinc 2 1, 3) := by decide +kernel
theorem dX1_crossings_56 : decode cX1_crossings 56 = .ok (.goto (-52), 3) := by decide +kernel
theorem dX1_crossings_59 : decode cX1_crossings 59 = .ok (.iload_n 1, 1) := by decide +kernel
theorem dX1_crossings_60 : decode cX1_crossings 60 = .ok (.ireturn, 1) := by decide +kernel
theorem dX1_firstCrossed_0 : decode cX1_firstCrossed 0 = .ok (.iconst 0, 1) := by decide +kernel
theorem dX1_firstCrossed_1 : decode cX1_firstCrossed 1 = .ok (.istore_n 1, 1) := by decide +kernel
theorem dX1_firstCrossed_2 : decode cX1_firstCrossed 2 = .ok (.iload_n 1, 1) := by decide +kernel
theorem dX1_firstCrossed_3 : decode cX1_firstCrossed 3 = .ok (.bipush 10, 2) := by decide +kernel
theorem dX1_firstCrossed_5 : decode cX1_firstCrossed 5 = .ok (.if_icmp .ge 21, 3) := by decide +kernel
theorem dX1_firstCrossed_8 : decode cX1_firstCrossed 8 = .ok (.aload_n 0, 1) := by decide +kernel
theorem dX1_firstCrossed_9 : decode cX1_firstCrossed 9 = .ok (.getfield 36, 3) := by decide +kernel
theorem dX1_firstCrossed_12 : decode cX1_firstCrossed 12 = .ok (.iload_n 1, 1) := by decide +kernel
theorem dX1_firstCrossed_13 : decode cX1_firstCrossed 13 = .ok (.iaload, 1) := by decide +kernel
theorem dX1_firstCrossed_14 : decode cX1_firstCrossed 14 = .ok (.iload_n 1, 1) := by decide +kernel
theorem dX1_firstCrossed_15 : decode cX1_firstCrossed 15 = .ok (.if_icmp .eq 5, 3) := by decide +kernel
theorem dX1_firstCrossed_18 : decode cX1_firstCrossed 18 = .ok (.iload_n 1, 1) := by decide +kernel
theorem dX1_firstCrossed_19 : decode cX1_firstCrossed 19 = .ok (.ireturn, 1) := by decide +kernel
theorem dX1_firstCrossed_20 : decode cX1_firstCrossed 20 = .ok (.iinc 1 1, 3) := by decide +kernel
theorem dX1_firstCrossed_23 : decode cX1_firstCrossed 23 = .ok (.goto (-21), 3) := by decide +kernel
theorem dX1_firstCrossed_26 : decode cX1_firstCrossed 26 = .ok (.bipush (-5), 2) := by decide +kernel
theorem dX1_firstCrossed_28 : decode cX1_firstCrossed 28 = .ok (.ireturn, 1) := by decide +kernel
theorem dX2_init_0 : decode cX2_init 0 = .ok (.aload_n 0, 1) := by decide +kernel
theorem dX2_init_1 : decode cX2_init 1 = .ok (.invokespecial 3, 3) := by decide +kernel
theorem dX2_init_4 : decode cX2_init 4 = .ok (.aload_n 0, 1) := by decide +kernel
theorem dX2_init_5 : decode cX2_init 5 = .ok (.bipush 100, 2) := by decide +kernel
theorem dX2_init_7 : decode cX2_init 7 = .ok (.newarray .int, 2) := by decide +kernel
theorem dX2_init_9 : decode cX2_init 9 = .ok (.putfield 9, 3) := by decide +kernel
theorem dX2_init_12 : decode cX2_init 12 = .ok (.return_, 1) := by decide +kernel
theorem dX2_empties_0 : decode cX2_empties 0 = .ok (.aload_n 0, 1) := by decide +kernel
theorem dX2_empties_1 : decode cX2_empties 1 = .ok (.iconst 0, 1) := by decide +kernel
theorem dX2_empties_2 : decode cX2_empties 2 = .ok (.putfield 15, 3) := by decide +kernel
theorem dX2_empties_5 : decode cX2_empties 5 = .ok (.aload_n 0, 1) := by decide +kernel
theorem dX2_empties_6 : decode cX2_empties 6 = .ok (.iconst 2, 1) := by decide +kernel
theorem dX2_empties_7 : decode cX2_empties 7 = .ok (.putfield 19, 3) := by decide +kernel
theorem dX2_empties_10 : decode cX2_empties 10 = .ok (.return_, 1) := by decide +kernel
theorem dX2_adds_0 : decode cX2_adds 0 = .ok (.aload_n 0, 1) := by decide +kernel
theorem dX2_adds_1 : decode cX2_adds 1 = .ok (.getfield 15, 3) := by decide +kernel
theorem dX2_adds_4 : decode cX2_adds 4 = .ok (.aload_n 0, 1) := by decide +kernel
theorem dX2_adds_5 : decode cX2_adds 5 = .ok (.getfield 9, 3) := by decide +kernel
theorem dX2_adds_8 : decode cX2_adds 8 = .ok (.arraylength, 1) := by decide +kernel
theorem dX2_adds_9 : decode cX2_adds 9 = .ok (.if_icmp .ge 23, 3) := by decide +kernel
theorem dX2_adds_12 : decode cX2_adds 12 = .ok (.aload_n 0, 1) := by decide +kernel
theorem dX2_adds_13 : decode cX2_adds 13 = .ok (.getfield 9, 3) := by decide +kernel
theorem dX2_adds_16 : decode cX2_adds 16 = .ok (.aload_n 0, 1) := by decide +kernel
theorem dX2_adds_17 : decode cX2_adds 17 = .ok (.getfield 15, 3) := by decide +kernel
theorem dX2_adds_20 : decode cX2_adds 20 = .ok (.iload_n 1, 1) := by decide +kernel
theorem dX2_adds_21 : decode cX2_adds 21 = .ok (.iastore, 1) := by decide +kernel
theorem dX2_adds_22 : decode cX2_adds 22 = .ok (.aload_n 0, 1) := by decide +kernel
theorem dX2_adds_23 : decode cX2_adds 23 = .ok (.dup, 1) := by decide +kernel
theorem dX2_adds_24 : decode cX2_adds 24 = .ok (.getfield 15, 3) := by decide +kernel
theorem dX2_adds_27 : decode cX2_adds 27 = .ok (.iconst 1, 1) := by decide +kernel
theorem dX2_adds_28 : decode cX2_adds 28 = .ok (.iadd, 1) := by decide +kernel
theorem dX2_adds_29 : decode cX2_adds 29 = .ok (.putfield 15, 3) := by decide +kernel
theorem dX2_adds_32 : decode cX2_adds 32 = .ok (.return_, 1) := by decide +kernel
theorem dX2_weighs_0 : decode cX2_weighs 0 = .ok (.iconst 0, 1) := by decide +kernel
theorem dX2_weighs_1 : decode cX2_weighs 1 = .ok (.istore_n 2, 1) := by decide +kernel
theorem dX2_weighs_2 : decode cX2_weighs 2 = .ok (.iconst 0, 1) := by decide +kernel
theorem dX2_weighs_3 : decode cX2_weighs 3 = .ok (.istore_n 3, 1) := by decide +kernel
theorem dX2_weighs_4 : decode cX2_weighs 4 = .ok (.iconst 0, 1) := by decide +kernel
theorem dX2_weighs_5 : decode cX2_weighs 5 = .ok (.istore 4, 2) := by decide +kernel
theorem dX2_weighs_7 : decode cX2_weighs 7 = .ok (.iload 4, 2) := by decide +kernel
theorem dX2_weighs_9 : decode cX2_weighs 9 = .ok (.aload_n 0, 1) := by decide +kernel
theorem dX2_weighs_10 : decode cX2_weighs 10 = .ok (.getfield 15, 3) := by decide +kernel
theorem dX2_weighs_13 : decode cX2_weighs 13 = .ok (.if_icmp .ge 183, 3) := by decide +kernel
theorem dX2_weighs_16 : decode cX2_weighs 16 = .ok (.aload_n 0, 1) := by decide +kernel
theorem dX2_weighs_17 : decode cX2_weighs 17 = .ok (.getfield 9, 3) := by decide +kernel
theorem dX2_weighs_20 : decode cX2_weighs 20 = .ok (.iload 4, 2) := by decide +kernel
theorem dX2_weighs_22 : decode cX2_weighs 22 = .ok (.iaload, 1) := by decide +kernel
theorem dX2_weighs_23 : decode cX2_weighs 23 = .ok (.istore 5, 2) := by decide +kernel
theorem dX2_weighs_25 : decode cX2_weighs 25 = .ok (.iload_n 3, 1) := by decide +kernel
theorem dX2_weighs_26 : decode cX2_weighs 26 = .ok (.iconst 1, 1) := by decide +kernel
theorem dX2_weighs_27 : decode cX2_weighs 27 = .ok (.iand, 1) := by decide +kernel
theorem dX2_weighs_28 : decode cX2_weighs 28 = .ok (.istore 6, 2) := by decide +kernel
theorem dX2_weighs_30 : decode cX2_weighs 30 = .ok (.iload 5, 2) := by decide +kernel
theorem dX2_weighs_32 : decode cX2_weighs 32 = .ok (.sipush 1800, 3) := by decide +kernel
theorem dX2_weighs_35 : decode cX2_weighs 35 = .ok (.if_icmp .ge 70, 3) := by decide +kernel
theorem dX2_weighs_38 : decode cX2_weighs 38 = .ok (.aload_n 1, 1) := by decide +kernel
theorem dX2_weighs_39 : decode cX2_weighs 39 = .ok (.iload 5, 2) := by decide +kernel
theorem dX2_weighs_41 : decode cX2_weighs 41 = .ok (.sipush 300, 3) := by decide +kernel
theorem dX2_weighs_44 : decode cX2_weighs 44 = .ok (.idiv, 1) := by decide +kernel
theorem dX2_weighs_45 : decode cX2_weighs 45 = .ok (.iaload, 1) := by decide +kernel
theorem dX2_weighs_46 : decode cX2_weighs 46 = .ok (.istore 7, 2) := by decide +kernel
theorem dX2_weighs_48 : decode cX2_weighs 48 = .ok (.iload 5, 2) := by decide +kernel
theorem dX2_weighs_50 : decode cX2_weighs 50 = .ok (.bipush 100, 2) := by decide +kernel
theorem dX2_weighs_52 : decode cX2_weighs 52 = .ok (.irem, 1) := by decide +kernel
theorem dX2_weighs_53 : decode cX2_weighs 53 = .ok (.istore 8, 2) := by decide +kernel
theorem dX2_weighs_55 : decode cX2_weighs 55 = .ok (.iload 7, 2) := by decide +kernel
theorem dX2_weighs_57 : decode cX2_weighs 57 = .ok (.iload 8, 2) := by decide +kernel
theorem dX2_weighs_59 : decode cX2_weighs 59 = .ok (.if_icmp .ge 7, 3) := by decide +kernel
theorem dX2_weighs_62 : decode cX2_weighs 62 = .ok (.iconst 0, 1) := by decide +kernel
theorem dX2_weighs_63 : decode cX2_weighs 63 = .ok (.goto 15, 3) := by decide +kernel
theorem dX2_weighs_66 : decode cX2_weighs 66 = .ok (.iload 7, 2) := by decide +kernel
theorem dX2_weighs_68 : decode cX2_weighs 68 = .ok (.iload 8, 2) := by decide +kernel
theorem dX2_weighs_70 : decode cX2_weighs 70 = .ok (.if_icmp .ne 7, 3) := by decide +kernel
theorem dX2_weighs_73 : decode cX2_weighs 73 = .ok (.iconst 1, 1) := by decide +kernel
theorem dX2_weighs_74 : decode cX2_weighs 74 = .ok (.goto 4, 3) := by decide +kernel
theorem dX2_weighs_77 : decode cX2_weighs 77 = .ok (.iconst 2, 1) := by decide +kernel
theorem dX2_weighs_78 : decode cX2_weighs 78 = .ok (.istore 9, 2) := by decide +kernel
theorem dX2_weighs_80 : decode cX2_weighs 80 = .ok (.iload_n 3, 1) := by decide +kernel
theorem dX2_weighs_81 : decode cX2_weighs 81 = .ok (.iconst 1, 1) := by decide +kernel
theorem dX2_weighs_82 : decode cX2_weighs 82 = .ok (.ishl, 1) := by decide +kernel
theorem dX2_weighs_83 : decode cX2_weighs 83 = .ok (.iload 9, 2) := by decide +kernel
theorem dX2_weighs_85 : decode cX2_weighs 85 = .ok (.iload 5, 2) := by decide +kernel
theorem dX2_weighs_87 : decode cX2_weighs 87 = .ok (.bipush 100, 2) := by decide +kernel
theorem dX2_weighs_89 : decode cX2_weighs 89 = .ok (.idiv, 1) := by decide +kernel
theorem dX2_weighs_90 : decode cX2_weighs 90 = .ok (.iconst 3, 1) := by decide +kernel
theorem dX2_weighs_91 : decode cX2_weighs 91 = .ok (.irem, 1) := by decide +kernel
theorem dX2_weighs_92 : decode cX2_weighs 92 = .ok (.if_icmp .ne 7, 3) := by decide +kernel
theorem dX2_weighs_95 : decode cX2_weighs 95 = .ok (.iconst 1, 1) := by decide +kernel
theorem dX2_weighs_96 : decode cX2_weighs 96 = .ok (.goto 4, 3) := by decide +kernel
theorem dX2_weighs_99 : decode cX2_weighs 99 = .ok (.iconst 0, 1) := by decide +kernel
theorem dX2_weighs_100 : decode cX2_weighs 100 = .ok (.ior, 1) := by decide +kernel
theorem dX2_weighs_101 : decode cX2_weighs 101 = .ok (.istore_n 3, 1) := by decide +kernel
theorem dX2_weighs_102 : decode cX2_weighs 102 = .ok (.goto 88, 3) := by decide +kernel
theorem dX2_weighs_105 : decode cX2_weighs 105 = .ok (.iload 5, 2) := by decide +kernel
theorem dX2_weighs_107 : decode cX2_weighs 107 = .ok (.sipush 1800, 3) := by decide +kernel
theorem dX2_weighs_110 : decode cX2_weighs 110 = .ok (.if_icmp .ne 10, 3) := by decide +kernel
theorem dX2_weighs_113 : decode cX2_weighs 113 = .ok (.iload_n 3, 1) := by decide +kernel
theorem dX2_weighs_114 : decode cX2_weighs 114 = .ok (.iconst 1, 1) := by decide +kernel
theorem dX2_weighs_115 : decode cX2_weighs 115 = .ok (.ixor, 1) := by decide +kernel
theorem dX2_weighs_116 : decode cX2_weighs 116 = .ok (.istore_n 3, 1) := by decide +kernel
theorem dX2_weighs_117 : decode cX2_weighs 117 = .ok (.goto 73, 3) := by decide +kernel
theorem dX2_weighs_120 : decode cX2_weighs 120 = .ok (.iload 5, 2) := by decide +kernel
theorem dX2_weighs_122 : decode cX2_weighs 122 = .ok (.sipush 1801, 3) := by decide +kernel
theorem dX2_weighs_125 : decode cX2_weighs 125 = .ok (.if_icmp .ne 16, 3) := by decide +kernel
theorem dX2_weighs_128 : decode cX2_weighs 128 = .ok (.iload_n 3, 1) := by decide +kernel
theorem dX2_weighs_129 : decode cX2_weighs 129 = .ok (.iconst 1, 1) := by decide +kernel
theorem dX2_weighs_130 : decode cX2_weighs 130 = .ok (.ishr, 1) := by decide +kernel
theorem dX2_weighs_131 : decode cX2_weighs 131 = .ok (.iload 6, 2) := by decide +kernel
theorem dX2_weighs_133 : decode cX2_weighs 133 = .ok (.bipush (-2), 2) := by decide +kernel
theorem dX2_weighs_135 : decode cX2_weighs 135 = .ok (.ior, 1) := by decide +kernel
theorem dX2_weighs_136 : decode cX2_weighs 136 = .ok (.iand, 1) := by decide +kernel
theorem dX2_weighs_137 : decode cX2_weighs 137 = .ok (.istore_n 3, 1) := by decide +kernel
theorem dX2_weighs_138 : decode cX2_weighs 138 = .ok (.goto 52, 3) := by decide +kernel
theorem dX2_weighs_141 : decode cX2_weighs 141 = .ok (.iload 5, 2) := by decide +kernel
theorem dX2_weighs_143 : decode cX2_weighs 143 = .ok (.sipush 1802, 3) := by decide +kernel
theorem dX2_weighs_146 : decode cX2_weighs 146 = .ok (.if_icmp .ne 13, 3) := by decide +kernel
theorem dX2_weighs_149 : decode cX2_weighs 149 = .ok (.iload_n 3, 1) := by decide +kernel
theorem dX2_weighs_150 : decode cX2_weighs 150 = .ok (.iconst 1, 1) := by decide +kernel
theorem dX2_weighs_151 : decode cX2_weighs 151 = .ok (.ishr, 1) := by decide +kernel
theorem dX2_weighs_152 : decode cX2_weighs 152 = .ok (.iload 6, 2) := by decide +kernel
theorem dX2_weighs_154 : decode cX2_weighs 154 = .ok (.ior, 1) := by decide +kernel
theorem dX2_weighs_155 : decode cX2_weighs 155 = .ok (.istore_n 3, 1) := by decide +kernel
theorem dX2_weighs_156 : decode cX2_weighs 156 = .ok (.goto 34, 3) := by decide +kernel
theorem dX2_weighs_159 : decode cX2_weighs 159 = .ok (.iload_n 2, 1) := by decide +kernel
theorem dX2_weighs_160 : decode cX2_weighs 160 = .ok (.iload 6, 2) := by decide +kernel
theorem dX2_weighs_162 : decode cX2_weighs 162 = .ok (.iload 5, 2) := by decide +kernel
theorem dX2_weighs_164 : decode cX2_weighs 164 = .ok (.sipush 2000, 3) := by decide +kernel
theorem dX2_weighs_167 : decode cX2_weighs 167 = .ok (.if_icmp .ge 12, 3) := by decide +kernel
theorem dX2_weighs_170 : decode cX2_weighs 170 = .ok (.iload 5, 2) := by decide +kernel
theorem dX2_weighs_172 : decode cX2_weighs 172 = .ok (.sipush 1900, 3) := by decide +kernel
theorem dX2_weighs_175 : decode cX2_weighs 175 = .ok (.isub, 1) := by decide +kernel
theorem dX2_weighs_176 : decode cX2_weighs 176 = .ok (.goto 9, 3) := by decide +kernel
theorem dX2_weighs_179 : decode cX2_weighs 179 = .ok (.sipush 2000, 3) := by decide +kernel
theorem dX2_weighs_182 : decode cX2_weighs 182 = .ok (.iload 5, 2) := by decide +kernel
theorem dX2_weighs_184 : decode cX2_weighs 184 = .ok (.isub, 1) := by decide +kernel
theorem dX2_weighs_185 : decode cX2_weighs 185 = .ok (.imul, 1) := by decide +kernel
theorem dX2_weighs_186 : decode cX2_weighs 186 = .ok (.iadd, 1) := by decide +kernel
theorem dX2_weighs_187 : decode cX2_weighs 187 = .ok (.istore_n 2, 1) := by decide +kernel
theorem dX2_weighs_188 : decode cX2_weighs 188 = .ok (.iconst 0, 1) := by decide +kernel
theorem dX2_weighs_189 : decode cX2_weighs 189 = .ok (.istore_n 3, 1) := by decide +kernel
theorem dX2_weighs_190 : decode cX2_weighs 190 = .ok (.iinc 4 1, 3) := by decide +kernel
theorem dX2_weighs_193 : decode cX2_weighs 193 = .ok (.goto (-186), 3) := by decide +kernel
theorem dX2_weighs_196 : decode cX2_weighs 196 = .ok (.iload_n 2, 1) := by decide +kernel
theorem dX2_weighs_197 : decode cX2_weighs 197 = .ok (.ireturn, 1) := by decide +kernel
set_option maxRecDepth 20000 in
theorem ggX3_init_X4_init : GoodIn wsX3_init wsX4_init := goodIn_r _ [12, 13, 2, 3, 14, 15, 16, 17, 18, 19, 20, 21, 22, 23, 24, 25] (by decide +kernel) (by decide +kernel)
set_option maxRecDepth 20000 in
theorem gX3_init_X4_init : GoodIn wsX3_init (wsX4_init) := ggX3_init_X4_init
theorem dX3_init_0 : decode cX3_init 0 = .ok (.aload_n 0, 1) := by decide +kernel
theorem dX3_init_1 : decode cX3_init 1 = .ok (.invokespecial 1, 3) := by decide +kernel
theorem dX3_init_4 : decode cX3_init 4 = .ok (.aload_n 0, 1) := by decide +kernel
theorem dX3_init_5 : decode cX3_init 5 = .ok (.new 7, 3) := by decide +kernel
theorem dX3_init_8 : decode cX3_init 8 = .ok (.dup, 1) := by decide +kernel
theorem dX3_init_9 : decode cX3_init 9 = .ok (.iconst 5, 1) := by decide +kernel
theorem dX3_init_10 : decode cX3_init 10 = .ok (.invokespecial 9, 3) := by decide +kernel
theorem dX3_init_13 : decode cX3_init 13 = .ok (.putfield 12, 3) := by decide +kernel
theorem dX3_init_16 : decode cX3_init 16 = .ok (.aload_n 0, 1) := by decide +kernel
theorem dX3_init_17 : decode cX3_init 17 = .ok (.new 7, 3) := by decide +kernel
theorem dX3_init_20 : decode cX3_init 20 = .ok (.dup, 1) := by decide +kernel
theorem dX3_init_21 : decode cX3_init 21 = .ok (.bipush 10, 2) := by decide +kernel
theorem dX3_init_23 : decode cX3_init 23 = .ok (.invokespecial 9, 3) := by decide +kernel
theorem dX3_init_26 : decode cX3_init 26 = .ok (.putfield 18, 3) := by decide +kernel
theorem dX3_init_29 : decode cX3_init 29 = .ok (.aload_n 0, 1) := by decide +kernel
theorem dX3_init_30 : decode cX3_init 30 = .ok (.new 7, 3) := by decide +kernel
theorem dX3_init_33 : decode cX3_init 33 = .ok (.dup, 1) := by decide +kernel
theorem dX3_init_34 : decode cX3_init 34 = .ok (.bipush 8, 2) := by decide +kernel
theorem dX3_init_36 : decode cX3_init 36 = .ok (.invokespecial 9, 3) := by decide +kernel
theorem dX3_init_39 : decode cX3_init 39 = .ok (.putfield 21, 3) := by decide +kernel
theorem dX3_init_42 : decode cX3_init 42 = .ok (.return_, 1) := by decide +kernel
set_option maxRecDepth 20000 in
theorem ggX3_copies_X4_copies : GoodIn wsX3_copies wsX4_copies := goodIn_r _ [8, 9, 10, 11, 12, 13, 14, 15, 16, 17, 18, 19, 20, 21, 22, 23, 27, 28, 29, 30] (by decide +kernel) (by decide +kernel)
set_option maxRecDepth 20000 in
theorem gX3_copies_X4_copies : GoodIn wsX3_copies (wsV RX3 24 RX4 yX4_copies wsX4_copies) := goodIn_app (goodIn_of _ (by decide +kernel)) ggX3_copies_X4_copies
theorem dX3_copies_0 : decode cX3_copies 0 = .ok (.aload_n 0, 1) := by decide +kernel
theorem dX3_copies_1 : decode cX3_copies 1 = .ok (.getfield 12, 3) := by decide +kernel
theorem dX3_copies_4 : decode cX3_copies 4 = .ok (.aload_n 1, 1) := by decide +kernel
theorem dX3_copies_5 : decode cX3_copies 5 = .ok (.getfield 12, 3) := by decide +kernel
theorem dX3_copies_8 : decode cX3_copies 8 = .ok (.invokevirtual 24, 3) := by decide +kernel
theorem dX3_copies_11 : decode cX3_copies 11 = .ok (.aload_n 0, 1) := by decide +kernel
theorem dX3_copies_12 : decode cX3_copies 12 = .ok (.getfield 18, 3) := by decide +kernel
theorem dX3_copies_15 : decode cX3_copies 15 = .ok (.aload_n 1, 1) := by decide +kernel
theorem dX3_copies_16 : decode cX3_copies 16 = .ok (.getfield 18, 3) := by decide +kernel
theorem dX3_copies_19 : decode cX3_copies 19 = .ok (.invokevirtual 24, 3) := by decide +kernel
theorem dX3_copies_22 : decode cX3_copies 22 = .ok (.aload_n 0, 1) := by decide +kernel
theorem dX3_copies_23 : decode cX3_copies 23 = .ok (.getfield 21, 3) := by decide +kernel
theorem dX3_copies_26 : decode cX3_copies 26 = .ok (.aload_n 1, 1) := by decide +kernel
theorem dX3_copies_27 : decode cX3_copies 27 = .ok (.getfield 21, 3) := by decide +kernel
theorem dX3_copies_30 : decode cX3_copies 30 = .ok (.invokevirtual 24, 3) := by decide +kernel
theorem dX3_copies_33 : decode cX3_copies 33 = .ok (.return_, 1) := by decide +kernel
theorem dX4_init_0 : decode cX4_init 0 = .ok (.aload_n 0, 1) := by decide +kernel
theorem dX4_init_1 : decode cX4_init 1 = .ok (.invokespecial 1, 3) := by decide +kernel
theorem dX4_init_4 : decode cX4_init 4 = .ok (.iconst 0, 1) := by decide +kernel
theorem dX4_init_5 : decode cX4_init 5 = .ok (.iload_n 1, 1) := by decide +kernel
theorem dX4_init_6 : decode cX4_init 6 = .ok (.invokestatic 7, 3) := by decide +kernel
theorem dX4_init_9 : decode cX4_init 9 = .ok (.istore_n 2, 1) := by decide +kernel
theorem dX4_init_10 : decode cX4_init 10 = .ok (.aload_n 0, 1) := by decide +kernel
theorem dX4_init_11 : decode cX4_init 11 = .ok (.iload_n 2, 1) := by decide +kernel
theorem dX4_init_12 : decode cX4_init 12 = .ok (.newarray .int, 2) := by decide +kernel
theorem dX4_init_14 : decode cX4_init 14 = .ok (.putfield 13, 3) := by decide +kernel
theorem dX4_init_17 : decode cX4_init 17 = .ok (.aload_n 0, 1) := by decide +kernel
theorem dX4_init_18 : decode cX4_init 18 = .ok (.iload_n 2, 1) := by decide +kernel
theorem dX4_init_19 : decode cX4_init 19 = .ok (.newarray .int, 2) := by decide +kernel
theorem dX4_init_21 : decode cX4_init 21 = .ok (.putfield 19, 3) := by decide +kernel
theorem dX4_init_24 : decode cX4_init 24 = .ok (.aload_n 0, 1) := by decide +kernel
theorem dX4_init_25 : decode cX4_init 25 = .ok (.iload_n 2, 1) := by decide +kernel
theorem dX4_init_26 : decode cX4_init 26 = .ok (.newarray .int, 2) := by decide +kernel
theorem dX4_init_28 : decode cX4_init 28 = .ok (.putfield 22, 3) := by decide +kernel
theorem dX4_init_31 : decode cX4_init 31 = .ok (.return_, 1) := by decide +kernel
theorem dX4_isFull_0 : decode cX4_isFull 0 = .ok (.aload_n 0, 1) := by decide +kernel
theorem dX4_isFull_1 : decode cX4_isFull 1 = .ok (.getfield 25, 3) := by decide +kernel
theorem dX4_isFull_4 : decode cX4_isFull 4 = .ok (.aload_n 0, 1) := by decide +kernel
theorem dX4_isFull_5 : decode cX4_isFull 5 = .ok (.getfield 13, 3) := by decide +kernel
theorem dX4_isFull_8 : decode cX4_isFull 8 = .ok (.arraylength, 1) := by decide +kernel
theorem dX4_isFull_9 : decode cX4_isFull 9 = .ok (.if_icmp .lt 7, 3) := by decide +kernel
theorem dX4_isFull_12 : decode cX4_isFull 12 = .ok (.iconst 1, 1) := by decide +kernel
theorem dX4_isFull_13 : decode cX4_isFull 13 = .ok (.goto 4, 3) := by decide +kernel
theorem dX4_isFull_16 : decode cX4_isFull 16 = .ok (.iconst 0, 1) := by decide +kernel
theorem dX4_isFull_17 : decode cX4_isFull 17 = .ok (.ireturn, 1) := by decide +kernel
set_option maxRecDepth 20000 in
theorem ggX4_adds_X4_isFull : GoodIn wsX4_adds wsX4_isFull := goodIn_r _ [9, 2, 1, 10, 11, 12, 13] (by decide +kernel) (by decide +kernel)
set_option maxRecDepth 20000 in
theorem gX4_adds_X4_isFull : GoodIn wsX4_adds (wsV RX4 29 RX4 yX4_isFull wsX4_isFull) := goodIn_app (goodIn_of _ (by decide +kernel)) ggX4_adds_X4_isFull
theorem dX4_adds_0 : decode cX4_adds 0 = .ok (.aload_n 0, 1) := by decide +kernel
theorem dX4_adds_1 : decode cX4_adds 1 = .ok (.invokevirtual 29, 3) := by decide +kernel
theorem dX4_adds_4 : decode cX4_adds 4 = .ok (.ifCond .ne 43, 3) := by decide +kernel
theorem dX4_adds_7 : decode cX4_adds 7 = .ok (.aload_n 0, 1) := by decide +kernel
theorem dX4_adds_8 : decode cX4_adds 8 = .ok (.getfield 13, 3) := by decide +kernel
theorem dX4_adds_11 : decode cX4_adds 11 = .ok (.aload_n 0, 1) := by decide +kernel
theorem dX4_adds_12 : decode cX4_adds 12 = .ok (.getfield 25, 3) := by decide +kernel
theorem dX4_adds_15 : decode cX4_adds 15 = .ok (.iload_n 1, 1) := by decide +kernel
theorem dX4_adds_16 : decode cX4_adds 16 = .ok (.iastore, 1) := by decide +kernel
theorem dX4_adds_17 : decode cX4_adds 17 = .ok (.aload_n 0, 1) := by decide +kernel
theorem dX4_adds_18 : decode cX4_adds 18 = .ok (.getfield 19, 3) := by decide +kernel
theorem dX4_adds_21 : decode cX4_adds 21 = .ok (.aload_n 0, 1) := by decide +kernel
theorem dX4_adds_22 : decode cX4_adds 22 = .ok (.getfield 25, 3) := by decide +kernel
theorem dX4_adds_25 : decode cX4_adds 25 = .ok (.iload_n 2, 1) := by decide +kernel
theorem dX4_adds_26 : decode cX4_adds 26 = .ok (.iastore, 1) := by decide +kernel
theorem dX4_adds_27 : decode cX4_adds 27 = .ok (.aload_n 0, 1) := by decide +kernel
theorem dX4_adds_28 : decode cX4_adds 28 = .ok (.getfield 22, 3) := by decide +kernel
theorem dX4_adds_31 : decode cX4_adds 31 = .ok (.aload_n 0, 1) := by decide +kernel
theorem dX4_adds_32 : decode cX4_adds 32 = .ok (.getfield 25, 3) := by decide +kernel
theorem dX4_adds_35 : decode cX4_adds 35 = .ok (.iload_n 3, 1) := by decide +kernel
theorem dX4_adds_36 : decode cX4_adds 36 = .ok (.iastore, 1) := by decide +kernel
theorem dX4_adds_37 : decode cX4_adds 37 = .ok (.aload_n 0, 1) := by decide +kernel
theorem dX4_adds_38 : decode cX4_adds 38 = .ok (.dup, 1) := by decide +kernel
theorem dX4_adds_39 : decode cX4_adds 39 = .ok (.getfield 25, 3) := by decide +kernel
theorem dX4_adds_42 : decode cX4_adds 42 = .ok (.iconst 1, 1) := by decide +kernel
theorem dX4_adds_43 : decode cX4_adds 43 = .ok (.iadd, 1) := by decide +kernel
theorem dX4_adds_44 : decode cX4_adds 44 = .ok (.putfield 25, 3) := by decide +kernel
theorem dX4_adds_47 : decode cX4_adds 47 = .ok (.aload_n 0, 1) := by decide +kernel
theorem dX4_adds_48 : decode cX4_adds 48 = .ok (.getfield 25, 3) := by decide +kernel
theorem dX4_adds_51 : decode cX4_adds 51 = .ok (.ireturn, 1) := by decide +kernel
theorem dX4_empties_0 : decode cX4_empties 0 = .ok (.aload_n 0, 1) := by decide +kernel
theorem dX4_empties_1 : decode cX4_empties 1 = .ok (.iconst 0, 1) := by decide +kernel
theorem dX4_empties_2 : decode cX4_empties 2 = .ok (.putfield 25, 3) := by decide +kernel
theorem dX4_empties_5 : decode cX4_empties 5 = .ok (.iconst 0, 1) := by decide +kernel
theorem dX4_empties_6 : decode cX4_empties 6 = .ok (.ireturn, 1) := by decide +kernel
set_option maxRecDepth 20000 in
theorem ggX4_copies_X8_copy : GoodIn wsX4_copies wsX8_copy := goodIn_r _ [7, 8, 9, 10, 11, 12, 13, 14, 15] (by decide +kernel) (by decide +kernel)
set_option maxRecDepth 20000 in
theorem gX4_copies_X8_copy_n33 : GoodIn wsX4_copies (wsX8_copy) := ggX4_copies_X8_copy
theorem dX4_copies_0 : decode cX4_copies 0 = .ok (.aload_n 1, 1) := by decide +kernel
theorem dX4_copies_1 : decode cX4_copies 1 = .ok (.getfield 13, 3) := by decide +kernel
theorem dX4_copies_4 : decode cX4_copies 4 = .ok (.aload_n 0, 1) := by decide +kernel
theorem dX4_copies_5 : decode cX4_copies 5 = .ok (.getfield 13, 3) := by decide +kernel
theorem dX4_copies_8 : decode cX4_copies 8 = .ok (.invokestatic 33, 3) := by decide +kernel
theorem dX4_copies_11 : decode cX4_copies 11 = .ok (.aload_n 1, 1) := by decide +kernel
theorem dX4_copies_12 : decode cX4_copies 12 = .ok (.getfield 19, 3) := by decide +kernel
theorem dX4_copies_15 : decode cX4_copies 15 = .ok (.aload_n 0, 1) := by decide +kernel
theorem dX4_copies_16 : decode cX4_copies 16 = .ok (.getfield 19, 3) := by decide +kernel
theorem dX4_copies_19 : decode cX4_copies 19 = .ok (.invokestatic 33, 3) := by decide +kernel
theorem dX4_copies_22 : decode cX4_copies 22 = .ok (.aload_n 1, 1) := by decide +kernel
theorem dX4_copies_23 : decode cX4_copies 23 = .ok (.getfield 22, 3) := by decide +kernel
theorem dX4_copies_26 : decode cX4_copies 26 = .ok (.aload_n 0, 1) := by decide +kernel
theorem dX4_copies_27 : decode cX4_copies 27 = .ok (.getfield 22, 3) := by decide +kernel
theorem dX4_copies_30 : decode cX4_copies 30 = .ok (.invokestatic 33, 3) := by decide +kernel
theorem dX4_copies_33 : decode cX4_copies 33 = .ok (.aload_n 0, 1) := by decide +kernel
theorem dX4_copies_34 : decode cX4_copies 34 = .ok (.aload_n 1, 1) := by decide +kernel
theorem dX4_copies_35 : decode cX4_copies 35 = .ok (.getfield 25, 3) := by decide +kernel
theorem dX4_copies_38 : decode cX4_copies 38 = .ok (.putfield 25, 3) := by decide +kernel
theorem dX4_copies_41 : decode cX4_copies 41 = .ok (.return_, 1) := by decide +kernel
theorem dX5_init_0 : decode cX5_init 0 = .ok (.aload_n 0, 1) := by decide +kernel
theorem dX5_init_1 : decode cX5_init 1 = .ok (.invokespecial 3, 3) := by decide +kernel
theorem dX5_init_4 : decode cX5_init 4 = .ok (.aload_n 0, 1) := by decide +kernel
theorem dX5_init_5 : decode cX5_init 5 = .ok (.bipush 10, 2) := by decide +kernel
theorem dX5_init_7 : decode cX5_init 7 = .ok (.newarray .int, 2) := by decide +kernel
theorem dX5_init_9 : decode cX5_init 9 = .ok (.putfield 9, 3) := by decide +kernel
theorem dX5_init_12 : decode cX5_init 12 = .ok (.aload_n 0, 1) := by decide +kernel
theorem dX5_init_13 : decode cX5_init 13 = .ok (.bipush 10, 2) := by decide +kernel
theorem dX5_init_15 : decode cX5_init 15 = .ok (.newarray .int, 2) := by decide +kernel
theorem dX5_init_17 : decode cX5_init 17 = .ok (.putfield 15, 3) := by decide +kernel
theorem dX5_init_20 : decode cX5_init 20 = .ok (.aload_n 0, 1) := by decide +kernel
theorem dX5_init_21 : decode cX5_init 21 = .ok (.bipush 60, 2) := by decide +kernel
theorem dX5_init_23 : decode cX5_init 23 = .ok (.newarray .int, 2) := by decide +kernel
theorem dX5_init_25 : decode cX5_init 25 = .ok (.putfield 18, 3) := by decide +kernel
theorem dX5_init_28 : decode cX5_init 28 = .ok (.aload_n 0, 1) := by decide +kernel
theorem dX5_init_29 : decode cX5_init 29 = .ok (.sipush 704, 3) := by decide +kernel
theorem dX5_init_32 : decode cX5_init 32 = .ok (.newarray .int, 2) := by decide +kernel
theorem dX5_init_34 : decode cX5_init 34 = .ok (.putfield 21, 3) := by decide +kernel
theorem dX5_init_37 : decode cX5_init 37 = .ok (.return_, 1) := by decide +kernel
set_option maxRecDepth 20000 in
theorem ggX5_finds_X5_asks : GoodIn wsX5_finds wsX5_asks := goodIn_r _ [9, 10, 11, 4, 12, 13, 14, 15, 16, 17, 18, 19, 20, 21, 22, 23, 24, 25, 26, 27, 28, 29, 30, 31, 32, 33, 34, 35, 36, 37, 38, 39, 40, 41, 42, 43, 44, 45, 46, 47, 48, 49, 50, 51, 52, 53, 54, 55, 56, 57, 58, 59, 60, 82, 83, 84, 85, 86, 87, 88, 89, 90, 91, 92, 93, 94, 95, 96, 97, 98, 99, 100, 101, 102, 103, 104, 105, 106, 107] (by decide +kernel) (by decide +kernel)
set_option maxRecDepth 20000 in
theorem gX5_finds_X5_asks : GoodIn wsX5_finds (wsV RX5 24 RX5 yX5_asks wsX5_asks) := goodIn_app (goodIn_of _ (by decide +kernel)) ggX5_finds_X5_asks
set_option maxRecDepth 20000 in
theorem ggX5_finds_X5_values : GoodIn wsX5_finds wsX5_values := goodIn_r _ [64, 65, 66, 67, 50, 68, 69, 70, 71, 8, 72, 10, 73, 74, 75, 76, 77, 4, 82, 83, 84, 85, 86, 87] (by decide +kernel) (by decide +kernel)
set_option maxRecDepth 20000 in
theorem gX5_finds_X5_values : GoodIn wsX5_finds (wsV RX5 28 RX5 yX5_values wsX5_values) := goodIn_app (goodIn_of _ (by decide +kernel)) ggX5_finds_X5_values
set_option maxRecDepth 20000 in
theorem ggX5_finds_X5_choice : GoodIn wsX5_finds wsX5_choice := goodIn_r _ [81, 65, 69, 70, 71, 8, 72, 10, 73, 74, 75, 76, 77, 4, 82, 83, 84, 85, 86, 87] (by decide +kernel) (by decide +kernel)
set_option maxRecDepth 20000 in
theorem gX5_finds_X5_choice : GoodIn wsX5_finds (wsV RX5 39 RX5 yX5_choice wsX5_choice) := goodIn_app (goodIn_of _ (by decide +kernel)) ggX5_finds_X5_choice
theorem dX5_finds_0 : decode cX5_finds 0 = .ok (.bipush 9, 2) := by decide +kernel
theorem dX5_finds_2 : decode cX5_finds 2 = .ok (.istore_n 2, 1) := by decide +kernel
theorem dX5_finds_3 : decode cX5_finds 3 = .ok (.iload_n 2, 1) := by decide +kernel
theorem dX5_finds_4 : decode cX5_finds 4 = .ok (.ifCond .lt 20, 3) := by decide +kernel
theorem dX5_finds_7 : decode cX5_finds 7 = .ok (.aload_n 0, 1) := by decide +kernel
theorem dX5_finds_8 : decode cX5_finds 8 = .ok (.aload_n 1, 1) := by decide +kernel
