theorem dX12_report_94 : decode cX12_report 94 = .ok (.ifCond .ne 9, 3) := by decide +kernel
theorem dX12_report_97 : decode cX12_report 97 = .ok (.aload_n 0, 1) := by decide +kernel
theorem dX12_report_98 : decode cX12_report 98 = .ok (.iconst 2, 1) := by decide +kernel
theorem dX12_report_99 : decode cX12_report 99 = .ok (.invokevirtual 250, 3) := by decide +kernel
theorem dX12_report_102 : decode cX12_report 102 = .ok (.ireturn, 1) := by decide +kernel
theorem dX12_report_103 : decode cX12_report 103 = .ok (.iconst 1, 1) := by decide +kernel
theorem dX12_report_104 : decode cX12_report 104 = .ok (.istore 4, 2) := by decide +kernel
theorem dX12_report_106 : decode cX12_report 106 = .ok (.iconst 0, 1) := by decide +kernel
theorem dX12_report_107 : decode cX12_report 107 = .ok (.istore 5, 2) := by decide +kernel
theorem dX12_report_109 : decode cX12_report 109 = .ok (.iload 5, 2) := by decide +kernel
theorem dX12_report_111 : decode cX12_report 111 = .ok (.iload_n 3, 1) := by decide +kernel
theorem dX12_report_112 : decode cX12_report 112 = .ok (.if_icmp .ge 49, 3) := by decide +kernel
theorem dX12_report_115 : decode cX12_report 115 = .ok (.iload 4, 2) := by decide +kernel
theorem dX12_report_117 : decode cX12_report 117 = .ok (.ifCond .eq 35, 3) := by decide +kernel
theorem dX12_report_120 : decode cX12_report 120 = .ok (.aload_n 0, 1) := by decide +kernel
theorem dX12_report_121 : decode cX12_report 121 = .ok (.getfield 305, 3) := by decide +kernel
theorem dX12_report_124 : decode cX12_report 124 = .ok (.iload 5, 2) := by decide +kernel
theorem dX12_report_126 : decode cX12_report 126 = .ok (.iaload, 1) := by decide +kernel
theorem dX12_report_127 : decode cX12_report 127 = .ok (.bipush 99, 2) := by decide +kernel
theorem dX12_report_129 : decode cX12_report 129 = .ok (.if_icmp .gt 23, 3) := by decide +kernel
theorem dX12_report_132 : decode cX12_report 132 = .ok (.aload_n 0, 1) := by decide +kernel
theorem dX12_report_133 : decode cX12_report 133 = .ok (.getfield 308, 3) := by decide +kernel
theorem dX12_report_136 : decode cX12_report 136 = .ok (.iload 5, 2) := by decide +kernel
theorem dX12_report_138 : decode cX12_report 138 = .ok (.iaload, 1) := by decide +kernel
theorem dX12_report_139 : decode cX12_report 139 = .ok (.iconst 1, 1) := by decide +kernel
theorem dX12_report_140 : decode cX12_report 140 = .ok (.bipush 99, 2) := by decide +kernel
theorem dX12_report_142 : decode cX12_report 142 = .ok (.invokestatic 10, 3) := by decide +kernel
theorem dX12_report_145 : decode cX12_report 145 = .ok (.ifCond .eq 7, 3) := by decide +kernel
theorem dX12_report_148 : decode cX12_report 148 = .ok (.iconst 1, 1) := by decide +kernel
theorem dX12_report_149 : decode cX12_report 149 = .ok (.goto 4, 3) := by decide +kernel
theorem dX12_report_152 : decode cX12_report 152 = .ok (.iconst 0, 1) := by decide +kernel
theorem dX12_report_153 : decode cX12_report 153 = .ok (.istore 4, 2) := by decide +kernel
theorem dX12_report_155 : decode cX12_report 155 = .ok (.iinc 5 1, 3) := by decide +kernel
theorem dX12_report_158 : decode cX12_report 158 = .ok (.goto (-49), 3) := by decide +kernel
theorem dX12_report_161 : decode cX12_report 161 = .ok (.iload 4, 2) := by decide +kernel
theorem dX12_report_163 : decode cX12_report 163 = .ok (.ifCond .ne 10, 3) := by decide +kernel
theorem dX12_report_166 : decode cX12_report 166 = .ok (.aload_n 0, 1) := by decide +kernel
theorem dX12_report_167 : decode cX12_report 167 = .ok (.bipush 9, 2) := by decide +kernel
theorem dX12_report_169 : decode cX12_report 169 = .ok (.invokevirtual 324, 3) := by decide +kernel
theorem dX12_report_172 : decode cX12_report 172 = .ok (.ireturn, 1) := by decide +kernel
theorem dX12_report_173 : decode cX12_report 173 = .ok (.iconst 0, 1) := by decide +kernel
theorem dX12_report_174 : decode cX12_report 174 = .ok (.istore 5, 2) := by decide +kernel
theorem dX12_report_176 : decode cX12_report 176 = .ok (.iload 5, 2) := by decide +kernel
theorem dX12_report_178 : decode cX12_report 178 = .ok (.iload_n 3, 1) := by decide +kernel
theorem dX12_report_179 : decode cX12_report 179 = .ok (.if_icmp .ge 71, 3) := by decide +kernel
theorem dX12_report_182 : decode cX12_report 182 = .ok (.iconst 0, 1) := by decide +kernel
theorem dX12_report_183 : decode cX12_report 183 = .ok (.istore 6, 2) := by decide +kernel
theorem dX12_report_185 : decode cX12_report 185 = .ok (.iload 6, 2) := by decide +kernel
theorem dX12_report_187 : decode cX12_report 187 = .ok (.iload 5, 2) := by decide +kernel
theorem dX12_report_189 : decode cX12_report 189 = .ok (.if_icmp .ge 55, 3) := by decide +kernel
theorem dX12_report_192 : decode cX12_report 192 = .ok (.iload 4, 2) := by decide +kernel
theorem dX12_report_194 : decode cX12_report 194 = .ok (.ifCond .eq 41, 3) := by decide +kernel
theorem dX12_report_197 : decode cX12_report 197 = .ok (.aload_n 0, 1) := by decide +kernel
theorem dX12_report_198 : decode cX12_report 198 = .ok (.getfield 302, 3) := by decide +kernel
theorem dX12_report_201 : decode cX12_report 201 = .ok (.iload 6, 2) := by decide +kernel
theorem dX12_report_203 : decode cX12_report 203 = .ok (.iaload, 1) := by decide +kernel
theorem dX12_report_204 : decode cX12_report 204 = .ok (.aload_n 0, 1) := by decide +kernel
theorem dX12_report_205 : decode cX12_report 205 = .ok (.getfield 302, 3) := by decide +kernel
theorem dX12_report_208 : decode cX12_report 208 = .ok (.iload 5, 2) := by decide +kernel
theorem dX12_report_210 : decode cX12_report 210 = .ok (.iaload, 1) := by decide +kernel
theorem dX12_report_211 : decode cX12_report 211 = .ok (.if_icmp .ne 20, 3) := by decide +kernel
theorem dX12_report_214 : decode cX12_report 214 = .ok (.aload_n 0, 1) := by decide +kernel
theorem dX12_report_215 : decode cX12_report 215 = .ok (.getfield 305, 3) := by decide +kernel
theorem dX12_report_218 : decode cX12_report 218 = .ok (.iload 6, 2) := by decide +kernel
theorem dX12_report_220 : decode cX12_report 220 = .ok (.iaload, 1) := by decide +kernel
theorem dX12_report_221 : decode cX12_report 221 = .ok (.aload_n 0, 1) := by decide +kernel
theorem dX12_report_222 : decode cX12_report 222 = .ok (.getfield 305, 3) := by decide +kernel
theorem dX12_report_225 : decode cX12_report 225 = .ok (.iload 5, 2) := by decide +kernel
theorem dX12_report_227 : decode cX12_report 227 = .ok (.iaload, 1) := by decide +kernel
theorem dX12_report_228 : decode cX12_report 228 = .ok (.if_icmp .eq 7, 3) := by decide +kernel
theorem dX12_report_231 : decode cX12_report 231 = .ok (.iconst 1, 1) := by decide +kernel
theorem dX12_report_232 : decode cX12_report 232 = .ok (.goto 4, 3) := by decide +kernel
theorem dX12_report_235 : decode cX12_report 235 = .ok (.iconst 0, 1) := by decide +kernel
theorem dX12_report_236 : decode cX12_report 236 = .ok (.istore 4, 2) := by decide +kernel
theorem dX12_report_238 : decode cX12_report 238 = .ok (.iinc 6 1, 3) := by decide +kernel
theorem dX12_report_241 : decode cX12_report 241 = .ok (.goto (-56), 3) := by decide +kernel
theorem dX12_report_244 : decode cX12_report 244 = .ok (.iinc 5 1, 3) := by decide +kernel
theorem dX12_report_247 : decode cX12_report 247 = .ok (.goto (-71), 3) := by decide +kernel
theorem dX12_report_250 : decode cX12_report 250 = .ok (.iload 4, 2) := by decide +kernel
theorem dX12_report_252 : decode cX12_report 252 = .ok (.ifCond .ne 10, 3) := by decide +kernel
theorem dX12_report_255 : decode cX12_report 255 = .ok (.aload_n 0, 1) := by decide +kernel
theorem dX12_report_256 : decode cX12_report 256 = .ok (.bipush 10, 2) := by decide +kernel
theorem dX12_report_258 : decode cX12_report 258 = .ok (.invokevirtual 324, 3) := by decide +kernel
theorem dX12_report_261 : decode cX12_report 261 = .ok (.ireturn, 1) := by decide +kernel
theorem dX12_report_262 : decode cX12_report 262 = .ok (.aload_n 0, 1) := by decide +kernel
theorem dX12_report_263 : decode cX12_report 263 = .ok (.iload_n 1, 1) := by decide +kernel
theorem dX12_report_264 : decode cX12_report 264 = .ok (.iload_n 2, 1) := by decide +kernel
theorem dX12_report_265 : decode cX12_report 265 = .ok (.invokevirtual 357, 3) := by decide +kernel
theorem dX12_report_268 : decode cX12_report 268 = .ok (.ifCond .lt 10, 3) := by decide +kernel
theorem dX12_report_271 : decode cX12_report 271 = .ok (.aload_n 0, 1) := by decide +kernel
theorem dX12_report_272 : decode cX12_report 272 = .ok (.bipush 11, 2) := by decide +kernel
theorem dX12_report_274 : decode cX12_report 274 = .ok (.invokevirtual 324, 3) := by decide +kernel
theorem dX12_report_277 : decode cX12_report 277 = .ok (.ireturn, 1) := by decide +kernel
theorem dX12_report_278 : decode cX12_report 278 = .ok (.aload_n 0, 1) := by decide +kernel
theorem dX12_report_279 : decode cX12_report 279 = .ok (.getfield 145, 3) := by decide +kernel
theorem dX12_report_282 : decode cX12_report 282 = .ok (.bipush 48, 2) := by decide +kernel
theorem dX12_report_284 : decode cX12_report 284 = .ok (.if_icmp .ne 10, 3) := by decide +kernel
theorem dX12_report_287 : decode cX12_report 287 = .ok (.aload_n 0, 1) := by decide +kernel
theorem dX12_report_288 : decode cX12_report 288 = .ok (.bipush 9, 2) := by decide +kernel
theorem dX12_report_290 : decode cX12_report 290 = .ok (.invokevirtual 250, 3) := by decide +kernel
theorem dX12_report_293 : decode cX12_report 293 = .ok (.ireturn, 1) := by decide +kernel
theorem dX12_report_294 : decode cX12_report 294 = .ok (.aload_n 0, 1) := by decide +kernel
theorem dX12_report_295 : decode cX12_report 295 = .ok (.getfield 148, 3) := by decide +kernel
theorem dX12_report_298 : decode cX12_report 298 = .ok (.aload_n 0, 1) := by decide +kernel
theorem dX12_report_299 : decode cX12_report 299 = .ok (.getfield 145, 3) := by decide +kernel
theorem dX12_report_302 : decode cX12_report 302 = .ok (.iload_n 1, 1) := by decide +kernel
theorem dX12_report_303 : decode cX12_report 303 = .ok (.iastore, 1) := by decide +kernel
theorem dX12_report_304 : decode cX12_report 304 = .ok (.aload_n 0, 1) := by decide +kernel
theorem dX12_report_305 : decode cX12_report 305 = .ok (.getfield 151, 3) := by decide +kernel
theorem dX12_report_308 : decode cX12_report 308 = .ok (.aload_n 0, 1) := by decide +kernel
theorem dX12_report_309 : decode cX12_report 309 = .ok (.getfield 145, 3) := by decide +kernel
theorem dX12_report_312 : decode cX12_report 312 = .ok (.iload_n 2, 1) := by decide +kernel
theorem dX12_report_313 : decode cX12_report 313 = .ok (.iastore, 1) := by decide +kernel
theorem dX12_report_314 : decode cX12_report 314 = .ok (.aload_n 0, 1) := by decide +kernel
theorem dX12_report_315 : decode cX12_report 315 = .ok (.getfield 157, 3) := by decide +kernel
theorem dX12_report_318 : decode cX12_report 318 = .ok (.aload_n 0, 1) := by decide +kernel
theorem dX12_report_319 : decode cX12_report 319 = .ok (.getfield 145, 3) := by decide +kernel
theorem dX12_report_322 : decode cX12_report 322 = .ok (.iload_n 3, 1) := by decide +kernel
theorem dX12_report_323 : decode cX12_report 323 = .ok (.iastore, 1) := by decide +kernel
theorem dX12_report_324 : decode cX12_report 324 = .ok (.iconst 0, 1) := by decide +kernel
theorem dX12_report_325 : decode cX12_report 325 = .ok (.istore 5, 2) := by decide +kernel
theorem dX12_report_327 : decode cX12_report 327 = .ok (.iload 5, 2) := by decide +kernel
theorem dX12_report_329 : decode cX12_report 329 = .ok (.iload_n 3, 1) := by decide +kernel
theorem dX12_report_330 : decode cX12_report 330 = .ok (.if_icmp .ge 75, 3) := by decide +kernel
theorem dX12_report_333 : decode cX12_report 333 = .ok (.aload_n 0, 1) := by decide +kernel
theorem dX12_report_334 : decode cX12_report 334 = .ok (.getfield 160, 3) := by decide +kernel
theorem dX12_report_337 : decode cX12_report 337 = .ok (.aload_n 0, 1) := by decide +kernel
theorem dX12_report_338 : decode cX12_report 338 = .ok (.getfield 145, 3) := by decide +kernel
theorem dX12_report_341 : decode cX12_report 341 = .ok (.bipush 16, 2) := by decide +kernel
theorem dX12_report_343 : decode cX12_report 343 = .ok (.imul, 1) := by decide +kernel
theorem dX12_report_344 : decode cX12_report 344 = .ok (.iload 5, 2) := by decide +kernel
theorem dX12_report_346 : decode cX12_report 346 = .ok (.iadd, 1) := by decide +kernel
theorem dX12_report_347 : decode cX12_report 347 = .ok (.aload_n 0, 1) := by decide +kernel
theorem dX12_report_348 : decode cX12_report 348 = .ok (.getfield 302, 3) := by decide +kernel
theorem dX12_report_351 : decode cX12_report 351 = .ok (.iload 5, 2) := by decide +kernel
theorem dX12_report_353 : decode cX12_report 353 = .ok (.iaload, 1) := by decide +kernel
theorem dX12_report_354 : decode cX12_report 354 = .ok (.iastore, 1) := by decide +kernel
theorem dX12_report_355 : decode cX12_report 355 = .ok (.aload_n 0, 1) := by decide +kernel
theorem dX12_report_356 : decode cX12_report 356 = .ok (.getfield 163, 3) := by decide +kernel
theorem dX12_report_359 : decode cX12_report 359 = .ok (.aload_n 0, 1) := by decide +kernel
theorem dX12_report_360 : decode cX12_report 360 = .ok (.getfield 145, 3) := by decide +kernel
theorem dX12_report_363 : decode cX12_report 363 = .ok (.bipush 16, 2) := by decide +kernel
theorem dX12_report_365 : decode cX12_report 365 = .ok (.imul, 1) := by decide +kernel
theorem dX12_report_366 : decode cX12_report 366 = .ok (.iload 5, 2) := by decide +kernel
theorem dX12_report_368 : decode cX12_report 368 = .ok (.iadd, 1) := by decide +kernel
theorem dX12_report_369 : decode cX12_report 369 = .ok (.aload_n 0, 1) := by decide +kernel
theorem dX12_report_370 : decode cX12_report 370 = .ok (.getfield 305, 3) := by decide +kernel
theorem dX12_report_373 : decode cX12_report 373 = .ok (.iload 5, 2) := by decide +kernel
theorem dX12_report_375 : decode cX12_report 375 = .ok (.iaload, 1) := by decide +kernel
theorem dX12_report_376 : decode cX12_report 376 = .ok (.iastore, 1) := by decide +kernel
theorem dX12_report_377 : decode cX12_report 377 = .ok (.aload_n 0, 1) := by decide +kernel
theorem dX12_report_378 : decode cX12_report 378 = .ok (.getfield 166, 3) := by decide +kernel
theorem dX12_report_381 : decode cX12_report 381 = .ok (.aload_n 0, 1) := by decide +kernel
theorem dX12_report_382 : decode cX12_report 382 = .ok (.getfield 145, 3) := by decide +kernel
theorem dX12_report_385 : decode cX12_report 385 = .ok (.bipush 16, 2) := by decide +kernel
theorem dX12_report_387 : decode cX12_report 387 = .ok (.imul, 1) := by decide +kernel
theorem dX12_report_388 : decode cX12_report 388 = .ok (.iload 5, 2) := by decide +kernel
theorem dX12_report_390 : decode cX12_report 390 = .ok (.iadd, 1) := by decide +kernel
theorem dX12_report_391 : decode cX12_report 391 = .ok (.aload_n 0, 1) := by decide +kernel
theorem dX12_report_392 : decode cX12_report 392 = .ok (.getfield 308, 3) := by decide +kernel
theorem dX12_report_395 : decode cX12_report 395 = .ok (.iload 5, 2) := by decide +kernel
theorem dX12_report_397 : decode cX12_report 397 = .ok (.iaload, 1) := by decide +kernel
theorem dX12_report_398 : decode cX12_report 398 = .ok (.iastore, 1) := by decide +kernel
theorem dX12_report_399 : decode cX12_report 399 = .ok (.iinc 5 1, 3) := by decide +kernel
theorem dX12_report_402 : decode cX12_report 402 = .ok (.goto (-75), 3) := by decide +kernel
theorem dX12_report_405 : decode cX12_report 405 = .ok (.aload_n 0, 1) := by decide +kernel
theorem dX12_report_406 : decode cX12_report 406 = .ok (.dup, 1) := by decide +kernel
theorem dX12_report_407 : decode cX12_report 407 = .ok (.getfield 145, 3) := by decide +kernel
theorem dX12_report_410 : decode cX12_report 410 = .ok (.iconst 1, 1) := by decide +kernel
theorem dX12_report_411 : decode cX12_report 411 = .ok (.iadd, 1) := by decide +kernel
theorem dX12_report_412 : decode cX12_report 412 = .ok (.putfield 145, 3) := by decide +kernel
theorem dX12_report_415 : decode cX12_report 415 = .ok (.iconst 0, 1) := by decide +kernel
theorem dX12_report_416 : decode cX12_report 416 = .ok (.istore 5, 2) := by decide +kernel
theorem dX12_report_418 : decode cX12_report 418 = .ok (.iconst 0, 1) := by decide +kernel
theorem dX12_report_419 : decode cX12_report 419 = .ok (.istore 6, 2) := by decide +kernel
theorem dX12_report_421 : decode cX12_report 421 = .ok (.iload 6, 2) := by decide +kernel
theorem dX12_report_423 : decode cX12_report 423 = .ok (.aload_n 0, 1) := by decide +kernel
theorem dX12_report_424 : decode cX12_report 424 = .ok (.getfield 145, 3) := by decide +kernel
theorem dX12_report_427 : decode cX12_report 427 = .ok (.if_icmp .ge 30, 3) := by decide +kernel
theorem dX12_report_430 : decode cX12_report 430 = .ok (.iload 5, 2) := by decide +kernel
theorem dX12_report_432 : decode cX12_report 432 = .ok (.aload_n 0, 1) := by decide +kernel
theorem dX12_report_433 : decode cX12_report 433 = .ok (.getfield 148, 3) := by decide +kernel
theorem dX12_report_436 : decode cX12_report 436 = .ok (.iload 6, 2) := by decide +kernel
theorem dX12_report_438 : decode cX12_report 438 = .ok (.iaload, 1) := by decide +kernel
theorem dX12_report_439 : decode cX12_report 439 = .ok (.iload_n 1, 1) := by decide +kernel
theorem dX12_report_440 : decode cX12_report 440 = .ok (.if_icmp .ne 7, 3) := by decide +kernel
theorem dX12_report_443 : decode cX12_report 443 = .ok (.iconst 1, 1) := by decide +kernel
theorem dX12_report_444 : decode cX12_report 444 = .ok (.goto 4, 3) := by decide +kernel
theorem dX12_report_447 : decode cX12_report 447 = .ok (.iconst 0, 1) := by decide +kernel
theorem dX12_report_448 : decode cX12_report 448 = .ok (.iadd, 1) := by decide +kernel
theorem dX12_report_449 : decode cX12_report 449 = .ok (.istore 5, 2) := by decide +kernel
theorem dX12_report_451 : decode cX12_report 451 = .ok (.iinc 6 1, 3) := by decide +kernel
theorem dX12_report_454 : decode cX12_report 454 = .ok (.goto (-33), 3) := by decide +kernel
theorem dX12_report_457 : decode cX12_report 457 = .ok (.aload_n 0, 1) := by decide +kernel
theorem dX12_report_458 : decode cX12_report 458 = .ok (.iload 5, 2) := by decide +kernel
theorem dX12_report_460 : decode cX12_report 460 = .ok (.invokevirtual 247, 3) := by decide +kernel
theorem dX12_report_463 : decode cX12_report 463 = .ok (.ireturn, 1) := by decide +kernel
set_option maxRecDepth 20000 in
theorem ggX12_appraise_X12_isThing : GoodIn wsX12_appraise wsX12_isThing := goodIn_r _ [9, 10, 11, 12, 8, 13, 31, 32, 33, 34, 35, 36, 37, 38, 39, 40, 41, 42, 43, 44, 45, 46, 47, 48, 49, 50, 51, 52, 53, 54, 55, 56, 57, 58, 59, 60, 61, 62, 63, 64, 65, 66, 67, 68, 69, 70, 71, 72, 73, 74, 75, 76, 77, 78, 79, 80, 81] (by decide +kernel) (by decide +kernel)
set_option maxRecDepth 20000 in
theorem gX12_appraise_X12_isThing : GoodIn wsX12_appraise (wsV RX12 337 RX12 yX12_isThing wsX12_isThing) := goodIn_app (goodIn_of _ (by decide +kernel)) ggX12_appraise_X12_isThing
set_option maxRecDepth 20000 in
theorem ggX12_appraise_X12_no : GoodIn wsX12_appraise wsX12_no := goodIn_r _ [17, 18, 31, 32, 33, 34, 35, 36, 37, 38, 39, 40, 41, 42, 43, 44, 45, 46, 47, 48, 49, 50, 51, 52, 53, 54, 55, 56, 57, 58, 59, 60, 61, 62, 63, 64, 65, 66, 67, 68, 69, 70, 71, 72, 73, 74, 75, 76, 77, 78, 79, 80, 81] (by decide +kernel) (by decide +kernel)
set_option maxRecDepth 20000 in
theorem gX12_appraise_X12_no : GoodIn wsX12_appraise (wsV RX12 250 RX12 yX12_no wsX12_no) := goodIn_app (goodIn_of _ (by decide +kernel)) ggX12_appraise_X12_no
set_option maxRecDepth 20000 in
theorem ggX12_appraise_X12_isDay : GoodIn wsX12_appraise wsX12_isDay := goodIn_r _ [21, 11, 12, 8, 13] (by decide +kernel) (by decide +kernel)
set_option maxRecDepth 20000 in
theorem gX12_appraise_X12_isDay : GoodIn wsX12_appraise (va_wsS RX12 354 yX12_isDay wsX12_isDay) := goodIn_app (goodIn_of _ (by decide +kernel)) ggX12_appraise_X12_isDay
set_option maxRecDepth 20000 in
theorem ggX12_appraise_X12_isIn : GoodIn wsX12_appraise wsX12_isIn := goodIn_r _ [13] (by decide +kernel) (by decide +kernel)
set_option maxRecDepth 20000 in
theorem gX12_appraise_X12_isIn : GoodIn wsX12_appraise (va_wsS RX12 10 yX12_isIn wsX12_isIn) := goodIn_app (goodIn_of _ (by decide +kernel)) ggX12_appraise_X12_isIn
set_option maxRecDepth 20000 in
theorem ggX12_appraise_X12_valueOn : GoodIn wsX12_appraise wsX12_valueOn := goodIn_r _ [25, 26, 1, 2, 3, 4, 31, 32, 33, 34, 35, 36, 37, 38, 39, 40, 41, 42, 43, 44, 45, 46, 47, 48, 49, 50, 51, 52, 53, 54, 55, 56, 57, 58, 59, 60, 61, 62, 63, 64, 65, 66, 67, 68, 69, 70, 71, 72, 73, 74, 75, 76, 77, 78, 79, 80, 81] (by decide +kernel) (by decide +kernel)
set_option maxRecDepth 20000 in
theorem gX12_appraise_X12_valueOn : GoodIn wsX12_appraise (wsV RX12 122 RX12 yX12_valueOn wsX12_valueOn) := goodIn_app (goodIn_of _ (by decide +kernel)) ggX12_appraise_X12_valueOn
set_option maxRecDepth 20000 in
theorem ggX12_appraise_X12_fine : GoodIn wsX12_appraise wsX12_fine := goodIn_r _ [30, 18, 31, 32, 33, 34, 35, 36, 37, 38, 39, 40, 41, 42, 43, 44, 45, 46, 47, 48, 49, 50, 51, 52, 53, 54, 55, 56, 57, 58, 59, 60, 61, 62, 63, 64, 65, 66, 67, 68, 69, 70, 71, 72, 73, 74, 75, 76, 77, 78, 79, 80, 81] (by decide +kernel) (by decide +kernel)
set_option maxRecDepth 20000 in
theorem gX12_appraise_X12_fine : GoodIn wsX12_appraise (wsV RX12 247 RX12 yX12_fine wsX12_fine) := goodIn_app (goodIn_of _ (by decide +kernel)) ggX12_appraise_X12_fine
theorem dX12_appraise_0 : decode cX12_appraise 0 = .ok (.aload_n 0, 1) := by decide +kernel
theorem dX12_appraise_1 : decode cX12_appraise 1 = .ok (.iload_n 1, 1) := by decide +kernel
theorem dX12_appraise_2 : decode cX12_appraise 2 = .ok (.invokevirtual 337, 3) := by decide +kernel
theorem dX12_appraise_5 : decode cX12_appraise 5 = .ok (.ifCond .ne 9, 3) := by decide +kernel
theorem dX12_appraise_8 : decode cX12_appraise 8 = .ok (.aload_n 0, 1) := by decide +kernel
theorem dX12_appraise_9 : decode cX12_appraise 9 = .ok (.iconst 1, 1) := by decide +kernel
theorem dX12_appraise_10 : decode cX12_appraise 10 = .ok (.invokevirtual 250, 3) := by decide +kernel
theorem dX12_appraise_13 : decode cX12_appraise 13 = .ok (.ireturn, 1) := by decide +kernel
theorem dX12_appraise_14 : decode cX12_appraise 14 = .ok (.iload_n 2, 1) := by decide +kernel
theorem dX12_appraise_15 : decode cX12_appraise 15 = .ok (.invokestatic 354, 3) := by decide +kernel
theorem dX12_appraise_18 : decode cX12_appraise 18 = .ok (.ifCond .eq 14, 3) := by decide +kernel
theorem dX12_appraise_21 : decode cX12_appraise 21 = .ok (.iload_n 3, 1) := by decide +kernel
theorem dX12_appraise_22 : decode cX12_appraise 22 = .ok (.iconst 1, 1) := by decide +kernel
theorem dX12_appraise_23 : decode cX12_appraise 23 = .ok (.sipush 9999, 3) := by decide +kernel
theorem dX12_appraise_26 : decode cX12_appraise 26 = .ok (.invokestatic 10, 3) := by decide +kernel
theorem dX12_appraise_29 : decode cX12_appraise 29 = .ok (.ifCond .ne 9, 3) := by decide +kernel
theorem dX12_appraise_32 : decode cX12_appraise 32 = .ok (.aload_n 0, 1) := by decide +kernel
theorem dX12_appraise_33 : decode cX12_appraise 33 = .ok (.iconst 3, 1) := by decide +kernel
theorem dX12_appraise_34 : decode cX12_appraise 34 = .ok (.invokevirtual 250, 3) := by decide +kernel
theorem dX12_appraise_37 : decode cX12_appraise 37 = .ok (.ireturn, 1) := by decide +kernel
theorem dX12_appraise_38 : decode cX12_appraise 38 = .ok (.aload_n 0, 1) := by decide +kernel
theorem dX12_appraise_39 : decode cX12_appraise 39 = .ok (.iload_n 1, 1) := by decide +kernel
theorem dX12_appraise_40 : decode cX12_appraise 40 = .ok (.iload_n 2, 1) := by decide +kernel
theorem dX12_appraise_41 : decode cX12_appraise 41 = .ok (.invokevirtual 122, 3) := by decide +kernel
theorem dX12_appraise_44 : decode cX12_appraise 44 = .ok (.istore 4, 2) := by decide +kernel
theorem dX12_appraise_46 : decode cX12_appraise 46 = .ok (.iconst 0, 1) := by decide +kernel
theorem dX12_appraise_47 : decode cX12_appraise 47 = .ok (.istore 5, 2) := by decide +kernel
theorem dX12_appraise_49 : decode cX12_appraise 49 = .ok (.iload 5, 2) := by decide +kernel
theorem dX12_appraise_51 : decode cX12_appraise 51 = .ok (.aload_n 0, 1) := by decide +kernel
theorem dX12_appraise_52 : decode cX12_appraise 52 = .ok (.getfield 34, 3) := by decide +kernel
theorem dX12_appraise_55 : decode cX12_appraise 55 = .ok (.if_icmp .ge 31, 3) := by decide +kernel
theorem dX12_appraise_58 : decode cX12_appraise 58 = .ok (.aload_n 0, 1) := by decide +kernel
theorem dX12_appraise_59 : decode cX12_appraise 59 = .ok (.getfield 37, 3) := by decide +kernel
theorem dX12_appraise_62 : decode cX12_appraise 62 = .ok (.iload 5, 2) := by decide +kernel
theorem dX12_appraise_64 : decode cX12_appraise 64 = .ok (.iaload, 1) := by decide +kernel
theorem dX12_appraise_65 : decode cX12_appraise 65 = .ok (.iload_n 1, 1) := by decide +kernel
theorem dX12_appraise_66 : decode cX12_appraise 66 = .ok (.if_icmp .ne 14, 3) := by decide +kernel
theorem dX12_appraise_69 : decode cX12_appraise 69 = .ok (.aload_n 0, 1) := by decide +kernel
theorem dX12_appraise_70 : decode cX12_appraise 70 = .ok (.getfield 40, 3) := by decide +kernel
theorem dX12_appraise_73 : decode cX12_appraise 73 = .ok (.iload 5, 2) := by decide +kernel
theorem dX12_appraise_75 : decode cX12_appraise 75 = .ok (.iaload, 1) := by decide +kernel
theorem dX12_appraise_76 : decode cX12_appraise 76 = .ok (.iload_n 2, 1) := by decide +kernel
theorem dX12_appraise_77 : decode cX12_appraise 77 = .ok (.if_icmp .eq 9, 3) := by decide +kernel
theorem dX12_appraise_80 : decode cX12_appraise 80 = .ok (.iinc 5 1, 3) := by decide +kernel
theorem dX12_appraise_83 : decode cX12_appraise 83 = .ok (.goto (-34), 3) := by decide +kernel
theorem dX12_appraise_86 : decode cX12_appraise 86 = .ok (.iload 5, 2) := by decide +kernel
theorem dX12_appraise_88 : decode cX12_appraise 88 = .ok (.bipush 48, 2) := by decide +kernel
theorem dX12_appraise_90 : decode cX12_appraise 90 = .ok (.if_icmp .ne 10, 3) := by decide +kernel
theorem dX12_appraise_93 : decode cX12_appraise 93 = .ok (.aload_n 0, 1) := by decide +kernel
theorem dX12_appraise_94 : decode cX12_appraise 94 = .ok (.bipush 9, 2) := by decide +kernel
theorem dX12_appraise_96 : decode cX12_appraise 96 = .ok (.invokevirtual 250, 3) := by decide +kernel
theorem dX12_appraise_99 : decode cX12_appraise 99 = .ok (.ireturn, 1) := by decide +kernel
theorem dX12_appraise_100 : decode cX12_appraise 100 = .ok (.aload_n 0, 1) := by decide +kernel
theorem dX12_appraise_101 : decode cX12_appraise 101 = .ok (.getfield 37, 3) := by decide +kernel
theorem dX12_appraise_104 : decode cX12_appraise 104 = .ok (.iload 5, 2) := by decide +kernel
theorem dX12_appraise_106 : decode cX12_appraise 106 = .ok (.iload_n 1, 1) := by decide +kernel
theorem dX12_appraise_107 : decode cX12_appraise 107 = .ok (.iastore, 1) := by decide +kernel
theorem dX12_appraise_108 : decode cX12_appraise 108 = .ok (.aload_n 0, 1) := by decide +kernel
theorem dX12_appraise_109 : decode cX12_appraise 109 = .ok (.getfield 40, 3) := by decide +kernel
theorem dX12_appraise_112 : decode cX12_appraise 112 = .ok (.iload 5, 2) := by decide +kernel
theorem dX12_appraise_114 : decode cX12_appraise 114 = .ok (.iload_n 2, 1) := by decide +kernel
theorem dX12_appraise_115 : decode cX12_appraise 115 = .ok (.iastore, 1) := by decide +kernel
theorem dX12_appraise_116 : decode cX12_appraise 116 = .ok (.aload_n 0, 1) := by decide +kernel
theorem dX12_appraise_117 : decode cX12_appraise 117 = .ok (.getfield 43, 3) := by decide +kernel
theorem dX12_appraise_120 : decode cX12_appraise 120 = .ok (.iload 5, 2) := by decide +kernel
theorem dX12_appraise_122 : decode cX12_appraise 122 = .ok (.iload_n 3, 1) := by decide +kernel
theorem dX12_appraise_123 : decode cX12_appraise 123 = .ok (.iastore, 1) := by decide +kernel
theorem dX12_appraise_124 : decode cX12_appraise 124 = .ok (.iload 5, 2) := by decide +kernel
theorem dX12_appraise_126 : decode cX12_appraise 126 = .ok (.aload_n 0, 1) := by decide +kernel
theorem dX12_appraise_127 : decode cX12_appraise 127 = .ok (.getfield 34, 3) := by decide +kernel
theorem dX12_appraise_130 : decode cX12_appraise 130 = .ok (.if_icmp .ne 13, 3) := by decide +kernel
theorem dX12_appraise_133 : decode cX12_appraise 133 = .ok (.aload_n 0, 1) := by decide +kernel
theorem dX12_appraise_134 : decode cX12_appraise 134 = .ok (.dup, 1) := by decide +kernel
theorem dX12_appraise_135 : decode cX12_appraise 135 = .ok (.getfield 34, 3) := by decide +kernel
theorem dX12_appraise_138 : decode cX12_appraise 138 = .ok (.iconst 1, 1) := by decide +kernel
theorem dX12_appraise_139 : decode cX12_appraise 139 = .ok (.iadd, 1) := by decide +kernel
theorem dX12_appraise_140 : decode cX12_appraise 140 = .ok (.putfield 34, 3) := by decide +kernel
theorem dX12_appraise_143 : decode cX12_appraise 143 = .ok (.aload_n 0, 1) := by decide +kernel
theorem dX12_appraise_144 : decode cX12_appraise 144 = .ok (.iload 4, 2) := by decide +kernel
theorem dX12_appraise_146 : decode cX12_appraise 146 = .ok (.invokevirtual 247, 3) := by decide +kernel
theorem dX12_appraise_149 : decode cX12_appraise 149 = .ok (.ireturn, 1) := by decide +kernel
theorem dX12_standing_0 : decode cX12_standing 0 = .ok (.iconst 0, 1) := by decide +kernel
theorem dX12_standing_1 : decode cX12_standing 1 = .ok (.istore_n 1, 1) := by decide +kernel
theorem dX12_standing_2 : decode cX12_standing 2 = .ok (.iconst 0, 1) := by decide +kernel
theorem dX12_standing_3 : decode cX12_standing 3 = .ok (.istore_n 2, 1) := by decide +kernel
theorem dX12_standing_4 : decode cX12_standing 4 = .ok (.iload_n 2, 1) := by decide +kernel
theorem dX12_standing_5 : decode cX12_standing 5 = .ok (.aload_n 0, 1) := by decide +kernel
theorem dX12_standing_6 : decode cX12_standing 6 = .ok (.getfield 20, 3) := by decide +kernel
theorem dX12_standing_9 : decode cX12_standing 9 = .ok (.if_icmp .ge 26, 3) := by decide +kernel
theorem dX12_standing_12 : decode cX12_standing 12 = .ok (.iload_n 1, 1) := by decide +kernel
theorem dX12_standing_13 : decode cX12_standing 13 = .ok (.aload_n 0, 1) := by decide +kernel
theorem dX12_standing_14 : decode cX12_standing 14 = .ok (.getfield 23, 3) := by decide +kernel
theorem dX12_standing_17 : decode cX12_standing 17 = .ok (.iload_n 2, 1) := by decide +kernel
theorem dX12_standing_18 : decode cX12_standing 18 = .ok (.baload, 1) := by decide +kernel
theorem dX12_standing_19 : decode cX12_standing 19 = .ok (.ifCond .eq 7, 3) := by decide +kernel
theorem dX12_standing_22 : decode cX12_standing 22 = .ok (.iconst 1, 1) := by decide +kernel
theorem dX12_standing_23 : decode cX12_standing 23 = .ok (.goto 4, 3) := by decide +kernel
theorem dX12_standing_26 : decode cX12_standing 26 = .ok (.iconst 0, 1) := by decide +kernel
theorem dX12_standing_27 : decode cX12_standing 27 = .ok (.iadd, 1) := by decide +kernel
theorem dX12_standing_28 : decode cX12_standing 28 = .ok (.istore_n 1, 1) := by decide +kernel
theorem dX12_standing_29 : decode cX12_standing 29 = .ok (.iinc 2 1, 3) := by decide +kernel
theorem dX12_standing_32 : decode cX12_standing 32 = .ok (.goto (-28), 3) := by decide +kernel
theorem dX12_standing_35 : decode cX12_standing 35 = .ok (.iload_n 1, 1) := by decide +kernel
theorem dX12_standing_36 : decode cX12_standing 36 = .ok (.ireturn, 1) := by decide +kernel
set_option maxRecDepth 20000 in
theorem ggX12_cancel_X12_isLoan : GoodIn wsX12_cancel wsX12_isLoan := goodIn_r _ [6, 7, 1, 8, 9, 5, 10, 24, 25, 26, 27, 28, 29, 30, 31, 32, 33, 34, 35, 36, 37, 38, 39, 40, 41, 42, 43, 44, 45, 46, 47, 48, 49, 50, 51, 52, 53, 54, 55, 56, 57, 58, 59, 60, 61, 62, 63, 64, 65, 66, 67, 68, 69, 70, 71, 72, 73, 74] (by decide +kernel) (by decide +kernel)
set_option maxRecDepth 20000 in
theorem gX12_cancel_X12_isLoan : GoodIn wsX12_cancel (wsV RX12 360 RX12 yX12_isLoan wsX12_isLoan) := goodIn_app (goodIn_of _ (by decide +kernel)) ggX12_cancel_X12_isLoan
set_option maxRecDepth 20000 in
theorem ggX12_cancel_X12_no : GoodIn wsX12_cancel wsX12_no := goodIn_r _ [14, 15, 24, 25, 26, 27, 28, 29, 30, 31, 32, 33, 34, 35, 36, 37, 38, 39, 40, 41, 42, 43, 44, 45, 46, 47, 48, 49, 50, 51, 52, 53, 54, 55, 56, 57, 58, 59, 60, 61, 62, 63, 64, 65, 66, 67, 68, 69, 70, 71, 72, 73, 74] (by decide +kernel) (by decide +kernel)
set_option maxRecDepth 20000 in
theorem gX12_cancel_X12_no : GoodIn wsX12_cancel (wsV RX12 250 RX12 yX12_no wsX12_no) := goodIn_app (goodIn_of _ (by decide +kernel)) ggX12_cancel_X12_no
set_option maxRecDepth 20000 in
theorem ggX12_cancel_X12_standing : GoodIn wsX12_cancel wsX12_standing := goodIn_r _ [19, 7, 1, 24, 25, 26, 27, 28, 29, 30, 31, 32, 33, 34, 35, 36, 37, 38, 39, 40, 41, 42, 43, 44, 45, 46, 47, 48, 49, 50, 51, 52, 53, 54, 55, 56, 57, 58, 59, 60, 61, 62, 63, 64, 65, 66, 67, 68, 69, 70, 71, 72, 73, 74] (by decide +kernel) (by decide +kernel)
set_option maxRecDepth 20000 in
theorem gX12_cancel_X12_standing : GoodIn wsX12_cancel (wsV RX12 363 RX12 yX12_standing wsX12_standing) := goodIn_app (goodIn_of _ (by decide +kernel)) ggX12_cancel_X12_standing
set_option maxRecDepth 20000 in
theorem ggX12_cancel_X12_fine : GoodIn wsX12_cancel wsX12_fine := goodIn_r _ [23, 15, 24, 25, 26, 27, 28, 29, 30, 31, 32, 33, 34, 35, 36, 37, 38, 39, 40, 41, 42, 43, 44, 45, 46, 47, 48, 49, 50, 51, 52, 53, 54, 55, 56, 57, 58, 59, 60, 61, 62, 63, 64, 65, 66, 67, 68, 69, 70, 71, 72, 73, 74] (by decide +kernel) (by decide +kernel)
set_option maxRecDepth 20000 in
theorem gX12_cancel_X12_fine : GoodIn wsX12_cancel (wsV RX12 247 RX12 yX12_fine wsX12_fine) := goodIn_app (goodIn_of _ (by decide +kernel)) ggX12_cancel_X12_fine
theorem dX12_cancel_0 : decode cX12_cancel 0 = .ok (.aload_n 0, 1) := by decide +kernel
theorem dX12_cancel_1 : decode cX12_cancel 1 = .ok (.iload_n 1, 1) := by decide +kernel
theorem dX12_cancel_2 : decode cX12_cancel 2 = .ok (.invokevirtual 360, 3) := by decide +kernel
theorem dX12_cancel_5 : decode cX12_cancel 5 = .ok (.ifCond .ne 9, 3) := by decide +kernel
theorem dX12_cancel_8 : decode cX12_cancel 8 = .ok (.aload_n 0, 1) := by decide +kernel
theorem dX12_cancel_9 : decode cX12_cancel 9 = .ok (.iconst 1, 1) := by decide +kernel
theorem dX12_cancel_10 : decode cX12_cancel 10 = .ok (.invokevirtual 250, 3) := by decide +kernel
theorem dX12_cancel_13 : decode cX12_cancel 13 = .ok (.ireturn, 1) := by decide +kernel
theorem dX12_cancel_14 : decode cX12_cancel 14 = .ok (.aload_n 0, 1) := by decide +kernel
theorem dX12_cancel_15 : decode cX12_cancel 15 = .ok (.getfield 23, 3) := by decide +kernel
theorem dX12_cancel_18 : decode cX12_cancel 18 = .ok (.iload_n 1, 1) := by decide +kernel
theorem dX12_cancel_19 : decode cX12_cancel 19 = .ok (.iconst 0, 1) := by decide +kernel
theorem dX12_cancel_20 : decode cX12_cancel 20 = .ok (.bastore, 1) := by decide +kernel
theorem dX12_cancel_21 : decode cX12_cancel 21 = .ok (.aload_n 0, 1) := by decide +kernel
theorem dX12_cancel_22 : decode cX12_cancel 22 = .ok (.aload_n 0, 1) := by decide +kernel
theorem dX12_cancel_23 : decode cX12_cancel 23 = .ok (.invokevirtual 363, 3) := by decide +kernel
theorem dX12_cancel_26 : decode cX12_cancel 26 = .ok (.invokevirtual 247, 3) := by decide +kernel
theorem dX12_cancel_29 : decode cX12_cancel 29 = .ok (.ireturn, 1) := by decide +kernel
theorem dX12_place_0 : decode cX12_place 0 = .ok (.aload_n 0, 1) := by decide +kernel
theorem dX12_place_1 : decode cX12_place 1 = .ok (.getfield 291, 3) := by decide +kernel
theorem dX12_place_4 : decode cX12_place 4 = .ok (.ireturn, 1) := by decide +kernel
theorem dX12_fault_0 : decode cX12_fault 0 = .ok (.aload_n 0, 1) := by decide +kernel
theorem dX12_fault_1 : decode cX12_fault 1 = .ok (.getfield 284, 3) := by decide +kernel
theorem dX12_fault_4 : decode cX12_fault 4 = .ok (.ireturn, 1) := by decide +kernel
set_option maxRecDepth 20000 in
theorem ggX12_count_X12_fine : GoodIn wsX12_count wsX12_fine := goodIn_r _ [11, 12, 22, 23, 24, 25, 26, 27, 28, 29, 30, 31, 32, 33, 34, 35, 36, 37, 38, 39, 40, 41, 42, 43, 44, 45, 46, 47, 48, 49, 50, 51, 52, 53, 54, 55, 56, 57, 58, 59, 60, 61, 62, 63, 64, 65, 66, 67, 68, 69, 70, 71, 72] (by decide +kernel) (by decide +kernel)
set_option maxRecDepth 20000 in
theorem gX12_count_X12_fine : GoodIn wsX12_count (wsV RX12 247 RX12 yX12_fine wsX12_fine) := goodIn_app (goodIn_of _ (by decide +kernel)) ggX12_count_X12_fine
set_option maxRecDepth 20000 in
theorem ggX12_count_X12_standing : GoodIn wsX12_count wsX12_standing := goodIn_r _ [16, 4, 17, 22, 23, 24, 25, 26, 27, 28, 29, 30, 31, 32, 33, 34, 35, 36, 37, 38, 39, 40, 41, 42, 43, 44, 45, 46, 47, 48, 49, 50, 51, 52, 53, 54, 55, 56, 57, 58, 59, 60, 61, 62, 63, 64, 65, 66, 67, 68, 69, 70, 71, 72] (by decide +kernel) (by decide +kernel)
set_option maxRecDepth 20000 in
theorem gX12_count_X12_standing : GoodIn wsX12_count (wsV RX12 363 RX12 yX12_standing wsX12_standing) := goodIn_app (goodIn_of _ (by decide +kernel)) ggX12_count_X12_standing
set_option maxRecDepth 20000 in
theorem ggX12_count_X12_no : GoodIn wsX12_count wsX12_no := goodIn_r _ [21, 12, 22, 23, 24, 25, 26, 27, 28, 29, 30, 31, 32, 33, 34, 35, 36, 37, 38, 39, 40, 41, 42, 43, 44, 45, 46, 47, 48, 49, 50, 51, 52, 53, 54, 55, 56, 57, 58, 59, 60, 61, 62, 63, 64, 65, 66, 67, 68, 69, 70, 71, 72] (by decide +kernel) (by decide +kernel)
set_option maxRecDepth 20000 in
theorem gX12_count_X12_no : GoodIn wsX12_count (wsV RX12 250 RX12 yX12_no wsX12_no) := goodIn_app (goodIn_of _ (by decide +kernel)) ggX12_count_X12_no
theorem dX12_count_0 : decode cX12_count 0 = .ok (.iload_n 1, 1) := by decide +kernel
theorem dX12_count_1 : decode cX12_count 1 = .ok (.tableswitch 106 0 6 #[43, 52, 61, 70, 79, 88, 97], 43) := by decide +kernel
theorem dX12_count_44 : decode cX12_count 44 = .ok (.aload_n 0, 1) := by decide +kernel
theorem dX12_count_45 : decode cX12_count 45 = .ok (.aload_n 0, 1) := by decide +kernel
theorem dX12_count_46 : decode cX12_count 46 = .ok (.getfield 7, 3) := by decide +kernel
theorem dX12_count_49 : decode cX12_count 49 = .ok (.invokevirtual 247, 3) := by decide +kernel
theorem dX12_count_52 : decode cX12_count 52 = .ok (.ireturn, 1) := by decide +kernel
theorem dX12_count_53 : decode cX12_count 53 = .ok (.aload_n 0, 1) := by decide +kernel
theorem dX12_count_54 : decode cX12_count 54 = .ok (.aload_n 0, 1) := by decide +kernel
theorem dX12_count_55 : decode cX12_count 55 = .ok (.getfield 14, 3) := by decide +kernel
theorem dX12_count_58 : decode cX12_count 58 = .ok (.invokevirtual 247, 3) := by decide +kernel
theorem dX12_count_61 : decode cX12_count 61 = .ok (.ireturn, 1) := by decide +kernel
theorem dX12_count_62 : decode cX12_count 62 = .ok (.aload_n 0, 1) := by decide +kernel
theorem dX12_count_63 : decode cX12_count 63 = .ok (.aload_n 0, 1) := by decide +kernel
theorem dX12_count_64 : decode cX12_count 64 = .ok (.getfield 17, 3) := by decide +kernel
theorem dX12_count_67 : decode cX12_count 67 = .ok (.invokevirtual 247, 3) := by decide +kernel
theorem dX12_count_70 : decode cX12_count 70 = .ok (.ireturn, 1) := by decide +kernel
theorem dX12_count_71 : decode cX12_count 71 = .ok (.aload_n 0, 1) := by decide +kernel
theorem dX12_count_72 : decode cX12_count 72 = .ok (.aload_n 0, 1) := by decide +kernel
theorem dX12_count_73 : decode cX12_count 73 = .ok (.getfield 20, 3) := by decide +kernel
theorem dX12_count_76 : decode cX12_count 76 = .ok (.invokevirtual 247, 3) := by decide +kernel
theorem dX12_count_79 : decode cX12_count 79 = .ok (.ireturn, 1) := by decide +kernel
theorem dX12_count_80 : decode cX12_count 80 = .ok (.aload_n 0, 1) := by decide +kernel
theorem dX12_count_81 : decode cX12_count 81 = .ok (.aload_n 0, 1) := by decide +kernel
theorem dX12_count_82 : decode cX12_count 82 = .ok (.invokevirtual 363, 3) := by decide +kernel
theorem dX12_count_85 : decode cX12_count 85 = .ok (.invokevirtual 247, 3) := by decide +kernel
theorem dX12_count_88 : decode cX12_count 88 = .ok (.ireturn, 1) := by decide +kernel
theorem dX12_count_89 : decode cX12_count 89 = .ok (.aload_n 0, 1) := by decide +kernel
theorem dX12_count_90 : decode cX12_count 90 = .ok (.aload_n 0, 1) := by decide +kernel
theorem dX12_count_91 : decode cX12_count 91 = .ok (.getfield 145, 3) := by decide +kernel
theorem dX12_count_94 : decode cX12_count 94 = .ok (.invokevirtual 247, 3) := by decide +kernel
theorem dX12_count_97 : decode cX12_count 97 = .ok (.ireturn, 1) := by decide +kernel
theorem dX12_count_98 : decode cX12_count 98 = .ok (.aload_n 0, 1) := by decide +kernel
theorem dX12_count_99 : decode cX12_count 99 = .ok (.aload_n 0, 1) := by decide +kernel
theorem dX12_count_100 : decode cX12_count 100 = .ok (.getfield 268, 3) := by decide +kernel
theorem dX12_count_103 : decode cX12_count 103 = .ok (.invokevirtual 247, 3) := by decide +kernel
theorem dX12_count_106 : decode cX12_count 106 = .ok (.ireturn, 1) := by decide +kernel
theorem dX12_count_107 : decode cX12_count 107 = .ok (.aload_n 0, 1) := by decide +kernel
theorem dX12_count_108 : decode cX12_count 108 = .ok (.iconst 3, 1) := by decide +kernel
theorem dX12_count_109 : decode cX12_count 109 = .ok (.invokevirtual 250, 3) := by decide +kernel
theorem dX12_count_112 : decode cX12_count 112 = .ok (.ireturn, 1) := by decide +kernel
set_option maxRecDepth 20000 in
theorem ggX12_value_X12_isThing : GoodIn wsX12_value wsX12_isThing := goodIn_r _ [5, 6, 7, 8, 4, 9, 31, 32, 33, 34, 35, 36, 37, 38, 39, 40, 41, 42, 43, 44, 45, 46, 47, 48, 49, 50, 51, 52, 53, 54, 55, 56, 57, 58, 59, 60, 61, 62, 63, 64, 65, 66, 67, 68, 69, 70, 71, 72, 73, 74, 75, 76, 77, 78, 79, 80, 81] (by decide +kernel) (by decide +kernel)
set_option maxRecDepth 20000 in
theorem gX12_value_X12_isThing : GoodIn wsX12_value (wsV RX12 337 RX12 yX12_isThing wsX12_isThing) := goodIn_app (goodIn_of _ (by decide +kernel)) ggX12_value_X12_isThing
set_option maxRecDepth 20000 in
theorem ggX12_value_X12_no : GoodIn wsX12_value wsX12_no := goodIn_r _ [13, 14, 31, 32, 33, 34, 35, 36, 37, 38, 39, 40, 41, 42, 43, 44, 45, 46, 47, 48, 49, 50, 51, 52, 53, 54, 55, 56, 57, 58, 59, 60, 61, 62, 63, 64, 65, 66, 67, 68, 69, 70, 71, 72, 73, 74, 75, 76, 77, 78, 79, 80, 81] (by decide +kernel) (by decide +kernel)
set_option maxRecDepth 20000 in
theorem gX12_value_X12_no : GoodIn wsX12_value (wsV RX12 250 RX12 yX12_no wsX12_no) := goodIn_app (goodIn_of _ (by decide +kernel)) ggX12_value_X12_no
set_option maxRecDepth 20000 in
theorem ggX12_value_X12_isDay : GoodIn wsX12_value wsX12_isDay := goodIn_r _ [17, 7, 8, 4, 9] (by decide +kernel) (by decide +kernel)
set_option maxRecDepth 20000 in
theorem gX12_value_X12_isDay : GoodIn wsX12_value (va_wsS RX12 354 yX12_isDay wsX12_isDay) := goodIn_app (goodIn_of _ (by decide +kernel)) ggX12_value_X12_isDay
set_option maxRecDepth 20000 in
theorem ggX12_value_X12_valueOn : GoodIn wsX12_value wsX12_valueOn := goodIn_r _ [21, 22, 23, 24, 25, 26, 31, 32, 33, 34, 35, 36, 37, 38, 39, 40, 41, 42, 43, 44, 45, 46, 47, 48, 49, 50, 51, 52, 53, 54, 55, 56, 57, 58, 59, 60, 61, 62, 63, 64, 65, 66, 67, 68, 69, 70, 71, 72, 73, 74, 75, 76, 77, 78, 79, 80, 81] (by decide +kernel) (by decide +kernel)
set_option maxRecDepth 20000 in
theorem gX12_value_X12_valueOn : GoodIn wsX12_value (wsV RX12 122 RX12 yX12_valueOn wsX12_valueOn) := goodIn_app (goodIn_of _ (by decide +kernel)) ggX12_value_X12_valueOn
set_option maxRecDepth 20000 in
theorem ggX12_value_X12_fine : GoodIn wsX12_value wsX12_fine := goodIn_r _ [30, 14, 31, 32, 33, 34, 35, 36, 37, 38, 39, 40, 41, 42, 43, 44, 45, 46, 47, 48, 49, 50, 51, 52, 53, 54, 55, 56, 57, 58, 59, 60, 61, 62, 63, 64, 65, 66, 67, 68, 69, 70, 71, 72, 73, 74, 75, 76, 77, 78, 79, 80, 81] (by decide +kernel) (by decide +kernel)
set_option maxRecDepth 20000 in
theorem gX12_value_X12_fine : GoodIn wsX12_value (wsV RX12 247 RX12 yX12_fine wsX12_fine) := goodIn_app (goodIn_of _ (by decide +kernel)) ggX12_value_X12_fine
theorem dX12_value_0 : decode cX12_value 0 = .ok (.aload_n 0, 1) := by decide +kernel
theorem dX12_value_1 : decode cX12_value 1 = .ok (.iload_n 1, 1) := by decide +kernel
theorem dX12_value_2 : decode cX12_value 2 = .ok (.invokevirtual 337, 3) := by decide +kernel
theorem dX12_value_5 : decode cX12_value 5 = .ok (.ifCond .ne 11, 3) := by decide +kernel
theorem dX12_value_8 : decode cX12_value 8 = .ok (.aload_n 0, 1) := by decide +kernel
theorem dX12_value_9 : decode cX12_value 9 = .ok (.iconst 1, 1) := by decide +kernel
theorem dX12_value_10 : decode cX12_value 10 = .ok (.invokevirtual 250, 3) := by decide +kernel
theorem dX12_value_13 : decode cX12_value 13 = .ok (.goto 28, 3) := by decide +kernel
theorem dX12_value_16 : decode cX12_value 16 = .ok (.iload_n 2, 1) := by decide +kernel
theorem dX12_value_17 : decode cX12_value 17 = .ok (.invokestatic 354, 3) := by decide +kernel
theorem dX12_value_20 : decode cX12_value 20 = .ok (.ifCond .ne 11, 3) := by decide +kernel
theorem dX12_value_23 : decode cX12_value 23 = .ok (.aload_n 0, 1) := by decide +kernel
theorem dX12_value_24 : decode cX12_value 24 = .ok (.iconst 3, 1) := by decide +kernel
theorem dX12_value_25 : decode cX12_value 25 = .ok (.invokevirtual 250, 3) := by decide +kernel
theorem dX12_value_28 : decode cX12_value 28 = .ok (.goto 13, 3) := by decide +kernel
theorem dX12_value_31 : decode cX12_value 31 = .ok (.aload_n 0, 1) := by decide +kernel
theorem dX12_value_32 : decode cX12_value 32 = .ok (.aload_n 0, 1) := by decide +kernel
theorem dX12_value_33 : decode cX12_value 33 = .ok (.iload_n 1, 1) := by decide +kernel
theorem dX12_value_34 : decode cX12_value 34 = .ok (.iload_n 2, 1) := by decide +kernel
theorem dX12_value_35 : decode cX12_value 35 = .ok (.invokevirtual 122, 3) := by decide +kernel
theorem dX12_value_38 : decode cX12_value 38 = .ok (.invokevirtual 247, 3) := by decide +kernel
theorem dX12_value_41 : decode cX12_value 41 = .ok (.ireturn, 1) := by decide +kernel
set_option maxRecDepth 20000 in
theorem ggX12_together_X12_isThing : GoodIn wsX12_together wsX12_isThing := goodIn_r _ [5, 6, 7, 8, 4, 9, 25, 26, 27, 28, 29, 30, 31, 32, 33, 34, 35, 36, 37, 38, 39, 40, 41, 42, 43, 44, 45, 46, 47, 48, 49, 50, 51, 52, 53, 54, 55, 56, 57, 58, 59, 60, 61, 62, 63, 64, 65, 66, 67, 68, 69, 70, 71, 72, 73, 74, 75] (by decide +kernel) (by decide +kernel)
set_option maxRecDepth 20000 in
theorem gX12_together_X12_isThing : GoodIn wsX12_together (wsV RX12 337 RX12 yX12_isThing wsX12_isThing) := goodIn_app (goodIn_of _ (by decide +kernel)) ggX12_together_X12_isThing
set_option maxRecDepth 20000 in
theorem ggX12_together_X12_areTogether : GoodIn wsX12_together wsX12_areTogether := goodIn_r _ [13, 14, 15, 25, 26, 27, 28, 29, 30, 31, 32, 33, 34, 35, 36, 37, 38, 39, 40, 41, 42, 43, 44, 45, 46, 47, 48, 49, 50, 51, 52, 53, 54, 55, 56, 57, 58, 59, 60, 61, 62, 63, 64, 65, 66, 67, 68, 69, 70, 71, 72, 73, 74, 75] (by decide +kernel) (by decide +kernel)
set_option maxRecDepth 20000 in
theorem gX12_together_X12_areTogether : GoodIn wsX12_together (wsV RX12 116 RX12 yX12_areTogether wsX12_areTogether) := goodIn_app (goodIn_of _ (by decide +kernel)) ggX12_together_X12_areTogether
set_option maxRecDepth 20000 in
theorem ggX12_together_X12_fine : GoodIn wsX12_together wsX12_fine := goodIn_r _ [19, 20, 25, 26, 27, 28, 29, 30, 31, 32, 33, 34, 35, 36, 37, 38, 39, 40, 41, 42, 43, 44, 45, 46, 47, 48, 49, 50, 51, 52, 53, 54, 55, 56, 57, 58, 59, 60, 61, 62, 63, 64, 65, 66, 67, 68, 69, 70, 71, 72, 73, 74, 75] (by decide +kernel) (by decide +kernel)
set_option maxRecDepth 20000 in
theorem gX12_together_X12_fine : GoodIn wsX12_together (wsV RX12 247 RX12 yX12_fine wsX12_fine) := goodIn_app (goodIn_of _ (by decide +kernel)) ggX12_together_X12_fine
set_option maxRecDepth 20000 in
theorem ggX12_together_X12_no : GoodIn wsX12_together wsX12_no := goodIn_r _ [24, 20, 25, 26, 27, 28, 29, 30, 31, 32, 33, 34, 35, 36, 37, 38, 39, 40, 41, 42, 43, 44, 45, 46, 47, 48, 49, 50, 51, 52, 53, 54, 55, 56, 57, 58, 59, 60, 61, 62, 63, 64, 65, 66, 67, 68, 69, 70, 71, 72, 73, 74, 75] (by decide +kernel) (by decide +kernel)
set_option maxRecDepth 20000 in
theorem gX12_together_X12_no : GoodIn wsX12_together (wsV RX12 250 RX12 yX12_no wsX12_no) := goodIn_app (goodIn_of _ (by decide +kernel)) ggX12_together_X12_no
theorem dX12_together_0 : decode cX12_together 0 = .ok (.aload_n 0, 1) := by decide +kernel
theorem dX12_together_1 : decode cX12_together 1 = .ok (.iload_n 1, 1) := by decide +kernel
theorem dX12_together_2 : decode cX12_together 2 = .ok (.invokevirtual 337, 3) := by decide +kernel
theorem dX12_together_5 : decode cX12_together 5 = .ok (.ifCond .eq 32, 3) := by decide +kernel
theorem dX12_together_8 : decode cX12_together 8 = .ok (.aload_n 0, 1) := by decide +kernel
theorem dX12_together_9 : decode cX12_together 9 = .ok (.iload_n 2, 1) := by decide +kernel
theorem dX12_together_10 : decode cX12_together 10 = .ok (.invokevirtual 337, 3) := by decide +kernel
theorem dX12_together_13 : decode cX12_together 13 = .ok (.ifCond .eq 24, 3) := by decide +kernel
theorem dX12_together_16 : decode cX12_together 16 = .ok (.aload_n 0, 1) := by decide +kernel
theorem dX12_together_17 : decode cX12_together 17 = .ok (.aload_n 0, 1) := by decide +kernel
theorem dX12_together_18 : decode cX12_together 18 = .ok (.iload_n 1, 1) := by decide +kernel
theorem dX12_together_19 : decode cX12_together 19 = .ok (.iload_n 2, 1) := by decide +kernel
theorem dX12_together_20 : decode cX12_together 20 = .ok (.invokevirtual 116, 3) := by decide +kernel
theorem dX12_together_23 : decode cX12_together 23 = .ok (.ifCond .eq 7, 3) := by decide +kernel
theorem dX12_together_26 : decode cX12_together 26 = .ok (.iconst 1, 1) := by decide +kernel
theorem dX12_together_27 : decode cX12_together 27 = .ok (.goto 4, 3) := by decide +kernel
theorem dX12_together_30 : decode cX12_together 30 = .ok (.iconst 0, 1) := by decide +kernel
theorem dX12_together_31 : decode cX12_together 31 = .ok (.invokevirtual 247, 3) := by decide +kernel
theorem dX12_together_34 : decode cX12_together 34 = .ok (.goto 8, 3) := by decide +kernel
theorem dX12_together_37 : decode cX12_together 37 = .ok (.aload_n 0, 1) := by decide +kernel
theorem dX12_together_38 : decode cX12_together 38 = .ok (.iconst 1, 1) := by decide +kernel
theorem dX12_together_39 : decode cX12_together 39 = .ok (.invokevirtual 250, 3) := by decide +kernel
theorem dX12_together_42 : decode cX12_together 42 = .ok (.ireturn, 1) := by decide +kernel
set_option maxRecDepth 20000 in
theorem ggX12_where_X12_isThing : GoodIn wsX12_where wsX12_isThing := goodIn_r _ [5, 6, 7, 8, 4, 9, 45, 46, 47, 48, 49, 50, 51, 52, 53, 54, 55, 56, 57, 58, 59, 60, 61, 62, 63, 64, 65, 66, 67, 68, 69, 70, 71, 72, 73, 74, 75, 76, 77, 78, 79, 80, 81, 82, 83, 84, 85, 86, 87, 88, 89, 90, 91, 92, 93, 94, 95] (by decide +kernel) (by decide +kernel)
set_option maxRecDepth 20000 in
theorem gX12_where_X12_isThing : GoodIn wsX12_where (wsV RX12 337 RX12 yX12_isThing wsX12_isThing) := goodIn_app (goodIn_of _ (by decide +kernel)) ggX12_where_X12_isThing
set_option maxRecDepth 20000 in
theorem ggX12_where_X12_no : GoodIn wsX12_where wsX12_no := goodIn_r _ [13, 14, 45, 46, 47, 48, 49, 50, 51, 52, 53, 54, 55, 56, 57, 58, 59, 60, 61, 62, 63, 64, 65, 66, 67, 68, 69, 70, 71, 72, 73, 74, 75, 76, 77, 78, 79, 80, 81, 82, 83, 84, 85, 86, 87, 88, 89, 90, 91, 92, 93, 94, 95] (by decide +kernel) (by decide +kernel)
set_option maxRecDepth 20000 in
theorem gX12_where_X12_no : GoodIn wsX12_where (wsV RX12 250 RX12 yX12_no wsX12_no) := goodIn_app (goodIn_of _ (by decide +kernel)) ggX12_where_X12_no
set_option maxRecDepth 20000 in
theorem ggX12_where_X12_isDay : GoodIn wsX12_where wsX12_isDay := goodIn_r _ [17, 7, 8, 4, 9] (by decide +kernel) (by decide +kernel)
set_option maxRecDepth 20000 in
theorem gX12_where_X12_isDay : GoodIn wsX12_where (va_wsS RX12 354 yX12_isDay wsX12_isDay) := goodIn_app (goodIn_of _ (by decide +kernel)) ggX12_where_X12_isDay
set_option maxRecDepth 20000 in
theorem ggX12_where_X12_loanOf : GoodIn wsX12_where wsX12_loanOf := goodIn_r _ [21, 22, 23, 24, 25, 26, 4, 27, 28, 29, 30, 31, 32, 33, 34, 35, 36, 37, 38, 39, 40, 7, 8, 9, 45, 46, 47, 48, 49, 50, 51, 52, 53, 54, 55, 56, 57, 58, 59, 60, 61, 62, 63, 64, 65, 66, 67, 68, 69, 70, 71, 72, 73, 74, 75, 76, 77, 78, 79, 80, 81, 82, 83, 84, 85, 86, 87, 88, 89, 90, 91, 92, 93, 94, 95] (by decide +kernel) (by decide +kernel)
set_option maxRecDepth 20000 in
theorem gX12_where_X12_loanOf : GoodIn wsX12_where (wsV RX12 340 RX12 yX12_loanOf wsX12_loanOf) := goodIn_app (goodIn_of _ (by decide +kernel)) ggX12_where_X12_loanOf
set_option maxRecDepth 20000 in
theorem ggX12_where_X12_fine : GoodIn wsX12_where wsX12_fine := goodIn_r _ [44, 14, 45, 46, 47, 48, 49, 50, 51, 52, 53, 54, 55, 56, 57, 58, 59, 60, 61, 62, 63, 64, 65, 66, 67, 68, 69, 70, 71, 72, 73, 74, 75, 76, 77, 78, 79, 80, 81, 82, 83, 84, 85, 86, 87, 88, 89, 90, 91, 92, 93, 94, 95] (by decide +kernel) (by decide +kernel)
set_option maxRecDepth 20000 in
theorem gX12_where_X12_fine : GoodIn wsX12_where (wsV RX12 247 RX12 yX12_fine wsX12_fine) := goodIn_app (goodIn_of _ (by decide +kernel)) ggX12_where_X12_fine
theorem dX12_where_0 : decode cX12_where 0 = .ok (.aload_n 0, 1) := by decide +kernel
theorem dX12_where_1 : decode cX12_where 1 = .ok (.iload_n 1, 1) := by decide +kernel
theorem dX12_where_2 : decode cX12_where 2 = .ok (.invokevirtual 337, 3) := by decide +kernel
theorem dX12_where_5 : decode cX12_where 5 = .ok (.ifCond .ne 11, 3) := by decide +kernel
theorem dX12_where_8 : decode cX12_where 8 = .ok (.aload_n 0, 1) := by decide +kernel
theorem dX12_where_9 : decode cX12_where 9 = .ok (.iconst 1, 1) := by decide +kernel
theorem dX12_where_10 : decode cX12_where 10 = .ok (.invokevirtual 250, 3) := by decide +kernel
theorem dX12_where_13 : decode cX12_where 13 = .ok (.goto 28, 3) := by decide +kernel
theorem dX12_where_16 : decode cX12_where 16 = .ok (.iload_n 2, 1) := by decide +kernel
theorem dX12_where_17 : decode cX12_where 17 = .ok (.invokestatic 354, 3) := by decide +kernel
theorem dX12_where_20 : decode cX12_where 20 = .ok (.ifCond .ne 11, 3) := by decide +kernel
theorem dX12_where_23 : decode cX12_where 23 = .ok (.aload_n 0, 1) := by decide +kernel
theorem dX12_where_24 : decode cX12_where 24 = .ok (.iconst 3, 1) := by decide +kernel
theorem dX12_where_25 : decode cX12_where 25 = .ok (.invokevirtual 250, 3) := by decide +kernel
theorem dX12_where_28 : decode cX12_where 28 = .ok (.goto 13, 3) := by decide +kernel
theorem dX12_where_31 : decode cX12_where 31 = .ok (.aload_n 0, 1) := by decide +kernel
theorem dX12_where_32 : decode cX12_where 32 = .ok (.aload_n 0, 1) := by decide +kernel
theorem dX12_where_33 : decode cX12_where 33 = .ok (.iload_n 1, 1) := by decide +kernel
theorem dX12_where_34 : decode cX12_where 34 = .ok (.iload_n 2, 1) := by decide +kernel
theorem dX12_where_35 : decode cX12_where 35 = .ok (.invokevirtual 340, 3) := by decide +kernel
theorem dX12_where_38 : decode cX12_where 38 = .ok (.invokevirtual 247, 3) := by decide +kernel
theorem dX12_where_41 : decode cX12_where 41 = .ok (.ireturn, 1) := by decide +kernel
set_option maxRecDepth 20000 in
theorem ggX12_free_X12_isThing : GoodIn wsX12_free wsX12_isThing := goodIn_r _ [5, 6, 7, 8, 4, 9, 45, 46, 47, 48, 49, 50, 51, 52, 53, 54, 55, 56, 57, 58, 59, 60, 61, 62, 63, 64, 65, 66, 67, 68, 69, 70, 71, 72, 73, 74, 75, 76, 77, 78, 79, 80, 81, 82, 83, 84, 85, 86, 87, 88, 89, 90, 91, 92, 93, 94, 95] (by decide +kernel) (by decide +kernel)
set_option maxRecDepth 20000 in
theorem gX12_free_X12_isThing : GoodIn wsX12_free (wsV RX12 337 RX12 yX12_isThing wsX12_isThing) := goodIn_app (goodIn_of _ (by decide +kernel)) ggX12_free_X12_isThing
set_option maxRecDepth 20000 in
theorem ggX12_free_X12_no : GoodIn wsX12_free wsX12_no := goodIn_r _ [13, 14, 45, 46, 47, 48, 49, 50, 51, 52, 53, 54, 55, 56, 57, 58, 59, 60, 61, 62, 63, 64, 65, 66, 67, 68, 69, 70, 71, 72, 73, 74, 75, 76, 77, 78, 79, 80, 81, 82, 83, 84, 85, 86, 87, 88, 89, 90, 91, 92, 93, 94, 95] (by decide +kernel) (by decide +kernel)
set_option maxRecDepth 20000 in
theorem gX12_free_X12_no : GoodIn wsX12_free (wsV RX12 250 RX12 yX12_no wsX12_no) := goodIn_app (goodIn_of _ (by decide +kernel)) ggX12_free_X12_no
set_option maxRecDepth 20000 in
theorem ggX12_free_X12_isDay : GoodIn wsX12_free wsX12_isDay := goodIn_r _ [17, 7, 8, 4, 9] (by decide +kernel) (by decide +kernel)
set_option maxRecDepth 20000 in
theorem gX12_free_X12_isDay : GoodIn wsX12_free (va_wsS RX12 354 yX12_isDay wsX12_isDay) := goodIn_app (goodIn_of _ (by decide +kernel)) ggX12_free_X12_isDay
set_option maxRecDepth 20000 in
theorem ggX12_free_X12_isIn : GoodIn wsX12_free wsX12_isIn := goodIn_r _ [9] (by decide +kernel) (by decide +kernel)
set_option maxRecDepth 20000 in
theorem gX12_free_X12_isIn : GoodIn wsX12_free (va_wsS RX12 10 yX12_isIn wsX12_isIn) := goodIn_app (goodIn_of _ (by decide +kernel)) ggX12_free_X12_isIn
set_option maxRecDepth 20000 in
theorem ggX12_free_X12_loanOf : GoodIn wsX12_free wsX12_loanOf := goodIn_r _ [21, 22, 23, 24, 25, 26, 4, 27, 28, 29, 30, 31, 32, 33, 34, 35, 36, 37, 38, 39, 40, 7, 8, 9, 45, 46, 47, 48, 49, 50, 51, 52, 53, 54, 55, 56, 57, 58, 59, 60, 61, 62, 63, 64, 65, 66, 67, 68, 69, 70, 71, 72, 73, 74, 75, 76, 77, 78, 79, 80, 81, 82, 83, 84, 85, 86, 87, 88, 89, 90, 91, 92, 93, 94, 95] (by decide +kernel) (by decide +kernel)
set_option maxRecDepth 20000 in
theorem gX12_free_X12_loanOf : GoodIn wsX12_free (wsV RX12 340 RX12 yX12_loanOf wsX12_loanOf) := goodIn_app (goodIn_of _ (by decide +kernel)) ggX12_free_X12_loanOf
set_option maxRecDepth 20000 in
theorem ggX12_free_X12_fine : GoodIn wsX12_free wsX12_fine := goodIn_r _ [44, 14, 45, 46, 47, 48, 49, 50, 51, 52, 53, 54, 55, 56, 57, 58, 59, 60, 61, 62, 63, 64, 65, 66, 67, 68, 69, 70, 71, 72, 73, 74, 75, 76, 77, 78, 79, 80, 81, 82, 83, 84, 85, 86, 87, 88, 89, 90, 91, 92, 93, 94, 95] (by decide +kernel) (by decide +kernel)
set_option maxRecDepth 20000 in
theorem gX12_free_X12_fine : GoodIn wsX12_free (wsV RX12 247 RX12 yX12_fine wsX12_fine) := goodIn_app (goodIn_of _ (by decide +kernel)) ggX12_free_X12_fine
theorem dX12_free_0 : decode cX12_free 0 = .ok (.aload_n 0, 1) := by decide +kernel
theorem dX12_free_1 : decode cX12_free 1 = .ok (.iload_n 1, 1) := by decide +kernel
theorem dX12_free_2 : decode cX12_free 2 = .ok (.invokevirtual 337, 3) := by decide +kernel
theorem dX12_free_5 : decode cX12_free 5 = .ok (.ifCond .ne 9, 3) := by decide +kernel
theorem dX12_free_8 : decode cX12_free 8 = .ok (.aload_n 0, 1) := by decide +kernel
theorem dX12_free_9 : decode cX12_free 9 = .ok (.iconst 1, 1) := by decide +kernel
theorem dX12_free_10 : decode cX12_free 10 = .ok (.invokevirtual 250, 3) := by decide +kernel
theorem dX12_free_13 : decode cX12_free 13 = .ok (.ireturn, 1) := by decide +kernel
theorem dX12_free_14 : decode cX12_free 14 = .ok (.iload_n 2, 1) := by decide +kernel
theorem dX12_free_15 : decode cX12_free 15 = .ok (.invokestatic 354, 3) := by decide +kernel
theorem dX12_free_18 : decode cX12_free 18 = .ok (.ifCond .eq 14, 3) := by decide +kernel
theorem dX12_free_21 : decode cX12_free 21 = .ok (.iload_n 3, 1) := by decide +kernel
theorem dX12_free_22 : decode cX12_free 22 = .ok (.iconst 1, 1) := by decide +kernel
theorem dX12_free_23 : decode cX12_free 23 = .ok (.sipush 1000, 3) := by decide +kernel
theorem dX12_free_26 : decode cX12_free 26 = .ok (.invokestatic 10, 3) := by decide +kernel
theorem dX12_free_29 : decode cX12_free 29 = .ok (.ifCond .ne 9, 3) := by decide +kernel
theorem dX12_free_32 : decode cX12_free 32 = .ok (.aload_n 0, 1) := by decide +kernel
theorem dX12_free_33 : decode cX12_free 33 = .ok (.iconst 3, 1) := by decide +kernel
theorem dX12_free_34 : decode cX12_free 34 = .ok (.invokevirtual 250, 3) := by decide +kernel
theorem dX12_free_37 : decode cX12_free 37 = .ok (.ireturn, 1) := by decide +kernel
theorem dX12_free_38 : decode cX12_free 38 = .ok (.iconst 0, 1) := by decide +kernel
theorem dX12_free_39 : decode cX12_free 39 = .ok (.istore 4, 2) := by decide +kernel
theorem dX12_free_41 : decode cX12_free 41 = .ok (.iload_n 2, 1) := by decide +kernel
theorem dX12_free_42 : decode cX12_free 42 = .ok (.istore 5, 2) := by decide +kernel
theorem dX12_free_44 : decode cX12_free 44 = .ok (.iload 5, 2) := by decide +kernel
theorem dX12_free_46 : decode cX12_free 46 = .ok (.sipush 1000, 3) := by decide +kernel
theorem dX12_free_49 : decode cX12_free 49 = .ok (.if_icmp .ge 46, 3) := by decide +kernel
theorem dX12_free_52 : decode cX12_free 52 = .ok (.aload_n 0, 1) := by decide +kernel
theorem dX12_free_53 : decode cX12_free 53 = .ok (.iload_n 1, 1) := by decide +kernel
theorem dX12_free_54 : decode cX12_free 54 = .ok (.iload 5, 2) := by decide +kernel
theorem dX12_free_56 : decode cX12_free 56 = .ok (.invokevirtual 340, 3) := by decide +kernel
theorem dX12_free_59 : decode cX12_free 59 = .ok (.ifCond .ge 10, 3) := by decide +kernel
theorem dX12_free_62 : decode cX12_free 62 = .ok (.iload 4, 2) := by decide +kernel
theorem dX12_free_64 : decode cX12_free 64 = .ok (.iconst 1, 1) := by decide +kernel
theorem dX12_free_65 : decode cX12_free 65 = .ok (.iadd, 1) := by decide +kernel
theorem dX12_free_66 : decode cX12_free 66 = .ok (.goto 4, 3) := by decide +kernel
theorem dX12_free_69 : decode cX12_free 69 = .ok (.iconst 0, 1) := by decide +kernel
theorem dX12_free_70 : decode cX12_free 70 = .ok (.istore 4, 2) := by decide +kernel
theorem dX12_free_72 : decode cX12_free 72 = .ok (.iload 4, 2) := by decide +kernel
theorem dX12_free_74 : decode cX12_free 74 = .ok (.iload_n 3, 1) := by decide +kernel
theorem dX12_free_75 : decode cX12_free 75 = .ok (.if_icmp .ne 14, 3) := by decide +kernel
theorem dX12_free_78 : decode cX12_free 78 = .ok (.aload_n 0, 1) := by decide +kernel
theorem dX12_free_79 : decode cX12_free 79 = .ok (.iload 5, 2) := by decide +kernel
theorem dX12_free_81 : decode cX12_free 81 = .ok (.iload_n 3, 1) := by decide +kernel
theorem dX12_free_82 : decode cX12_free 82 = .ok (.isub, 1) := by decide +kernel
theorem dX12_free_83 : decode cX12_free 83 = .ok (.iconst 1, 1) := by decide +kernel
theorem dX12_free_84 : decode cX12_free 84 = .ok (.iadd, 1) := by decide +kernel
theorem dX12_free_85 : decode cX12_free 85 = .ok (.invokevirtual 247, 3) := by decide +kernel
theorem dX12_free_88 : decode cX12_free 88 = .ok (.ireturn, 1) := by decide +kernel
theorem dX12_free_89 : decode cX12_free 89 = .ok (.iinc 5 1, 3) := by decide +kernel
theorem dX12_free_92 : decode cX12_free 92 = .ok (.goto (-48), 3) := by decide +kernel
theorem dX12_free_95 : decode cX12_free 95 = .ok (.aload_n 0, 1) := by decide +kernel
theorem dX12_free_96 : decode cX12_free 96 = .ok (.iconst (-1), 1) := by decide +kernel
theorem dX12_free_97 : decode cX12_free 97 = .ok (.invokevirtual 247, 3) := by decide +kernel
theorem dX12_free_100 : decode cX12_free 100 = .ok (.ireturn, 1) := by decide +kernel
set_option maxRecDepth 20000 in
theorem ggX12_stage_X12_isLoan : GoodIn wsX12_stage wsX12_isLoan := goodIn_r _ [5, 6, 7, 8, 9, 4, 10, 31, 32, 33, 34, 35, 36, 37, 38, 39, 40, 41, 42, 43, 44, 45, 46, 47, 48, 49, 50, 51, 52, 53, 54, 55, 56, 57, 58, 59, 60, 61, 62, 63, 64, 65, 66, 67, 68, 69, 70, 71, 72, 73, 74, 75, 76, 77, 78, 79, 80, 81] (by decide +kernel) (by decide +kernel)
set_option maxRecDepth 20000 in
theorem gX12_stage_X12_isLoan : GoodIn wsX12_stage (wsV RX12 360 RX12 yX12_isLoan wsX12_isLoan) := goodIn_app (goodIn_of _ (by decide +kernel)) ggX12_stage_X12_isLoan
set_option maxRecDepth 20000 in
theorem ggX12_stage_X12_no : GoodIn wsX12_stage wsX12_no := goodIn_r _ [14, 15, 31, 32, 33, 34, 35, 36, 37, 38, 39, 40, 41, 42, 43, 44, 45, 46, 47, 48, 49, 50, 51, 52, 53, 54, 55, 56, 57, 58, 59, 60, 61, 62, 63, 64, 65, 66, 67, 68, 69, 70, 71, 72, 73, 74, 75, 76, 77, 78, 79, 80, 81] (by decide +kernel) (by decide +kernel)
set_option maxRecDepth 20000 in
theorem gX12_stage_X12_no : GoodIn wsX12_stage (wsV RX12 250 RX12 yX12_no wsX12_no) := goodIn_app (goodIn_of _ (by decide +kernel)) ggX12_stage_X12_no
set_option maxRecDepth 20000 in
theorem ggX12_stage_X12_isDay : GoodIn wsX12_stage wsX12_isDay := goodIn_r _ [18, 8, 9, 4, 10] (by decide +kernel) (by decide +kernel)
set_option maxRecDepth 20000 in
theorem gX12_stage_X12_isDay : GoodIn wsX12_stage (va_wsS RX12 354 yX12_isDay wsX12_isDay) := goodIn_app (goodIn_of _ (by decide +kernel)) ggX12_stage_X12_isDay
set_option maxRecDepth 20000 in
theorem ggX12_stage_X12_stageOf : GoodIn wsX12_stage wsX12_stageOf := goodIn_r _ [22, 23, 24, 25, 26, 31, 32, 33, 34, 35, 36, 37, 38, 39, 40, 41, 42, 43, 44, 45, 46, 47, 48, 49, 50, 51, 52, 53, 54, 55, 56, 57, 58, 59, 60, 61, 62, 63, 64, 65, 66, 67, 68, 69, 70, 71, 72, 73, 74, 75, 76, 77, 78, 79, 80, 81] (by decide +kernel) (by decide +kernel)
set_option maxRecDepth 20000 in
theorem gX12_stage_X12_stageOf : GoodIn wsX12_stage (wsV RX12 84 RX12 yX12_stageOf wsX12_stageOf) := goodIn_app (goodIn_of _ (by decide +kernel)) ggX12_stage_X12_stageOf
set_option maxRecDepth 20000 in
theorem ggX12_stage_X12_fine : GoodIn wsX12_stage wsX12_fine := goodIn_r _ [30, 15, 31, 32, 33, 34, 35, 36, 37, 38, 39, 40, 41, 42, 43, 44, 45, 46, 47, 48, 49, 50, 51, 52, 53, 54, 55, 56, 57, 58, 59, 60, 61, 62, 63, 64, 65, 66, 67, 68, 69, 70, 71, 72, 73, 74, 75, 76, 77, 78, 79, 80, 81] (by decide +kernel) (by decide +kernel)
set_option maxRecDepth 20000 in
theorem gX12_stage_X12_fine : GoodIn wsX12_stage (wsV RX12 247 RX12 yX12_fine wsX12_fine) := goodIn_app (goodIn_of _ (by decide +kernel)) ggX12_stage_X12_fine
theorem dX12_stage_0 : decode cX12_stage 0 = .ok (.aload_n 0, 1) := by decide +kernel
theorem dX12_stage_1 : decode cX12_stage 1 = .ok (.iload_n 1, 1) := by decide +kernel
theorem dX12_stage_2 : decode cX12_stage 2 = .ok (.invokevirtual 360, 3) := by decide +kernel
theorem dX12_stage_5 : decode cX12_stage 5 = .ok (.ifCond .ne 11, 3) := by decide +kernel
theorem dX12_stage_8 : decode cX12_stage 8 = .ok (.aload_n 0, 1) := by decide +kernel
theorem dX12_stage_9 : decode cX12_stage 9 = .ok (.iconst 1, 1) := by decide +kernel
theorem dX12_stage_10 : decode cX12_stage 10 = .ok (.invokevirtual 250, 3) := by decide +kernel
theorem dX12_stage_13 : decode cX12_stage 13 = .ok (.goto 28, 3) := by decide +kernel
theorem dX12_stage_16 : decode cX12_stage 16 = .ok (.iload_n 2, 1) := by decide +kernel
theorem dX12_stage_17 : decode cX12_stage 17 = .ok (.invokestatic 354, 3) := by decide +kernel
theorem dX12_stage_20 : decode cX12_stage 20 = .ok (.ifCond .ne 11, 3) := by decide +kernel
theorem dX12_stage_23 : decode cX12_stage 23 = .ok (.aload_n 0, 1) := by decide +kernel
theorem dX12_stage_24 : decode cX12_stage 24 = .ok (.iconst 3, 1) := by decide +kernel
theorem dX12_stage_25 : decode cX12_stage 25 = .ok (.invokevirtual 250, 3) := by decide +kernel
theorem dX12_stage_28 : decode cX12_stage 28 = .ok (.goto 13, 3) := by decide +kernel
theorem dX12_stage_31 : decode cX12_stage 31 = .ok (.aload_n 0, 1) := by decide +kernel
theorem dX12_stage_32 : decode cX12_stage 32 = .ok (.aload_n 0, 1) := by decide +kernel
theorem dX12_stage_33 : decode cX12_stage 33 = .ok (.iload_n 1, 1) := by decide +kernel
theorem dX12_stage_34 : decode cX12_stage 34 = .ok (.iload_n 2, 1) := by decide +kernel
theorem dX12_stage_35 : decode cX12_stage 35 = .ok (.invokevirtual 84, 3) := by decide +kernel
theorem dX12_stage_38 : decode cX12_stage 38 = .ok (.invokevirtual 247, 3) := by decide +kernel
theorem dX12_stage_41 : decode cX12_stage 41 = .ok (.ireturn, 1) := by decide +kernel
set_option maxRecDepth 20000 in
theorem ggX12_parcels_X12_isLoan : GoodIn wsX12_parcels wsX12_isLoan := goodIn_r _ [6, 7, 8, 9, 10, 5, 11, 21, 22, 23, 24, 25, 26, 27, 28, 29, 30, 31, 32, 33, 34, 35, 36, 37, 38, 39, 40, 41, 42, 43, 44, 45, 46, 47, 48, 49, 50, 51, 52, 53, 54, 55, 56, 57, 58, 59, 60, 61, 62, 63, 64, 65, 66, 67, 68, 69, 70, 71] (by decide +kernel) (by decide +kernel)
set_option maxRecDepth 20000 in
theorem gX12_parcels_X12_isLoan : GoodIn wsX12_parcels (wsV RX12 360 RX12 yX12_isLoan wsX12_isLoan) := goodIn_app (goodIn_of _ (by decide +kernel)) ggX12_parcels_X12_isLoan
set_option maxRecDepth 20000 in
theorem ggX12_parcels_X12_fine : GoodIn wsX12_parcels wsX12_fine := goodIn_r _ [15, 16, 21, 22, 23, 24, 25, 26, 27, 28, 29, 30, 31, 32, 33, 34, 35, 36, 37, 38, 39, 40, 41, 42, 43, 44, 45, 46, 47, 48, 49, 50, 51, 52, 53, 54, 55, 56, 57, 58, 59, 60, 61, 62, 63, 64, 65, 66, 67, 68, 69, 70, 71] (by decide +kernel) (by decide +kernel)
set_option maxRecDepth 20000 in
theorem gX12_parcels_X12_fine : GoodIn wsX12_parcels (wsV RX12 247 RX12 yX12_fine wsX12_fine) := goodIn_app (goodIn_of _ (by decide +kernel)) ggX12_parcels_X12_fine
set_option maxRecDepth 20000 in
theorem ggX12_parcels_X12_no : GoodIn wsX12_parcels wsX12_no := goodIn_r _ [20, 16, 21, 22, 23, 24, 25, 26, 27, 28, 29, 30, 31, 32, 33, 34, 35, 36, 37, 38, 39, 40, 41, 42, 43, 44, 45, 46, 47, 48, 49, 50, 51, 52, 53, 54, 55, 56, 57, 58, 59, 60, 61, 62, 63, 64, 65, 66, 67, 68, 69, 70, 71] (by decide +kernel) (by decide +kernel)
set_option maxRecDepth 20000 in
theorem gX12_parcels_X12_no : GoodIn wsX12_parcels (wsV RX12 250 RX12 yX12_no wsX12_no) := goodIn_app (goodIn_of _ (by decide +kernel)) ggX12_parcels_X12_no
theorem dX12_parcels_0 : decode cX12_parcels 0 = .ok (.aload_n 0, 1) := by decide +kernel
theorem dX12_parcels_1 : decode cX12_parcels 1 = .ok (.iload_n 1, 1) := by decide +kernel
theorem dX12_parcels_2 : decode cX12_parcels 2 = .ok (.invokevirtual 360, 3) := by decide +kernel
theorem dX12_parcels_5 : decode cX12_parcels 5 = .ok (.ifCond .eq 16, 3) := by decide +kernel
theorem dX12_parcels_8 : decode cX12_parcels 8 = .ok (.aload_n 0, 1) := by decide +kernel
theorem dX12_parcels_9 : decode cX12_parcels 9 = .ok (.aload_n 0, 1) := by decide +kernel
theorem dX12_parcels_10 : decode cX12_parcels 10 = .ok (.getfield 88, 3) := by decide +kernel
theorem dX12_parcels_13 : decode cX12_parcels 13 = .ok (.iload_n 1, 1) := by decide +kernel
theorem dX12_parcels_14 : decode cX12_parcels 14 = .ok (.iaload, 1) := by decide +kernel
theorem dX12_parcels_15 : decode cX12_parcels 15 = .ok (.invokevirtual 247, 3) := by decide +kernel
theorem dX12_parcels_18 : decode cX12_parcels 18 = .ok (.goto 8, 3) := by decide +kernel
theorem dX12_parcels_21 : decode cX12_parcels 21 = .ok (.aload_n 0, 1) := by decide +kernel
theorem dX12_parcels_22 : decode cX12_parcels 22 = .ok (.iconst 1, 1) := by decide +kernel
theorem dX12_parcels_23 : decode cX12_parcels 23 = .ok (.invokevirtual 250, 3) := by decide +kernel
theorem dX12_parcels_26 : decode cX12_parcels 26 = .ok (.ireturn, 1) := by decide +kernel
set_option maxRecDepth 20000 in
theorem ggX12_parcel_X12_isLoan : GoodIn wsX12_parcel wsX12_isLoan := goodIn_r _ [6, 7, 8, 9, 10, 5, 11, 31, 32, 33, 34, 35, 36, 37, 38, 39, 40, 41, 42, 43, 44, 45, 46, 47, 48, 49, 50, 51, 52, 53, 54, 55, 56, 57, 58, 59, 60, 61, 62, 63, 64, 65, 66, 67, 68, 69, 70, 71, 72, 73, 74, 75, 76, 77, 78, 79, 80, 81] (by decide +kernel) (by decide +kernel)
set_option maxRecDepth 20000 in
theorem gX12_parcel_X12_isLoan : GoodIn wsX12_parcel (wsV RX12 360 RX12 yX12_isLoan wsX12_isLoan) := goodIn_app (goodIn_of _ (by decide +kernel)) ggX12_parcel_X12_isLoan
set_option maxRecDepth 20000 in
theorem ggX12_parcel_X12_isThing : GoodIn wsX12_parcel wsX12_isThing := goodIn_r _ [15, 16, 9, 10, 5, 11, 31, 32, 33, 34, 35, 36, 37, 38, 39, 40, 41, 42, 43, 44, 45, 46, 47, 48, 49, 50, 51, 52, 53, 54, 55, 56, 57, 58, 59, 60, 61, 62, 63, 64, 65, 66, 67, 68, 69, 70, 71, 72, 73, 74, 75, 76, 77, 78, 79, 80, 81] (by decide +kernel) (by decide +kernel)
set_option maxRecDepth 20000 in
theorem gX12_parcel_X12_isThing : GoodIn wsX12_parcel (wsV RX12 337 RX12 yX12_isThing wsX12_isThing) := goodIn_app (goodIn_of _ (by decide +kernel)) ggX12_parcel_X12_isThing
set_option maxRecDepth 20000 in
theorem ggX12_parcel_X12_isHad : GoodIn wsX12_parcel wsX12_isHad := goodIn_r _ [20, 21, 31, 32, 33, 34, 35, 36, 37, 38, 39, 40, 41, 42, 43, 44, 45, 46, 47, 48, 49, 50, 51, 52, 53, 54, 55, 56, 57, 58, 59, 60, 61, 62, 63, 64, 65, 66, 67, 68, 69, 70, 71, 72, 73, 74, 75, 76, 77, 78, 79, 80, 81] (by decide +kernel) (by decide +kernel)
set_option maxRecDepth 20000 in
theorem gX12_parcel_X12_isHad : GoodIn wsX12_parcel (wsV RX12 68 RX12 yX12_isHad wsX12_isHad) := goodIn_app (goodIn_of _ (by decide +kernel)) ggX12_parcel_X12_isHad
set_option maxRecDepth 20000 in
theorem ggX12_parcel_X12_fine : GoodIn wsX12_parcel wsX12_fine := goodIn_r _ [25, 26, 31, 32, 33, 34, 35, 36, 37, 38, 39, 40, 41, 42, 43, 44, 45, 46, 47, 48, 49, 50, 51, 52, 53, 54, 55, 56, 57, 58, 59, 60, 61, 62, 63, 64, 65, 66, 67, 68, 69, 70, 71, 72, 73, 74, 75, 76, 77, 78, 79, 80, 81] (by decide +kernel) (by decide +kernel)
set_option maxRecDepth 20000 in
theorem gX12_parcel_X12_fine : GoodIn wsX12_parcel (wsV RX12 247 RX12 yX12_fine wsX12_fine) := goodIn_app (goodIn_of _ (by decide +kernel)) ggX12_parcel_X12_fine
set_option maxRecDepth 20000 in
theorem ggX12_parcel_X12_no : GoodIn wsX12_parcel wsX12_no := goodIn_r _ [30, 26, 31, 32, 33, 34, 35, 36, 37, 38, 39, 40, 41, 42, 43, 44, 45, 46, 47, 48, 49, 50, 51, 52, 53, 54, 55, 56, 57, 58, 59, 60, 61, 62, 63, 64, 65, 66, 67, 68, 69, 70, 71, 72, 73, 74, 75, 76, 77, 78, 79, 80, 81] (by decide +kernel) (by decide +kernel)
set_option maxRecDepth 20000 in
theorem gX12_parcel_X12_no : GoodIn wsX12_parcel (wsV RX12 250 RX12 yX12_no wsX12_no) := goodIn_app (goodIn_of _ (by decide +kernel)) ggX12_parcel_X12_no
theorem dX12_parcel_0 : decode cX12_parcel 0 = .ok (.aload_n 0, 1) := by decide +kernel
theorem dX12_parcel_1 : decode cX12_parcel 1 = .ok (.iload_n 1, 1) := by decide +kernel
theorem dX12_parcel_2 : decode cX12_parcel 2 = .ok (.invokevirtual 360, 3) := by decide +kernel
theorem dX12_parcel_5 : decode cX12_parcel 5 = .ok (.ifCond .eq 38, 3) := by decide +kernel
theorem dX12_parcel_8 : decode cX12_parcel 8 = .ok (.aload_n 0, 1) := by decide +kernel
theorem dX12_parcel_9 : decode cX12_parcel 9 = .ok (.iload_n 2, 1) := by decide +kernel
theorem dX12_parcel_10 : decode cX12_parcel 10 = .ok (.invokevirtual 337, 3) := by decide +kernel
theorem dX12_parcel_13 : decode cX12_parcel 13 = .ok (.ifCond .eq 30, 3) := by decide +kernel
theorem dX12_parcel_16 : decode cX12_parcel 16 = .ok (.aload_n 0, 1) := by decide +kernel
theorem dX12_parcel_17 : decode cX12_parcel 17 = .ok (.iload_n 1, 1) := by decide +kernel
theorem dX12_parcel_18 : decode cX12_parcel 18 = .ok (.iload_n 2, 1) := by decide +kernel
theorem dX12_parcel_19 : decode cX12_parcel 19 = .ok (.invokevirtual 68, 3) := by decide +kernel
theorem dX12_parcel_22 : decode cX12_parcel 22 = .ok (.ifCond .eq 21, 3) := by decide +kernel
theorem dX12_parcel_25 : decode cX12_parcel 25 = .ok (.aload_n 0, 1) := by decide +kernel
theorem dX12_parcel_26 : decode cX12_parcel 26 = .ok (.aload_n 0, 1) := by decide +kernel
theorem dX12_parcel_27 : decode cX12_parcel 27 = .ok (.getfield 104, 3) := by decide +kernel
theorem dX12_parcel_30 : decode cX12_parcel 30 = .ok (.iload_n 1, 1) := by decide +kernel
theorem dX12_parcel_31 : decode cX12_parcel 31 = .ok (.bipush 16, 2) := by decide +kernel
theorem dX12_parcel_33 : decode cX12_parcel 33 = .ok (.imul, 1) := by decide +kernel
theorem dX12_parcel_34 : decode cX12_parcel 34 = .ok (.iload_n 2, 1) := by decide +kernel
theorem dX12_parcel_35 : decode cX12_parcel 35 = .ok (.iadd, 1) := by decide +kernel
theorem dX12_parcel_36 : decode cX12_parcel 36 = .ok (.iaload, 1) := by decide +kernel
theorem dX12_parcel_37 : decode cX12_parcel 37 = .ok (.invokevirtual 247, 3) := by decide +kernel
theorem dX12_parcel_40 : decode cX12_parcel 40 = .ok (.goto 8, 3) := by decide +kernel
theorem dX12_parcel_43 : decode cX12_parcel 43 = .ok (.aload_n 0, 1) := by decide +kernel
theorem dX12_parcel_44 : decode cX12_parcel 44 = .ok (.iconst 1, 1) := by decide +kernel
theorem dX12_parcel_45 : decode cX12_parcel 45 = .ok (.invokevirtual 250, 3) := by decide +kernel
theorem dX12_parcel_48 : decode cX12_parcel 48 = .ok (.ireturn, 1) := by decide +kernel
set_option maxRecDepth 20000 in
theorem ggX12_isParcel_X12_isLoan : GoodIn wsX12_isParcel wsX12_isLoan := goodIn_r _ [6, 7, 8, 9, 10, 5, 11, 12, 13, 14, 15, 16, 17, 18, 19, 20, 21, 22, 23, 24, 25, 26, 27, 28, 29, 30, 31, 32, 33, 34, 35, 36, 37, 38, 39, 40, 41, 42, 43, 44, 45, 46, 47, 48, 49, 50, 51, 52, 53, 54, 55, 56, 57, 58, 59, 60, 61, 62] (by decide +kernel) (by decide +kernel)
set_option maxRecDepth 20000 in
theorem gX12_isParcel_X12_isLoan : GoodIn wsX12_isParcel (wsV RX12 360 RX12 yX12_isLoan wsX12_isLoan) := goodIn_app (goodIn_of _ (by decide +kernel)) ggX12_isParcel_X12_isLoan
set_option maxRecDepth 20000 in
theorem ggX12_isParcel_X12_isIn : GoodIn wsX12_isParcel wsX12_isIn := goodIn_r _ [11] (by decide +kernel) (by decide +kernel)
set_option maxRecDepth 20000 in
theorem gX12_isParcel_X12_isIn : GoodIn wsX12_isParcel (va_wsS RX12 10 yX12_isIn wsX12_isIn) := goodIn_app (goodIn_of _ (by decide +kernel)) ggX12_isParcel_X12_isIn
theorem dX12_isParcel_0 : decode cX12_isParcel 0 = .ok (.aload_n 0, 1) := by decide +kernel
theorem dX12_isParcel_1 : decode cX12_isParcel 1 = .ok (.iload_n 1, 1) := by decide +kernel
theorem dX12_isParcel_2 : decode cX12_isParcel 2 = .ok (.invokevirtual 360, 3) := by decide +kernel
theorem dX12_isParcel_5 : decode cX12_isParcel 5 = .ok (.ifCond .eq 23, 3) := by decide +kernel
theorem dX12_isParcel_8 : decode cX12_isParcel 8 = .ok (.iload_n 2, 1) := by decide +kernel
theorem dX12_isParcel_9 : decode cX12_isParcel 9 = .ok (.iconst 0, 1) := by decide +kernel
theorem dX12_isParcel_10 : decode cX12_isParcel 10 = .ok (.aload_n 0, 1) := by decide +kernel
theorem dX12_isParcel_11 : decode cX12_isParcel 11 = .ok (.getfield 88, 3) := by decide +kernel
theorem dX12_isParcel_14 : decode cX12_isParcel 14 = .ok (.iload_n 1, 1) := by decide +kernel
theorem dX12_isParcel_15 : decode cX12_isParcel 15 = .ok (.iaload, 1) := by decide +kernel
theorem dX12_isParcel_16 : decode cX12_isParcel 16 = .ok (.iconst 1, 1) := by decide +kernel
theorem dX12_isParcel_17 : decode cX12_isParcel 17 = .ok (.isub, 1) := by decide +kernel
theorem dX12_isParcel_18 : decode cX12_isParcel 18 = .ok (.invokestatic 10, 3) := by decide +kernel
theorem dX12_isParcel_21 : decode cX12_isParcel 21 = .ok (.ifCond .eq 7, 3) := by decide +kernel
theorem dX12_isParcel_24 : decode cX12_isParcel 24 = .ok (.iconst 1, 1) := by decide +kernel
theorem dX12_isParcel_25 : decode cX12_isParcel 25 = .ok (.goto 4, 3) := by decide +kernel
theorem dX12_isParcel_28 : decode cX12_isParcel 28 = .ok (.iconst 0, 1) := by decide +kernel
theorem dX12_isParcel_29 : decode cX12_isParcel 29 = .ok (.ireturn, 1) := by decide +kernel
set_option maxRecDepth 20000 in
theorem ggX12_weight_X12_isParcel : GoodIn wsX12_weight wsX12_isParcel := goodIn_r _ [5, 6, 7, 8, 9, 4, 10, 11, 12, 13, 14, 15, 37, 38, 39, 40, 41, 42, 43, 44, 45, 46, 47, 48, 49, 50, 51, 52, 53, 54, 55, 56, 57, 58, 59, 60, 61, 62, 63, 64, 65, 66, 67, 68, 69, 70, 71, 72, 73, 74, 75, 76, 77, 78, 79, 80, 81, 82, 83, 84, 85, 86, 87] (by decide +kernel) (by decide +kernel)
set_option maxRecDepth 20000 in
theorem gX12_weight_X12_isParcel : GoodIn wsX12_weight (wsV RX12 366 RX12 yX12_isParcel wsX12_isParcel) := goodIn_app (goodIn_of _ (by decide +kernel)) ggX12_weight_X12_isParcel
set_option maxRecDepth 20000 in
theorem ggX12_weight_X12_weightOf : GoodIn wsX12_weight wsX12_weightOf := goodIn_r _ [19, 20, 21, 22, 23, 24, 25, 4, 26, 27, 37, 38, 39, 40, 41, 42, 43, 44, 45, 46, 47, 48, 49, 50, 51, 52, 53, 54, 55, 56, 57, 58, 59, 60, 61, 62, 63, 64, 65, 66, 67, 68, 69, 70, 71, 72, 73, 74, 75, 76, 77, 78, 79, 80, 81, 82, 83, 84, 85, 86, 87] (by decide +kernel) (by decide +kernel)
set_option maxRecDepth 20000 in
theorem gX12_weight_X12_weightOf : GoodIn wsX12_weight (wsV RX12 110 RX12 yX12_weightOf wsX12_weightOf) := goodIn_app (goodIn_of _ (by decide +kernel)) ggX12_weight_X12_weightOf
set_option maxRecDepth 20000 in
theorem ggX12_weight_X12_fine : GoodIn wsX12_weight wsX12_fine := goodIn_r _ [31, 32, 37, 38, 39, 40, 41, 42, 43, 44, 45, 46, 47, 48, 49, 50, 51, 52, 53, 54, 55, 56, 57, 58, 59, 60, 61, 62, 63, 64, 65, 66, 67, 68, 69, 70, 71, 72, 73, 74, 75, 76, 77, 78, 79, 80, 81, 82, 83, 84, 85, 86, 87] (by decide +kernel) (by decide +kernel)
set_option maxRecDepth 20000 in
theorem gX12_weight_X12_fine : GoodIn wsX12_weight (wsV RX12 247 RX12 yX12_fine wsX12_fine) := goodIn_app (goodIn_of _ (by decide +kernel)) ggX12_weight_X12_fine
set_option maxRecDepth 20000 in
theorem ggX12_weight_X12_no : GoodIn wsX12_weight wsX12_no := goodIn_r _ [36, 32, 37, 38, 39, 40, 41, 42, 43, 44, 45, 46, 47, 48, 49, 50, 51, 52, 53, 54, 55, 56, 57, 58, 59, 60, 61, 62, 63, 64, 65, 66, 67, 68, 69, 70, 71, 72, 73, 74, 75, 76, 77, 78, 79, 80, 81, 82, 83, 84, 85, 86, 87] (by decide +kernel) (by decide +kernel)
set_option maxRecDepth 20000 in
theorem gX12_weight_X12_no : GoodIn wsX12_weight (wsV RX12 250 RX12 yX12_no wsX12_no) := goodIn_app (goodIn_of _ (by decide +kernel)) ggX12_weight_X12_no
theorem dX12_weight_0 : decode cX12_weight 0 = .ok (.aload_n 0, 1) := by decide +kernel
theorem dX12_weight_1 : decode cX12_weight 1 = .ok (.iload_n 1, 1) := by decide +kernel
theorem dX12_weight_2 : decode cX12_weight 2 = .ok (.iload_n 2, 1) := by decide +kernel
theorem dX12_weight_3 : decode cX12_weight 3 = .ok (.invokevirtual 366, 3) := by decide +kernel
theorem dX12_weight_6 : decode cX12_weight 6 = .ok (.ifCond .eq 16, 3) := by decide +kernel
theorem dX12_weight_9 : decode cX12_weight 9 = .ok (.aload_n 0, 1) := by decide +kernel
theorem dX12_weight_10 : decode cX12_weight 10 = .ok (.aload_n 0, 1) := by decide +kernel
theorem dX12_weight_11 : decode cX12_weight 11 = .ok (.iload_n 1, 1) := by decide +kernel
theorem dX12_weight_12 : decode cX12_weight 12 = .ok (.iload_n 2, 1) := by decide +kernel
theorem dX12_weight_13 : decode cX12_weight 13 = .ok (.invokevirtual 110, 3) := by decide +kernel
theorem dX12_weight_16 : decode cX12_weight 16 = .ok (.invokevirtual 247, 3) := by decide +kernel
theorem dX12_weight_19 : decode cX12_weight 19 = .ok (.goto 8, 3) := by decide +kernel
theorem dX12_weight_22 : decode cX12_weight 22 = .ok (.aload_n 0, 1) := by decide +kernel
theorem dX12_weight_23 : decode cX12_weight 23 = .ok (.iconst 1, 1) := by decide +kernel
theorem dX12_weight_24 : decode cX12_weight 24 = .ok (.invokevirtual 250, 3) := by decide +kernel
theorem dX12_weight_27 : decode cX12_weight 27 = .ok (.ireturn, 1) := by decide +kernel
set_option maxRecDepth 20000 in
theorem ggX12_guard_X12_isParcel : GoodIn wsX12_guard wsX12_isParcel := goodIn_r _ [7, 8, 9, 10, 11, 6, 12, 13, 14, 15, 16, 17, 27, 28, 29, 30, 31, 32, 33, 34, 35, 36, 37, 38, 39, 40, 41, 42, 43, 44, 45, 46, 47, 48, 49, 50, 51, 52, 53, 54, 55, 56, 57, 58, 59, 60, 61, 62, 63, 64, 65, 66, 67, 68, 69, 70, 71, 72, 73, 74, 75, 76, 77] (by decide +kernel) (by decide +kernel)
set_option maxRecDepth 20000 in
theorem gX12_guard_X12_isParcel : GoodIn wsX12_guard (wsV RX12 366 RX12 yX12_isParcel wsX12_isParcel) := goodIn_app (goodIn_of _ (by decide +kernel)) ggX12_guard_X12_isParcel
set_option maxRecDepth 20000 in
theorem ggX12_guard_X12_no : GoodIn wsX12_guard wsX12_no := goodIn_r _ [21, 22, 27, 28, 29, 30, 31, 32, 33, 34, 35, 36, 37, 38, 39, 40, 41, 42, 43, 44, 45, 46, 47, 48, 49, 50, 51, 52, 53, 54, 55, 56, 57, 58, 59, 60, 61, 62, 63, 64, 65, 66, 67, 68, 69, 70, 71, 72, 73, 74, 75, 76, 77] (by decide +kernel) (by decide +kernel)
set_option maxRecDepth 20000 in
theorem gX12_guard_X12_no : GoodIn wsX12_guard (wsV RX12 250 RX12 yX12_no wsX12_no) := goodIn_app (goodIn_of _ (by decide +kernel)) ggX12_guard_X12_no
set_option maxRecDepth 20000 in
theorem ggX12_guard_X12_fine : GoodIn wsX12_guard wsX12_fine := goodIn_r _ [26, 22, 27, 28, 29, 30, 31, 32, 33, 34, 35, 36, 37, 38, 39, 40, 41, 42, 43, 44, 45, 46, 47, 48, 49, 50, 51, 52, 53, 54, 55, 56, 57, 58, 59, 60, 61, 62, 63, 64, 65, 66, 67, 68, 69, 70, 71, 72, 73, 74, 75, 76, 77] (by decide +kernel) (by decide +kernel)
set_option maxRecDepth 20000 in
theorem gX12_guard_X12_fine : GoodIn wsX12_guard (wsV RX12 247 RX12 yX12_fine wsX12_fine) := goodIn_app (goodIn_of _ (by decide +kernel)) ggX12_guard_X12_fine
theorem dX12_guard_0 : decode cX12_guard 0 = .ok (.aload_n 0, 1) := by decide +kernel
theorem dX12_guard_1 : decode cX12_guard 1 = .ok (.iload_n 1, 1) := by decide +kernel
theorem dX12_guard_2 : decode cX12_guard 2 = .ok (.iload_n 2, 1) := by decide +kernel
theorem dX12_guard_3 : decode cX12_guard 3 = .ok (.invokevirtual 366, 3) := by decide +kernel
theorem dX12_guard_6 : decode cX12_guard 6 = .ok (.ifCond .ne 9, 3) := by decide +kernel
theorem dX12_guard_9 : decode cX12_guard 9 = .ok (.aload_n 0, 1) := by decide +kernel
theorem dX12_guard_10 : decode cX12_guard 10 = .ok (.iconst 1, 1) := by decide +kernel
theorem dX12_guard_11 : decode cX12_guard 11 = .ok (.invokevirtual 250, 3) := by decide +kernel
theorem dX12_guard_14 : decode cX12_guard 14 = .ok (.ireturn, 1) := by decide +kernel
theorem dX12_guard_15 : decode cX12_guard 15 = .ok (.iload_n 3, 1) := by decide +kernel
theorem dX12_guard_16 : decode cX12_guard 16 = .ok (.ifCond .ne 21, 3) := by decide +kernel
theorem dX12_guard_19 : decode cX12_guard 19 = .ok (.aload_n 0, 1) := by decide +kernel
theorem dX12_guard_20 : decode cX12_guard 20 = .ok (.aload_n 0, 1) := by decide +kernel
theorem dX12_guard_21 : decode cX12_guard 21 = .ok (.getfield 91, 3) := by decide +kernel
theorem dX12_guard_24 : decode cX12_guard 24 = .ok (.iload_n 1, 1) := by decide +kernel
theorem dX12_guard_25 : decode cX12_guard 25 = .ok (.bipush 16, 2) := by decide +kernel
theorem dX12_guard_27 : decode cX12_guard 27 = .ok (.imul, 1) := by decide +kernel
theorem dX12_guard_28 : decode cX12_guard 28 = .ok (.iload_n 2, 1) := by decide +kernel
theorem dX12_guard_29 : decode cX12_guard 29 = .ok (.iadd, 1) := by decide +kernel
theorem dX12_guard_30 : decode cX12_guard 30 = .ok (.iaload, 1) := by decide +kernel
theorem dX12_guard_31 : decode cX12_guard 31 = .ok (.invokevirtual 247, 3) := by decide +kernel
theorem dX12_guard_34 : decode cX12_guard 34 = .ok (.goto 31, 3) := by decide +kernel
theorem dX12_guard_37 : decode cX12_guard 37 = .ok (.iload_n 3, 1) := by decide +kernel
theorem dX12_guard_38 : decode cX12_guard 38 = .ok (.iconst 1, 1) := by decide +kernel
theorem dX12_guard_39 : decode cX12_guard 39 = .ok (.if_icmp .ne 21, 3) := by decide +kernel
theorem dX12_guard_42 : decode cX12_guard 42 = .ok (.aload_n 0, 1) := by decide +kernel
theorem dX12_guard_43 : decode cX12_guard 43 = .ok (.aload_n 0, 1) := by decide +kernel
theorem dX12_guard_44 : decode cX12_guard 44 = .ok (.getfield 94, 3) := by decide +kernel
theorem dX12_guard_47 : decode cX12_guard 47 = .ok (.iload_n 1, 1) := by decide +kernel
theorem dX12_guard_48 : decode cX12_guard 48 = .ok (.bipush 16, 2) := by decide +kernel
theorem dX12_guard_50 : decode cX12_guard 50 = .ok (.imul, 1) := by decide +kernel
theorem dX12_guard_51 : decode cX12_guard 51 = .ok (.iload_n 2, 1) := by decide +kernel
theorem dX12_guard_52 : decode cX12_guard 52 = .ok (.iadd, 1) := by decide +kernel
theorem dX12_guard_53 : decode cX12_guard 53 = .ok (.iaload, 1) := by decide +kernel
theorem dX12_guard_54 : decode cX12_guard 54 = .ok (.invokevirtual 247, 3) := by decide +kernel
theorem dX12_guard_57 : decode cX12_guard 57 = .ok (.goto 8, 3) := by decide +kernel
theorem dX12_guard_60 : decode cX12_guard 60 = .ok (.aload_n 0, 1) := by decide +kernel
theorem dX12_guard_61 : decode cX12_guard 61 = .ok (.iconst 3, 1) := by decide +kernel
theorem dX12_guard_62 : decode cX12_guard 62 = .ok (.invokevirtual 250, 3) := by decide +kernel
theorem dX12_guard_65 : decode cX12_guard 65 = .ok (.ireturn, 1) := by decide +kernel
set_option maxRecDepth 20000 in
theorem ggX12_busy_X12_isCourier : GoodIn wsX12_busy wsX12_isCourier := goodIn_r _ [6, 7, 8, 9, 5, 10, 30, 31, 32, 33, 34, 35, 36, 37, 38, 39, 40, 41, 42, 43, 44, 45, 46, 47, 48, 49, 50, 51, 52, 53, 54, 55, 56, 57, 58, 59, 60, 61, 62, 63, 64, 65, 66, 67, 68, 69, 70, 71, 72, 73, 74, 75, 76, 77, 78, 79, 80] (by decide +kernel) (by decide +kernel)
set_option maxRecDepth 20000 in
theorem gX12_busy_X12_isCourier : GoodIn wsX12_busy (wsV RX12 369 RX12 yX12_isCourier wsX12_isCourier) := goodIn_app (goodIn_of _ (by decide +kernel)) ggX12_busy_X12_isCourier
set_option maxRecDepth 20000 in
theorem ggX12_busy_X12_busyDays : GoodIn wsX12_busy wsX12_busyDays := goodIn_r _ [14, 15, 16, 17, 18, 19, 20, 30, 31, 32, 33, 34, 35, 36, 37, 38, 39, 40, 41, 42, 43, 44, 45, 46, 47, 48, 49, 50, 51, 52, 53, 54, 55, 56, 57, 58, 59, 60, 61, 62, 63, 64, 65, 66, 67, 68, 69, 70, 71, 72, 73, 74, 75, 76, 77, 78, 79, 80] (by decide +kernel) (by decide +kernel)
set_option maxRecDepth 20000 in
theorem gX12_busy_X12_busyDays : GoodIn wsX12_busy (wsV RX12 142 RX12 yX12_busyDays wsX12_busyDays) := goodIn_app (goodIn_of _ (by decide +kernel)) ggX12_busy_X12_busyDays
set_option maxRecDepth 20000 in
theorem ggX12_busy_X12_fine : GoodIn wsX12_busy wsX12_fine := goodIn_r _ [24, 25, 30, 31, 32, 33, 34, 35, 36, 37, 38, 39, 40, 41, 42, 43, 44, 45, 46, 47, 48, 49, 50, 51, 52, 53, 54, 55, 56, 57, 58, 59, 60, 61, 62, 63, 64, 65, 66, 67, 68, 69, 70, 71, 72, 73, 74, 75, 76, 77, 78, 79, 80] (by decide +kernel) (by decide +kernel)
set_option maxRecDepth 20000 in
theorem gX12_busy_X12_fine : GoodIn wsX12_busy (wsV RX12 247 RX12 yX12_fine wsX12_fine) := goodIn_app (goodIn_of _ (by decide +kernel)) ggX12_busy_X12_fine
set_option maxRecDepth 20000 in
theorem ggX12_busy_X12_no : GoodIn wsX12_busy wsX12_no := goodIn_r _ [29, 25, 30, 31, 32, 33, 34, 35, 36, 37, 38, 39, 40, 41, 42, 43, 44, 45, 46, 47, 48, 49, 50, 51, 52, 53, 54, 55, 56, 57, 58, 59, 60, 61, 62, 63, 64, 65, 66, 67, 68, 69, 70, 71, 72, 73, 74, 75, 76, 77, 78, 79, 80] (by decide +kernel) (by decide +kernel)
set_option maxRecDepth 20000 in
theorem gX12_busy_X12_no : GoodIn wsX12_busy (wsV RX12 250 RX12 yX12_no wsX12_no) := goodIn_app (goodIn_of _ (by decide +kernel)) ggX12_busy_X12_no
theorem dX12_busy_0 : decode cX12_busy 0 = .ok (.aload_n 0, 1) := by decide +kernel
theorem dX12_busy_1 : decode cX12_busy 1 = .ok (.iload_n 1, 1) := by decide +kernel
theorem dX12_busy_2 : decode cX12_busy 2 = .ok (.invokevirtual 369, 3) := by decide +kernel
theorem dX12_busy_5 : decode cX12_busy 5 = .ok (.ifCond .eq 19, 3) := by decide +kernel
theorem dX12_busy_8 : decode cX12_busy 8 = .ok (.aload_n 0, 1) := by decide +kernel
theorem dX12_busy_9 : decode cX12_busy 9 = .ok (.aload_n 0, 1) := by decide +kernel
theorem dX12_busy_10 : decode cX12_busy 10 = .ok (.iload_n 1, 1) := by decide +kernel
theorem dX12_busy_11 : decode cX12_busy 11 = .ok (.aload_n 0, 1) := by decide +kernel
theorem dX12_busy_12 : decode cX12_busy 12 = .ok (.getfield 20, 3) := by decide +kernel
theorem dX12_busy_15 : decode cX12_busy 15 = .ok (.invokevirtual 142, 3) := by decide +kernel
theorem dX12_busy_18 : decode cX12_busy 18 = .ok (.invokevirtual 247, 3) := by decide +kernel
theorem dX12_busy_21 : decode cX12_busy 21 = .ok (.goto 8, 3) := by decide +kernel
theorem dX12_busy_24 : decode cX12_busy 24 = .ok (.aload_n 0, 1) := by decide +kernel
theorem dX12_busy_25 : decode cX12_busy 25 = .ok (.iconst 1, 1) := by decide +kernel
theorem dX12_busy_26 : decode cX12_busy 26 = .ok (.invokevirtual 250, 3) := by decide +kernel
theorem dX12_busy_29 : decode cX12_busy 29 = .ok (.ireturn, 1) := by decide +kernel
set_option maxRecDepth 20000 in
theorem ggX12_with_X12_isCourier : GoodIn wsX12_with wsX12_isCourier := goodIn_r _ [6, 7, 8, 9, 5, 10, 39, 40, 41, 42, 43, 44, 45, 46, 47, 48, 49, 50, 51, 52, 53, 54, 55, 56, 57, 58, 59, 60, 61, 62, 63, 64, 65, 66, 67, 68, 69, 70, 71, 72, 73, 74, 75, 76, 77, 78, 79, 80, 81, 82, 83, 84, 85, 86, 87, 88, 89] (by decide +kernel) (by decide +kernel)
set_option maxRecDepth 20000 in
theorem gX12_with_X12_isCourier : GoodIn wsX12_with (wsV RX12 369 RX12 yX12_isCourier wsX12_isCourier) := goodIn_app (goodIn_of _ (by decide +kernel)) ggX12_with_X12_isCourier
set_option maxRecDepth 20000 in
theorem ggX12_with_X12_no : GoodIn wsX12_with wsX12_no := goodIn_r _ [14, 15, 39, 40, 41, 42, 43, 44, 45, 46, 47, 48, 49, 50, 51, 52, 53, 54, 55, 56, 57, 58, 59, 60, 61, 62, 63, 64, 65, 66, 67, 68, 69, 70, 71, 72, 73, 74, 75, 76, 77, 78, 79, 80, 81, 82, 83, 84, 85, 86, 87, 88, 89] (by decide +kernel) (by decide +kernel)
set_option maxRecDepth 20000 in
theorem gX12_with_X12_no : GoodIn wsX12_with (wsV RX12 250 RX12 yX12_no wsX12_no) := goodIn_app (goodIn_of _ (by decide +kernel)) ggX12_with_X12_no
set_option maxRecDepth 20000 in
theorem ggX12_with_X12_isDay : GoodIn wsX12_with wsX12_isDay := goodIn_r _ [18, 8, 9, 5, 10] (by decide +kernel) (by decide +kernel)
set_option maxRecDepth 20000 in
theorem gX12_with_X12_isDay : GoodIn wsX12_with (va_wsS RX12 354 yX12_isDay wsX12_isDay) := goodIn_app (goodIn_of _ (by decide +kernel)) ggX12_with_X12_isDay
set_option maxRecDepth 20000 in
theorem ggX12_with_X12_busyFor : GoodIn wsX12_with wsX12_busyFor := goodIn_r _ [22, 23, 24, 25, 26, 27, 28, 29, 5, 30, 31, 32, 33, 34, 39, 40, 41, 42, 43, 44, 45, 46, 47, 48, 49, 50, 51, 52, 53, 54, 55, 56, 57, 58, 59, 60, 61, 62, 63, 64, 65, 66, 67, 68, 69, 70, 71, 72, 73, 74, 75, 76, 77, 78, 79, 80, 81, 82, 83, 84, 85, 86, 87, 88, 89] (by decide +kernel) (by decide +kernel)
set_option maxRecDepth 20000 in
theorem gX12_with_X12_busyFor : GoodIn wsX12_with (wsV RX12 100 RX12 yX12_busyFor wsX12_busyFor) := goodIn_app (goodIn_of _ (by decide +kernel)) ggX12_with_X12_busyFor
set_option maxRecDepth 20000 in
theorem ggX12_with_X12_fine : GoodIn wsX12_with wsX12_fine := goodIn_r _ [38, 15, 39, 40, 41, 42, 43, 44, 45, 46, 47, 48, 49, 50, 51, 52, 53, 54, 55, 56, 57, 58, 59, 60, 61, 62, 63, 64, 65, 66, 67, 68, 69, 70, 71, 72, 73, 74, 75, 76, 77, 78, 79, 80, 81, 82, 83, 84, 85, 86, 87, 88, 89] (by decide +kernel) (by decide +kernel)
set_option maxRecDepth 20000 in
theorem gX12_with_X12_fine : GoodIn wsX12_with (wsV RX12 247 RX12 yX12_fine wsX12_fine) := goodIn_app (goodIn_of _ (by decide +kernel)) ggX12_with_X12_fine
theorem dX12_with_0 : decode cX12_with 0 = .ok (.aload_n 0, 1) := by decide +kernel
theorem dX12_with_1 : decode cX12_with 1 = .ok (.iload_n 1, 1) := by decide +kernel
theorem dX12_with_2 : decode cX12_with 2 = .ok (.invokevirtual 369, 3) := by decide +kernel
theorem dX12_with_5 : decode cX12_with 5 = .ok (.ifCond .ne 11, 3) := by decide +kernel
theorem dX12_with_8 : decode cX12_with 8 = .ok (.aload_n 0, 1) := by decide +kernel
theorem dX12_with_9 : decode cX12_with 9 = .ok (.iconst 1, 1) := by decide +kernel
theorem dX12_with_10 : decode cX12_with 10 = .ok (.invokevirtual 250, 3) := by decide +kernel
theorem dX12_with_13 : decode cX12_with 13 = .ok (.goto 32, 3) := by decide +kernel
theorem dX12_with_16 : decode cX12_with 16 = .ok (.iload_n 2, 1) := by decide +kernel
theorem dX12_with_17 : decode cX12_with 17 = .ok (.invokestatic 354, 3) := by decide +kernel
theorem dX12_with_20 : decode cX12_with 20 = .ok (.ifCond .ne 11, 3) := by decide +kernel
theorem dX12_with_23 : decode cX12_with 23 = .ok (.aload_n 0, 1) := by decide +kernel
theorem dX12_with_24 : decode cX12_with 24 = .ok (.iconst 3, 1) := by decide +kernel
theorem dX12_with_25 : decode cX12_with 25 = .ok (.invokevirtual 250, 3) := by decide +kernel
theorem dX12_with_28 : decode cX12_with 28 = .ok (.goto 17, 3) := by decide +kernel
theorem dX12_with_31 : decode cX12_with 31 = .ok (.aload_n 0, 1) := by decide +kernel
theorem dX12_with_32 : decode cX12_with 32 = .ok (.aload_n 0, 1) := by decide +kernel
theorem dX12_with_33 : decode cX12_with 33 = .ok (.iload_n 1, 1) := by decide +kernel
theorem dX12_with_34 : decode cX12_with 34 = .ok (.iload_n 2, 1) := by decide +kernel
theorem dX12_with_35 : decode cX12_with 35 = .ok (.aload_n 0, 1) := by decide +kernel
theorem dX12_with_36 : decode cX12_with 36 = .ok (.getfield 20, 3) := by decide +kernel
theorem dX12_with_39 : decode cX12_with 39 = .ok (.invokevirtual 100, 3) := by decide +kernel
theorem dX12_with_42 : decode cX12_with 42 = .ok (.invokevirtual 247, 3) := by decide +kernel
theorem dX12_with_45 : decode cX12_with 45 = .ok (.ireturn, 1) := by decide +kernel
set_option maxRecDepth 20000 in
theorem ggX12_ready_X12_isCourier : GoodIn wsX12_ready wsX12_isCourier := goodIn_r _ [6, 7, 8, 9, 5, 10, 46, 47, 48, 49, 50, 51, 52, 53, 54, 55, 56, 57, 58, 59, 60, 61, 62, 63, 64, 65, 66, 67, 68, 69, 70, 71, 72, 73, 74, 75, 76, 77, 78, 79, 80, 81, 82, 83, 84, 85, 86, 87, 88, 89, 90, 91, 92, 93, 94, 95, 96] (by decide +kernel) (by decide +kernel)
set_option maxRecDepth 20000 in
theorem gX12_ready_X12_isCourier : GoodIn wsX12_ready (wsV RX12 369 RX12 yX12_isCourier wsX12_isCourier) := goodIn_app (goodIn_of _ (by decide +kernel)) ggX12_ready_X12_isCourier
set_option maxRecDepth 20000 in
theorem ggX12_ready_X12_no : GoodIn wsX12_ready wsX12_no := goodIn_r _ [14, 15, 46, 47, 48, 49, 50, 51, 52, 53, 54, 55, 56, 57, 58, 59, 60, 61, 62, 63, 64, 65, 66, 67, 68, 69, 70, 71, 72, 73, 74, 75, 76, 77, 78, 79, 80, 81, 82, 83, 84, 85, 86, 87, 88, 89, 90, 91, 92, 93, 94, 95, 96] (by decide +kernel) (by decide +kernel)
set_option maxRecDepth 20000 in
theorem gX12_ready_X12_no : GoodIn wsX12_ready (wsV RX12 250 RX12 yX12_no wsX12_no) := goodIn_app (goodIn_of _ (by decide +kernel)) ggX12_ready_X12_no
set_option maxRecDepth 20000 in
theorem ggX12_ready_X12_isDay : GoodIn wsX12_ready wsX12_isDay := goodIn_r _ [18, 8, 9, 5, 10] (by decide +kernel) (by decide +kernel)
set_option maxRecDepth 20000 in
theorem gX12_ready_X12_isDay : GoodIn wsX12_ready (va_wsS RX12 354 yX12_isDay wsX12_isDay) := goodIn_app (goodIn_of _ (by decide +kernel)) ggX12_ready_X12_isDay
set_option maxRecDepth 20000 in
theorem ggX12_ready_X12_isIn : GoodIn wsX12_ready wsX12_isIn := goodIn_r _ [10] (by decide +kernel) (by decide +kernel)
set_option maxRecDepth 20000 in
theorem gX12_ready_X12_isIn : GoodIn wsX12_ready (va_wsS RX12 10 yX12_isIn wsX12_isIn) := goodIn_app (goodIn_of _ (by decide +kernel)) ggX12_ready_X12_isIn
set_option maxRecDepth 20000 in
theorem ggX12_ready_X12_mayTravel : GoodIn wsX12_ready wsX12_mayTravel := goodIn_r _ [22, 23, 24, 25, 8, 9, 5, 10, 46, 47, 48, 49, 50, 51, 52, 53, 54, 55, 56, 57, 58, 59, 60, 61, 62, 63, 64, 65, 66, 67, 68, 69, 70, 71, 72, 73, 74, 75, 76, 77, 78, 79, 80, 81, 82, 83, 84, 85, 86, 87, 88, 89, 90, 91, 92, 93, 94, 95, 96] (by decide +kernel) (by decide +kernel)
set_option maxRecDepth 20000 in
theorem gX12_ready_X12_mayTravel : GoodIn wsX12_ready (wsV RX12 97 RX12 yX12_mayTravel wsX12_mayTravel) := goodIn_app (goodIn_of _ (by decide +kernel)) ggX12_ready_X12_mayTravel
set_option maxRecDepth 20000 in
theorem ggX12_ready_X12_busyFor : GoodIn wsX12_ready wsX12_busyFor := goodIn_r _ [29, 30, 31, 32, 33, 34, 35, 36, 5, 37, 38, 39, 40, 41, 46, 47, 48, 49, 50, 51, 52, 53, 54, 55, 56, 57, 58, 59, 60, 61, 62, 63, 64, 65, 66, 67, 68, 69, 70, 71, 72, 73, 74, 75, 76, 77, 78, 79, 80, 81, 82, 83, 84, 85, 86, 87, 88, 89, 90, 91, 92, 93, 94, 95, 96] (by decide +kernel) (by decide +kernel)
set_option maxRecDepth 20000 in
theorem gX12_ready_X12_busyFor : GoodIn wsX12_ready (wsV RX12 100 RX12 yX12_busyFor wsX12_busyFor) := goodIn_app (goodIn_of _ (by decide +kernel)) ggX12_ready_X12_busyFor
set_option maxRecDepth 20000 in
theorem ggX12_ready_X12_fine : GoodIn wsX12_ready wsX12_fine := goodIn_r _ [45, 15, 46, 47, 48, 49, 50, 51, 52, 53, 54, 55, 56, 57, 58, 59, 60, 61, 62, 63, 64, 65, 66, 67, 68, 69, 70, 71, 72, 73, 74, 75, 76, 77, 78, 79, 80, 81, 82, 83, 84, 85, 86, 87, 88, 89, 90, 91, 92, 93, 94, 95, 96] (by decide +kernel) (by decide +kernel)
set_option maxRecDepth 20000 in
theorem gX12_ready_X12_fine : GoodIn wsX12_ready (wsV RX12 247 RX12 yX12_fine wsX12_fine) := goodIn_app (goodIn_of _ (by decide +kernel)) ggX12_ready_X12_fine
theorem dX12_ready_0 : decode cX12_ready 0 = .ok (.aload_n 0, 1) := by decide +kernel
theorem dX12_ready_1 : decode cX12_ready 1 = .ok (.iload_n 1, 1) := by decide +kernel
theorem dX12_ready_2 : decode cX12_ready 2 = .ok (.invokevirtual 369, 3) := by decide +kernel
theorem dX12_ready_5 : decode cX12_ready 5 = .ok (.ifCond .ne 9, 3) := by decide +kernel
theorem dX12_ready_8 : decode cX12_ready 8 = .ok (.aload_n 0, 1) := by decide +kernel
theorem dX12_ready_9 : decode cX12_ready 9 = .ok (.iconst 1, 1) := by decide +kernel
theorem dX12_ready_10 : decode cX12_ready 10 = .ok (.invokevirtual 250, 3) := by decide +kernel
theorem dX12_ready_13 : decode cX12_ready 13 = .ok (.ireturn, 1) := by decide +kernel
theorem dX12_ready_14 : decode cX12_ready 14 = .ok (.iload_n 2, 1) := by decide +kernel
theorem dX12_ready_15 : decode cX12_ready 15 = .ok (.invokestatic 354, 3) := by decide +kernel
theorem dX12_ready_18 : decode cX12_ready 18 = .ok (.ifCond .eq 14, 3) := by decide +kernel
theorem dX12_ready_21 : decode cX12_ready 21 = .ok (.iload_n 3, 1) := by decide +kernel
theorem dX12_ready_22 : decode cX12_ready 22 = .ok (.iconst 1, 1) := by decide +kernel
theorem dX12_ready_23 : decode cX12_ready 23 = .ok (.sipush 1000, 3) := by decide +kernel
theorem dX12_ready_26 : decode cX12_ready 26 = .ok (.invokestatic 10, 3) := by decide +kernel
theorem dX12_ready_29 : decode cX12_ready 29 = .ok (.ifCond .ne 9, 3) := by decide +kernel
theorem dX12_ready_32 : decode cX12_ready 32 = .ok (.aload_n 0, 1) := by decide +kernel
theorem dX12_ready_33 : decode cX12_ready 33 = .ok (.iconst 3, 1) := by decide +kernel
theorem dX12_ready_34 : decode cX12_ready 34 = .ok (.invokevirtual 250, 3) := by decide +kernel
theorem dX12_ready_37 : decode cX12_ready 37 = .ok (.ireturn, 1) := by decide +kernel
theorem dX12_ready_38 : decode cX12_ready 38 = .ok (.iconst 0, 1) := by decide +kernel
theorem dX12_ready_39 : decode cX12_ready 39 = .ok (.istore 4, 2) := by decide +kernel
theorem dX12_ready_41 : decode cX12_ready 41 = .ok (.iload_n 2, 1) := by decide +kernel
theorem dX12_ready_42 : decode cX12_ready 42 = .ok (.istore 5, 2) := by decide +kernel
theorem dX12_ready_44 : decode cX12_ready 44 = .ok (.iload 5, 2) := by decide +kernel
theorem dX12_ready_46 : decode cX12_ready 46 = .ok (.sipush 1000, 3) := by decide +kernel
theorem dX12_ready_49 : decode cX12_ready 49 = .ok (.if_icmp .ge 60, 3) := by decide +kernel
theorem dX12_ready_52 : decode cX12_ready 52 = .ok (.aload_n 0, 1) := by decide +kernel
theorem dX12_ready_53 : decode cX12_ready 53 = .ok (.iload_n 1, 1) := by decide +kernel
theorem dX12_ready_54 : decode cX12_ready 54 = .ok (.iload 5, 2) := by decide +kernel
theorem dX12_ready_56 : decode cX12_ready 56 = .ok (.invokevirtual 97, 3) := by decide +kernel
theorem dX12_ready_59 : decode cX12_ready 59 = .ok (.ifCond .eq 24, 3) := by decide +kernel
theorem dX12_ready_62 : decode cX12_ready 62 = .ok (.aload_n 0, 1) := by decide +kernel
theorem dX12_ready_63 : decode cX12_ready 63 = .ok (.iload_n 1, 1) := by decide +kernel
theorem dX12_ready_64 : decode cX12_ready 64 = .ok (.iload 5, 2) := by decide +kernel
theorem dX12_ready_66 : decode cX12_ready 66 = .ok (.aload_n 0, 1) := by decide +kernel
theorem dX12_ready_67 : decode cX12_ready 67 = .ok (.getfield 20, 3) := by decide +kernel
theorem dX12_ready_70 : decode cX12_ready 70 = .ok (.invokevirtual 100, 3) := by decide +kernel
theorem dX12_ready_73 : decode cX12_ready 73 = .ok (.ifCond .ge 10, 3) := by decide +kernel
theorem dX12_ready_76 : decode cX12_ready 76 = .ok (.iload 4, 2) := by decide +kernel
theorem dX12_ready_78 : decode cX12_ready 78 = .ok (.iconst 1, 1) := by decide +kernel
theorem dX12_ready_79 : decode cX12_ready 79 = .ok (.iadd, 1) := by decide +kernel
theorem dX12_ready_80 : decode cX12_ready 80 = .ok (.goto 4, 3) := by decide +kernel
theorem dX12_ready_83 : decode cX12_ready 83 = .ok (.iconst 0, 1) := by decide +kernel
theorem dX12_ready_84 : decode cX12_ready 84 = .ok (.istore 4, 2) := by decide +kernel
theorem dX12_ready_86 : decode cX12_ready 86 = .ok (.iload 4, 2) := by decide +kernel
theorem dX12_ready_88 : decode cX12_ready 88 = .ok (.iload_n 3, 1) := by decide +kernel
theorem dX12_ready_89 : decode cX12_ready 89 = .ok (.if_icmp .ne 14, 3) := by decide +kernel
theorem dX12_ready_92 : decode cX12_ready 92 = .ok (.aload_n 0, 1) := by decide +kernel
theorem dX12_ready_93 : decode cX12_ready 93 = .ok (.iload 5, 2) := by decide +kernel
theorem dX12_ready_95 : decode cX12_ready 95 = .ok (.iload_n 3, 1) := by decide +kernel
theorem dX12_ready_96 : decode cX12_ready 96 = .ok (.isub, 1) := by decide +kernel
theorem dX12_ready_97 : decode cX12_ready 97 = .ok (.iconst 1, 1) := by decide +kernel
theorem dX12_ready_98 : decode cX12_ready 98 = .ok (.iadd, 1) := by decide +kernel
theorem dX12_ready_99 : decode cX12_ready 99 = .ok (.invokevirtual 247, 3) := by decide +kernel
theorem dX12_ready_102 : decode cX12_ready 102 = .ok (.ireturn, 1) := by decide +kernel
theorem dX12_ready_103 : decode cX12_ready 103 = .ok (.iinc 5 1, 3) := by decide +kernel
theorem dX12_ready_106 : decode cX12_ready 106 = .ok (.goto (-62), 3) := by decide +kernel
theorem dX12_ready_109 : decode cX12_ready 109 = .ok (.aload_n 0, 1) := by decide +kernel
theorem dX12_ready_110 : decode cX12_ready 110 = .ok (.iconst (-1), 1) := by decide +kernel
theorem dX12_ready_111 : decode cX12_ready 111 = .ok (.invokevirtual 247, 3) := by decide +kernel
theorem dX12_ready_114 : decode cX12_ready 114 = .ok (.ireturn, 1) := by decide +kernel
set_option maxRecDepth 20000 in
theorem ggX12_cost_X12_isLoan : GoodIn wsX12_cost wsX12_isLoan := goodIn_r _ [5, 6, 7, 8, 9, 4, 10, 66, 67, 68, 69, 70, 71, 72, 73, 74, 75, 76, 77, 78, 79, 80, 81, 82, 83, 84, 85, 86, 87, 88, 89, 90, 91, 92, 93, 94, 95, 96, 97, 98, 99, 100, 101, 102, 103, 104, 105, 106, 107, 108, 109, 110, 111, 112, 113, 114, 115, 116] (by decide +kernel) (by decide +kernel)
set_option maxRecDepth 20000 in
theorem gX12_cost_X12_isLoan : GoodIn wsX12_cost (wsV RX12 360 RX12 yX12_isLoan wsX12_isLoan) := goodIn_app (goodIn_of _ (by decide +kernel)) ggX12_cost_X12_isLoan
set_option maxRecDepth 20000 in
theorem ggX12_cost_X12_no : GoodIn wsX12_cost wsX12_no := goodIn_r _ [14, 15, 66, 67, 68, 69, 70, 71, 72, 73, 74, 75, 76, 77, 78, 79, 80, 81, 82, 83, 84, 85, 86, 87, 88, 89, 90, 91, 92, 93, 94, 95, 96, 97, 98, 99, 100, 101, 102, 103, 104, 105, 106, 107, 108, 109, 110, 111, 112, 113, 114, 115, 116] (by decide +kernel) (by decide +kernel)
set_option maxRecDepth 20000 in
theorem gX12_cost_X12_no : GoodIn wsX12_cost (wsV RX12 250 RX12 yX12_no wsX12_no) := goodIn_app (goodIn_of _ (by decide +kernel)) ggX12_cost_X12_no
set_option maxRecDepth 20000 in
theorem ggX12_cost_X12_isDay : GoodIn wsX12_cost wsX12_isDay := goodIn_r _ [18, 8, 9, 4, 10] (by decide +kernel) (by decide +kernel)
set_option maxRecDepth 20000 in
theorem gX12_cost_X12_isDay : GoodIn wsX12_cost (va_wsS RX12 354 yX12_isDay wsX12_isDay) := goodIn_app (goodIn_of _ (by decide +kernel)) ggX12_cost_X12_isDay
set_option maxRecDepth 20000 in
theorem ggX12_cost_X12_costOf : GoodIn wsX12_cost wsX12_costOf := goodIn_r _ [22, 23, 24, 25, 26, 27, 28, 29, 30, 31, 4, 32, 33, 34, 35, 36, 37, 38, 39, 40, 41, 42, 43, 44, 45, 46, 47, 48, 49, 50, 51, 52, 53, 54, 55, 56, 57, 58, 59, 60, 61, 66, 67, 68, 69, 70, 71, 72, 73, 74, 75, 76, 77, 78, 79, 80, 81, 82, 83, 84, 85, 86, 87, 88, 89, 90, 91, 92, 93, 94, 95, 96, 97, 98, 99, 100, 101, 102, 103, 104, 105, 106, 107, 108, 109, 110, 111, 112, 113, 114, 115, 116] (by decide +kernel) (by decide +kernel)
set_option maxRecDepth 20000 in
theorem gX12_cost_X12_costOf : GoodIn wsX12_cost (wsV RX12 372 RX12 yX12_costOf wsX12_costOf) := goodIn_app (goodIn_of _ (by decide +kernel)) ggX12_cost_X12_costOf
set_option maxRecDepth 20000 in
theorem ggX12_cost_X12_fine : GoodIn wsX12_cost wsX12_fine := goodIn_r _ [65, 15, 66, 67, 68, 69, 70, 71, 72, 73, 74, 75, 76, 77, 78, 79, 80, 81, 82, 83, 84, 85, 86, 87, 88, 89, 90, 91, 92, 93, 94, 95, 96, 97, 98, 99, 100, 101, 102, 103, 104, 105, 106, 107, 108, 109, 110, 111, 112, 113, 114, 115, 116] (by decide +kernel) (by decide +kernel)
set_option maxRecDepth 20000 in
theorem gX12_cost_X12_fine : GoodIn wsX12_cost (wsV RX12 247 RX12 yX12_fine wsX12_fine) := goodIn_app (goodIn_of _ (by decide +kernel)) ggX12_cost_X12_fine
theorem dX12_cost_0 : decode cX12_cost 0 = .ok (.aload_n 0, 1) := by decide +kernel
theorem dX12_cost_1 : decode cX12_cost 1 = .ok (.iload_n 1, 1) := by decide +kernel
theorem dX12_cost_2 : decode cX12_cost 2 = .ok (.invokevirtual 360, 3) := by decide +kernel
theorem dX12_cost_5 : decode cX12_cost 5 = .ok (.ifCond .ne 11, 3) := by decide +kernel
theorem dX12_cost_8 : decode cX12_cost 8 = .ok (.aload_n 0, 1) := by decide +kernel
theorem dX12_cost_9 : decode cX12_cost 9 = .ok (.iconst 1, 1) := by decide +kernel
theorem dX12_cost_10 : decode cX12_cost 10 = .ok (.invokevirtual 250, 3) := by decide +kernel
theorem dX12_cost_13 : decode cX12_cost 13 = .ok (.goto 28, 3) := by decide +kernel
theorem dX12_cost_16 : decode cX12_cost 16 = .ok (.iload_n 2, 1) := by decide +kernel
theorem dX12_cost_17 : decode cX12_cost 17 = .ok (.invokestatic 354, 3) := by decide +kernel
theorem dX12_cost_20 : decode cX12_cost 20 = .ok (.ifCond .ne 11, 3) := by decide +kernel
theorem dX12_cost_23 : decode cX12_cost 23 = .ok (.aload_n 0, 1) := by decide +kernel
theorem dX12_cost_24 : decode cX12_cost 24 = .ok (.iconst 3, 1) := by decide +kernel
theorem dX12_cost_25 : decode cX12_cost 25 = .ok (.invokevirtual 250, 3) := by decide +kernel
theorem dX12_cost_28 : decode cX12_cost 28 = .ok (.goto 13, 3) := by decide +kernel
theorem dX12_cost_31 : decode cX12_cost 31 = .ok (.aload_n 0, 1) := by decide +kernel
theorem dX12_cost_32 : decode cX12_cost 32 = .ok (.aload_n 0, 1) := by decide +kernel
theorem dX12_cost_33 : decode cX12_cost 33 = .ok (.iload_n 1, 1) := by decide +kernel
theorem dX12_cost_34 : decode cX12_cost 34 = .ok (.iload_n 2, 1) := by decide +kernel
theorem dX12_cost_35 : decode cX12_cost 35 = .ok (.invokevirtual 372, 3) := by decide +kernel
theorem dX12_cost_38 : decode cX12_cost 38 = .ok (.invokevirtual 247, 3) := by decide +kernel
theorem dX12_cost_41 : decode cX12_cost 41 = .ok (.ireturn, 1) := by decide +kernel
set_option maxRecDepth 20000 in
theorem ggX12_premium_X12_isLoan : GoodIn wsX12_premium wsX12_isLoan := goodIn_r _ [6, 7, 8, 9, 10, 5, 11, 67, 68, 69, 70, 71, 72, 73, 74, 75, 76, 77, 78, 79, 80, 81, 82, 83, 84, 85, 86, 87, 88, 89, 90, 91, 92, 93, 94, 95, 96, 97, 98, 99, 100, 101, 102, 103, 104, 105, 106, 107, 108, 109, 110, 111, 112, 113, 114, 115, 116, 117] (by decide +kernel) (by decide +kernel)
set_option maxRecDepth 20000 in
theorem gX12_premium_X12_isLoan : GoodIn wsX12_premium (wsV RX12 360 RX12 yX12_isLoan wsX12_isLoan) := goodIn_app (goodIn_of _ (by decide +kernel)) ggX12_premium_X12_isLoan
set_option maxRecDepth 20000 in
theorem ggX12_premium_X12_no : GoodIn wsX12_premium wsX12_no := goodIn_r _ [15, 16, 67, 68, 69, 70, 71, 72, 73, 74, 75, 76, 77, 78, 79, 80, 81, 82, 83, 84, 85, 86, 87, 88, 89, 90, 91, 92, 93, 94, 95, 96, 97, 98, 99, 100, 101, 102, 103, 104, 105, 106, 107, 108, 109, 110, 111, 112, 113, 114, 115, 116, 117] (by decide +kernel) (by decide +kernel)
set_option maxRecDepth 20000 in
theorem gX12_premium_X12_no : GoodIn wsX12_premium (wsV RX12 250 RX12 yX12_no wsX12_no) := goodIn_app (goodIn_of _ (by decide +kernel)) ggX12_premium_X12_no
set_option maxRecDepth 20000 in
theorem ggX12_premium_X12_isDay : GoodIn wsX12_premium wsX12_isDay := goodIn_r _ [19, 9, 10, 5, 11] (by decide +kernel) (by decide +kernel)
set_option maxRecDepth 20000 in
theorem gX12_premium_X12_isDay : GoodIn wsX12_premium (va_wsS RX12 354 yX12_isDay wsX12_isDay) := goodIn_app (goodIn_of _ (by decide +kernel)) ggX12_premium_X12_isDay
set_option maxRecDepth 20000 in
theorem ggX12_premium_X12_costOf : GoodIn wsX12_premium wsX12_costOf := goodIn_r _ [23, 24, 25, 26, 27, 28, 29, 30, 31, 32, 5, 33, 34, 35, 36, 37, 38, 39, 40, 41, 42, 43, 44, 45, 46, 47, 48, 49, 50, 51, 52, 53, 54, 55, 56, 57, 58, 59, 60, 61, 62, 67, 68, 69, 70, 71, 72, 73, 74, 75, 76, 77, 78, 79, 80, 81, 82, 83, 84, 85, 86, 87, 88, 89, 90, 91, 92, 93, 94, 95, 96, 97, 98, 99, 100, 101, 102, 103, 104, 105, 106, 107, 108, 109, 110, 111, 112, 113, 114, 115, 116, 117] (by decide +kernel) (by decide +kernel)
set_option maxRecDepth 20000 in
theorem gX12_premium_X12_costOf : GoodIn wsX12_premium (wsV RX12 372 RX12 yX12_costOf wsX12_costOf) := goodIn_app (goodIn_of _ (by decide +kernel)) ggX12_premium_X12_costOf
set_option maxRecDepth 20000 in
theorem ggX12_premium_X12_fine : GoodIn wsX12_premium wsX12_fine := goodIn_r _ [66, 16, 67, 68, 69, 70, 71, 72, 73, 74, 75, 76, 77, 78, 79, 80, 81, 82, 83, 84, 85, 86, 87, 88, 89, 90, 91, 92, 93, 94, 95, 96, 97, 98, 99, 100, 101, 102, 103, 104, 105, 106, 107, 108, 109, 110, 111, 112, 113, 114, 115, 116, 117] (by decide +kernel) (by decide +kernel)
set_option maxRecDepth 20000 in
theorem gX12_premium_X12_fine : GoodIn wsX12_premium (wsV RX12 247 RX12 yX12_fine wsX12_fine) := goodIn_app (goodIn_of _ (by decide +kernel)) ggX12_premium_X12_fine
theorem dX12_premium_0 : decode cX12_premium 0 = .ok (.aload_n 0, 1) := by decide +kernel
theorem dX12_premium_1 : decode cX12_premium 1 = .ok (.iload_n 1, 1) := by decide +kernel
theorem dX12_premium_2 : decode cX12_premium 2 = .ok (.invokevirtual 360, 3) := by decide +kernel
theorem dX12_premium_5 : decode cX12_premium 5 = .ok (.ifCond .ne 9, 3) := by decide +kernel
theorem dX12_premium_8 : decode cX12_premium 8 = .ok (.aload_n 0, 1) := by decide +kernel
theorem dX12_premium_9 : decode cX12_premium 9 = .ok (.iconst 1, 1) := by decide +kernel
theorem dX12_premium_10 : decode cX12_premium 10 = .ok (.invokevirtual 250, 3) := by decide +kernel
theorem dX12_premium_13 : decode cX12_premium 13 = .ok (.ireturn, 1) := by decide +kernel
theorem dX12_premium_14 : decode cX12_premium 14 = .ok (.iload_n 2, 1) := by decide +kernel
theorem dX12_premium_15 : decode cX12_premium 15 = .ok (.invokestatic 354, 3) := by decide +kernel
theorem dX12_premium_18 : decode cX12_premium 18 = .ok (.ifCond .eq 15, 3) := by decide +kernel
theorem dX12_premium_21 : decode cX12_premium 21 = .ok (.iload_n 3, 1) := by decide +kernel
theorem dX12_premium_22 : decode cX12_premium 22 = .ok (.invokestatic 354, 3) := by decide +kernel
theorem dX12_premium_25 : decode cX12_premium 25 = .ok (.ifCond .eq 8, 3) := by decide +kernel
theorem dX12_premium_28 : decode cX12_premium 28 = .ok (.iload_n 2, 1) := by decide +kernel
theorem dX12_premium_29 : decode cX12_premium 29 = .ok (.iload_n 3, 1) := by decide +kernel
theorem dX12_premium_30 : decode cX12_premium 30 = .ok (.if_icmp .le 9, 3) := by decide +kernel
theorem dX12_premium_33 : decode cX12_premium 33 = .ok (.aload_n 0, 1) := by decide +kernel
theorem dX12_premium_34 : decode cX12_premium 34 = .ok (.iconst 3, 1) := by decide +kernel
theorem dX12_premium_35 : decode cX12_premium 35 = .ok (.invokevirtual 250, 3) := by decide +kernel
theorem dX12_premium_38 : decode cX12_premium 38 = .ok (.ireturn, 1) := by decide +kernel
theorem dX12_premium_39 : decode cX12_premium 39 = .ok (.lconst 0, 1) := by decide +kernel
theorem dX12_premium_40 : decode cX12_premium 40 = .ok (.lstore 4, 2) := by decide +kernel
theorem dX12_premium_42 : decode cX12_premium 42 = .ok (.iload_n 2, 1) := by decide +kernel
theorem dX12_premium_43 : decode cX12_premium 43 = .ok (.istore 6, 2) := by decide +kernel
theorem dX12_premium_45 : decode cX12_premium 45 = .ok (.iload 6, 2) := by decide +kernel
theorem dX12_premium_47 : decode cX12_premium 47 = .ok (.iload_n 3, 1) := by decide +kernel
theorem dX12_premium_48 : decode cX12_premium 48 = .ok (.if_icmp .gt 22, 3) := by decide +kernel
theorem dX12_premium_51 : decode cX12_premium 51 = .ok (.lload 4, 2) := by decide +kernel
theorem dX12_premium_53 : decode cX12_premium 53 = .ok (.aload_n 0, 1) := by decide +kernel
theorem dX12_premium_54 : decode cX12_premium 54 = .ok (.iload_n 1, 1) := by decide +kernel
theorem dX12_premium_55 : decode cX12_premium 55 = .ok (.iload 6, 2) := by decide +kernel
theorem dX12_premium_57 : decode cX12_premium 57 = .ok (.invokevirtual 372, 3) := by decide +kernel
theorem dX12_premium_60 : decode cX12_premium 60 = .ok (.i2l, 1) := by decide +kernel
theorem dX12_premium_61 : decode cX12_premium 61 = .ok (.ladd, 1) := by decide +kernel
theorem dX12_premium_62 : decode cX12_premium 62 = .ok (.lstore 4, 2) := by decide +kernel
theorem dX12_premium_64 : decode cX12_premium 64 = .ok (.iinc 6 1, 3) := by decide +kernel
theorem dX12_premium_67 : decode cX12_premium 67 = .ok (.goto (-22), 3) := by decide +kernel
theorem dX12_premium_70 : decode cX12_premium 70 = .ok (.aload_n 0, 1) := by decide +kernel
theorem dX12_premium_71 : decode cX12_premium 71 = .ok (.lload 4, 2) := by decide +kernel
theorem dX12_premium_73 : decode cX12_premium 73 = .ok (.ldc2_w 375, 3) := by decide +kernel
theorem dX12_premium_76 : decode cX12_premium 76 = .ok (.ldiv, 1) := by decide +kernel
theorem dX12_premium_77 : decode cX12_premium 77 = .ok (.l2i, 1) := by decide +kernel
theorem dX12_premium_78 : decode cX12_premium 78 = .ok (.invokevirtual 247, 3) := by decide +kernel
theorem dX12_premium_81 : decode cX12_premium 81 = .ok (.ireturn, 1) := by decide +kernel
set_option maxRecDepth 20000 in
theorem ggX12_dearest_X12_isLoan : GoodIn wsX12_dearest wsX12_isLoan := goodIn_r _ [6, 7, 8, 9, 10, 5, 11, 67, 68, 69, 70, 71, 72, 73, 74, 75, 76, 77, 78, 79, 80, 81, 82, 83, 84, 85, 86, 87, 88, 89, 90, 91, 92, 93, 94, 95, 96, 97, 98, 99, 100, 101, 102, 103, 104, 105, 106, 107, 108, 109, 110, 111, 112, 113, 114, 115, 116, 117] (by decide +kernel) (by decide +kernel)
set_option maxRecDepth 20000 in
theorem gX12_dearest_X12_isLoan : GoodIn wsX12_dearest (wsV RX12 360 RX12 yX12_isLoan wsX12_isLoan) := goodIn_app (goodIn_of _ (by decide +kernel)) ggX12_dearest_X12_isLoan
set_option maxRecDepth 20000 in
theorem ggX12_dearest_X12_no : GoodIn wsX12_dearest wsX12_no := goodIn_r _ [15, 16, 67, 68, 69, 70, 71, 72, 73, 74, 75, 76, 77, 78, 79, 80, 81, 82, 83, 84, 85, 86, 87, 88, 89, 90, 91, 92, 93, 94, 95, 96, 97, 98, 99, 100, 101, 102, 103, 104, 105, 106, 107, 108, 109, 110, 111, 112, 113, 114, 115, 116, 117] (by decide +kernel) (by decide +kernel)
set_option maxRecDepth 20000 in
theorem gX12_dearest_X12_no : GoodIn wsX12_dearest (wsV RX12 250 RX12 yX12_no wsX12_no) := goodIn_app (goodIn_of _ (by decide +kernel)) ggX12_dearest_X12_no
set_option maxRecDepth 20000 in
theorem ggX12_dearest_X12_costOf : GoodIn wsX12_dearest wsX12_costOf := goodIn_r _ [20, 21, 22, 23, 24, 25, 26, 27, 28, 29, 5, 30, 31, 1, 32, 33, 34, 35, 36, 37, 38, 39, 40, 41, 42, 43, 44, 45, 46, 47, 48, 49, 50, 51, 52, 53, 54, 55, 56, 57, 58, 67, 68, 69, 70, 71, 72, 73, 74, 75, 76, 77, 78, 79, 80, 81, 82, 83, 84, 85, 86, 87, 88, 89, 90, 91, 92, 93, 94, 95, 96, 97, 98, 99, 100, 101, 102, 103, 104, 105, 106, 107, 108, 109, 110, 111, 112, 113, 114, 115, 116, 117] (by decide +kernel) (by decide +kernel)
set_option maxRecDepth 20000 in
theorem gX12_dearest_X12_costOf : GoodIn wsX12_dearest (wsV RX12 372 RX12 yX12_costOf wsX12_costOf) := goodIn_app (goodIn_of _ (by decide +kernel)) ggX12_dearest_X12_costOf
set_option maxRecDepth 20000 in
theorem ggX12_dearest_X12_lengthOf : GoodIn wsX12_dearest wsX12_lengthOf := goodIn_r _ [62, 31, 26, 32, 67, 68, 69, 70, 71, 72, 73, 74, 75, 76, 77, 78, 79, 80, 81, 82, 83, 84, 85, 86, 87, 88, 89, 90, 91, 92, 93, 94, 95, 96, 97, 98, 99, 100, 101, 102, 103, 104, 105, 106, 107, 108, 109, 110, 111, 112, 113, 114, 115, 116, 117] (by decide +kernel) (by decide +kernel)
set_option maxRecDepth 20000 in
theorem gX12_dearest_X12_lengthOf : GoodIn wsX12_dearest (wsV RX12 64 RX12 yX12_lengthOf wsX12_lengthOf) := goodIn_app (goodIn_of _ (by decide +kernel)) ggX12_dearest_X12_lengthOf
set_option maxRecDepth 20000 in
theorem ggX12_dearest_X12_fine : GoodIn wsX12_dearest wsX12_fine := goodIn_r _ [66, 16, 67, 68, 69, 70, 71, 72, 73, 74, 75, 76, 77, 78, 79, 80, 81, 82, 83, 84, 85, 86, 87, 88, 89, 90, 91, 92, 93, 94, 95, 96, 97, 98, 99, 100, 101, 102, 103, 104, 105, 106, 107, 108, 109, 110, 111, 112, 113, 114, 115, 116, 117] (by decide +kernel) (by decide +kernel)
set_option maxRecDepth 20000 in
theorem gX12_dearest_X12_fine : GoodIn wsX12_dearest (wsV RX12 247 RX12 yX12_fine wsX12_fine) := goodIn_app (goodIn_of _ (by decide +kernel)) ggX12_dearest_X12_fine
theorem dX12_dearest_0 : decode cX12_dearest 0 = .ok (.aload_n 0, 1) := by decide +kernel
theorem dX12_dearest_1 : decode cX12_dearest 1 = .ok (.iload_n 1, 1) := by decide +kernel
theorem dX12_dearest_2 : decode cX12_dearest 2 = .ok (.invokevirtual 360, 3) := by decide +kernel
theorem dX12_dearest_5 : decode cX12_dearest 5 = .ok (.ifCond .ne 9, 3) := by decide +kernel
theorem dX12_dearest_8 : decode cX12_dearest 8 = .ok (.aload_n 0, 1) := by decide +kernel
theorem dX12_dearest_9 : decode cX12_dearest 9 = .ok (.iconst 1, 1) := by decide +kernel
theorem dX12_dearest_10 : decode cX12_dearest 10 = .ok (.invokevirtual 250, 3) := by decide +kernel
theorem dX12_dearest_13 : decode cX12_dearest 13 = .ok (.ireturn, 1) := by decide +kernel
theorem dX12_dearest_14 : decode cX12_dearest 14 = .ok (.aload_n 0, 1) := by decide +kernel
theorem dX12_dearest_15 : decode cX12_dearest 15 = .ok (.getfield 61, 3) := by decide +kernel
theorem dX12_dearest_18 : decode cX12_dearest 18 = .ok (.iload_n 1, 1) := by decide +kernel
theorem dX12_dearest_19 : decode cX12_dearest 19 = .ok (.iaload, 1) := by decide +kernel
theorem dX12_dearest_20 : decode cX12_dearest 20 = .ok (.istore_n 2, 1) := by decide +kernel
theorem dX12_dearest_21 : decode cX12_dearest 21 = .ok (.aload_n 0, 1) := by decide +kernel
theorem dX12_dearest_22 : decode cX12_dearest 22 = .ok (.iload_n 1, 1) := by decide +kernel
theorem dX12_dearest_23 : decode cX12_dearest 23 = .ok (.iload_n 2, 1) := by decide +kernel
theorem dX12_dearest_24 : decode cX12_dearest 24 = .ok (.invokevirtual 372, 3) := by decide +kernel
theorem dX12_dearest_27 : decode cX12_dearest 27 = .ok (.istore_n 3, 1) := by decide +kernel
theorem dX12_dearest_28 : decode cX12_dearest 28 = .ok (.iload_n 2, 1) := by decide +kernel
theorem dX12_dearest_29 : decode cX12_dearest 29 = .ok (.iconst 1, 1) := by decide +kernel
theorem dX12_dearest_30 : decode cX12_dearest 30 = .ok (.iadd, 1) := by decide +kernel
theorem dX12_dearest_31 : decode cX12_dearest 31 = .ok (.istore 4, 2) := by decide +kernel
theorem dX12_dearest_33 : decode cX12_dearest 33 = .ok (.iload 4, 2) := by decide +kernel
theorem dX12_dearest_35 : decode cX12_dearest 35 = .ok (.aload_n 0, 1) := by decide +kernel
theorem dX12_dearest_36 : decode cX12_dearest 36 = .ok (.getfield 61, 3) := by decide +kernel
theorem dX12_dearest_39 : decode cX12_dearest 39 = .ok (.iload_n 1, 1) := by decide +kernel
theorem dX12_dearest_40 : decode cX12_dearest 40 = .ok (.iaload, 1) := by decide +kernel
theorem dX12_dearest_41 : decode cX12_dearest 41 = .ok (.aload_n 0, 1) := by decide +kernel
theorem dX12_dearest_42 : decode cX12_dearest 42 = .ok (.iload_n 1, 1) := by decide +kernel
theorem dX12_dearest_43 : decode cX12_dearest 43 = .ok (.invokevirtual 64, 3) := by decide +kernel
theorem dX12_dearest_46 : decode cX12_dearest 46 = .ok (.iadd, 1) := by decide +kernel
theorem dX12_dearest_47 : decode cX12_dearest 47 = .ok (.if_icmp .ge 33, 3) := by decide +kernel
theorem dX12_dearest_50 : decode cX12_dearest 50 = .ok (.aload_n 0, 1) := by decide +kernel
theorem dX12_dearest_51 : decode cX12_dearest 51 = .ok (.iload_n 1, 1) := by decide +kernel
theorem dX12_dearest_52 : decode cX12_dearest 52 = .ok (.iload 4, 2) := by decide +kernel
theorem dX12_dearest_54 : decode cX12_dearest 54 = .ok (.invokevirtual 372, 3) := by decide +kernel
theorem dX12_dearest_57 : decode cX12_dearest 57 = .ok (.istore 5, 2) := by decide +kernel
theorem dX12_dearest_59 : decode cX12_dearest 59 = .ok (.iload 5, 2) := by decide +kernel
theorem dX12_dearest_61 : decode cX12_dearest 61 = .ok (.iload_n 3, 1) := by decide +kernel
theorem dX12_dearest_62 : decode cX12_dearest 62 = .ok (.if_icmp .gt 6, 3) := by decide +kernel
theorem dX12_dearest_65 : decode cX12_dearest 65 = .ok (.goto 9, 3) := by decide +kernel
theorem dX12_dearest_68 : decode cX12_dearest 68 = .ok (.iload 5, 2) := by decide +kernel
theorem dX12_dearest_70 : decode cX12_dearest 70 = .ok (.istore_n 3, 1) := by decide +kernel
theorem dX12_dearest_71 : decode cX12_dearest 71 = .ok (.iload 4, 2) := by decide +kernel
theorem dX12_dearest_73 : decode cX12_dearest 73 = .ok (.istore_n 2, 1) := by decide +kernel
theorem dX12_dearest_74 : decode cX12_dearest 74 = .ok (.iinc 4 1, 3) := by decide +kernel
theorem dX12_dearest_77 : decode cX12_dearest 77 = .ok (.goto (-44), 3) := by decide +kernel
theorem dX12_dearest_80 : decode cX12_dearest 80 = .ok (.aload_n 0, 1) := by decide +kernel
theorem dX12_dearest_81 : decode cX12_dearest 81 = .ok (.iload_n 2, 1) := by decide +kernel
theorem dX12_dearest_82 : decode cX12_dearest 82 = .ok (.invokevirtual 247, 3) := by decide +kernel
theorem dX12_dearest_85 : decode cX12_dearest 85 = .ok (.ireturn, 1) := by decide +kernel
set_option maxRecDepth 20000 in
theorem ggX12_harms_X12_isThing : GoodIn wsX12_harms wsX12_isThing := goodIn_r _ [5, 6, 7, 8, 4, 9, 34, 35, 36, 37, 38, 39, 40, 41, 42, 43, 44, 45, 46, 47, 48, 49, 50, 51, 52, 53, 54, 55, 56, 57, 58, 59, 60, 61, 62, 63, 64, 65, 66, 67, 68, 69, 70, 71, 72, 73, 74, 75, 76, 77, 78, 79, 80, 81, 82, 83, 84] (by decide +kernel) (by decide +kernel)
set_option maxRecDepth 20000 in
theorem gX12_harms_X12_isThing : GoodIn wsX12_harms (wsV RX12 337 RX12 yX12_isThing wsX12_isThing) := goodIn_app (goodIn_of _ (by decide +kernel)) ggX12_harms_X12_isThing
set_option maxRecDepth 20000 in
theorem ggX12_harms_X12_no : GoodIn wsX12_harms wsX12_no := goodIn_r _ [13, 14, 34, 35, 36, 37, 38, 39, 40, 41, 42, 43, 44, 45, 46, 47, 48, 49, 50, 51, 52, 53, 54, 55, 56, 57, 58, 59, 60, 61, 62, 63, 64, 65, 66, 67, 68, 69, 70, 71, 72, 73, 74, 75, 76, 77, 78, 79, 80, 81, 82, 83, 84] (by decide +kernel) (by decide +kernel)
set_option maxRecDepth 20000 in
theorem gX12_harms_X12_no : GoodIn wsX12_harms (wsV RX12 250 RX12 yX12_no wsX12_no) := goodIn_app (goodIn_of _ (by decide +kernel)) ggX12_harms_X12_no
set_option maxRecDepth 20000 in
theorem ggX12_harms_X12_isDay : GoodIn wsX12_harms wsX12_isDay := goodIn_r _ [17, 7, 8, 4, 9] (by decide +kernel) (by decide +kernel)
set_option maxRecDepth 20000 in
theorem gX12_harms_X12_isDay : GoodIn wsX12_harms (va_wsS RX12 354 yX12_isDay wsX12_isDay) := goodIn_app (goodIn_of _ (by decide +kernel)) ggX12_harms_X12_isDay
set_option maxRecDepth 20000 in
theorem ggX12_harms_X12_harmsOn : GoodIn wsX12_harms wsX12_harmsOn := goodIn_r _ [21, 22, 23, 24, 25, 4, 26, 27, 28, 29, 34, 35, 36, 37, 38, 39, 40, 41, 42, 43, 44, 45, 46, 47, 48, 49, 50, 51, 52, 53, 54, 55, 56, 57, 58, 59, 60, 61, 62, 63, 64, 65, 66, 67, 68, 69, 70, 71, 72, 73, 74, 75, 76, 77, 78, 79, 80, 81, 82, 83, 84] (by decide +kernel) (by decide +kernel)
set_option maxRecDepth 20000 in
theorem gX12_harms_X12_harmsOn : GoodIn wsX12_harms (wsV RX12 186 RX12 yX12_harmsOn wsX12_harmsOn) := goodIn_app (goodIn_of _ (by decide +kernel)) ggX12_harms_X12_harmsOn
set_option maxRecDepth 20000 in
theorem ggX12_harms_X12_fine : GoodIn wsX12_harms wsX12_fine := goodIn_r _ [33, 14, 34, 35, 36, 37, 38, 39, 40, 41, 42, 43, 44, 45, 46, 47, 48, 49, 50, 51, 52, 53, 54, 55, 56, 57, 58, 59, 60, 61, 62, 63, 64, 65, 66, 67, 68, 69, 70, 71, 72, 73, 74, 75, 76, 77, 78, 79, 80, 81, 82, 83, 84] (by decide +kernel) (by decide +kernel)
set_option maxRecDepth 20000 in
theorem gX12_harms_X12_fine : GoodIn wsX12_harms (wsV RX12 247 RX12 yX12_fine wsX12_fine) := goodIn_app (goodIn_of _ (by decide +kernel)) ggX12_harms_X12_fine
theorem dX12_harms_0 : decode cX12_harms 0 = .ok (.aload_n 0, 1) := by decide +kernel
theorem dX12_harms_1 : decode cX12_harms 1 = .ok (.iload_n 1, 1) := by decide +kernel
theorem dX12_harms_2 : decode cX12_harms 2 = .ok (.invokevirtual 337, 3) := by decide +kernel
theorem dX12_harms_5 : decode cX12_harms 5 = .ok (.ifCond .ne 11, 3) := by decide +kernel
theorem dX12_harms_8 : decode cX12_harms 8 = .ok (.aload_n 0, 1) := by decide +kernel
theorem dX12_harms_9 : decode cX12_harms 9 = .ok (.iconst 1, 1) := by decide +kernel
theorem dX12_harms_10 : decode cX12_harms 10 = .ok (.invokevirtual 250, 3) := by decide +kernel
theorem dX12_harms_13 : decode cX12_harms 13 = .ok (.goto 28, 3) := by decide +kernel
theorem dX12_harms_16 : decode cX12_harms 16 = .ok (.iload_n 2, 1) := by decide +kernel
theorem dX12_harms_17 : decode cX12_harms 17 = .ok (.invokestatic 354, 3) := by decide +kernel
theorem dX12_harms_20 : decode cX12_harms 20 = .ok (.ifCond .ne 11, 3) := by decide +kernel
theorem dX12_harms_23 : decode cX12_harms 23 = .ok (.aload_n 0, 1) := by decide +kernel
theorem dX12_harms_24 : decode cX12_harms 24 = .ok (.iconst 3, 1) := by decide +kernel
theorem dX12_harms_25 : decode cX12_harms 25 = .ok (.invokevirtual 250, 3) := by decide +kernel
theorem dX12_harms_28 : decode cX12_harms 28 = .ok (.goto 13, 3) := by decide +kernel
theorem dX12_harms_31 : decode cX12_harms 31 = .ok (.aload_n 0, 1) := by decide +kernel
theorem dX12_harms_32 : decode cX12_harms 32 = .ok (.aload_n 0, 1) := by decide +kernel
theorem dX12_harms_33 : decode cX12_harms 33 = .ok (.iload_n 1, 1) := by decide +kernel
theorem dX12_harms_34 : decode cX12_harms 34 = .ok (.iload_n 2, 1) := by decide +kernel
theorem dX12_harms_35 : decode cX12_harms 35 = .ok (.invokevirtual 186, 3) := by decide +kernel
theorem dX12_harms_38 : decode cX12_harms 38 = .ok (.invokevirtual 247, 3) := by decide +kernel
theorem dX12_harms_41 : decode cX12_harms 41 = .ok (.ireturn, 1) := by decide +kernel
set_option maxRecDepth 20000 in
theorem ggX12_note_X12_isThing : GoodIn wsX12_note wsX12_isThing := goodIn_r _ [5, 6, 7, 8, 4, 9, 111, 112, 113, 114, 115, 116, 117, 118, 119, 120, 121, 122, 123, 124, 125, 126, 127, 128, 129, 130, 131, 132, 133, 134, 135, 136, 137, 138, 139, 140, 141, 142, 143, 144, 145, 146, 147, 148, 149, 150, 151, 152, 153, 154, 155, 156, 157, 158, 159, 160, 161] (by decide +kernel) (by decide +kernel)
set_option maxRecDepth 20000 in
theorem gX12_note_X12_isThing : GoodIn wsX12_note (wsV RX12 337 RX12 yX12_isThing wsX12_isThing) := goodIn_app (goodIn_of _ (by decide +kernel)) ggX12_note_X12_isThing
set_option maxRecDepth 20000 in
theorem ggX12_note_X12_no : GoodIn wsX12_note wsX12_no := goodIn_r _ [13, 14, 111, 112, 113, 114, 115, 116, 117, 118, 119, 120, 121, 122, 123, 124, 125, 126, 127, 128, 129, 130, 131, 132, 133, 134, 135, 136, 137, 138, 139, 140, 141, 142, 143, 144, 145, 146, 147, 148, 149, 150, 151, 152, 153, 154, 155, 156, 157, 158, 159, 160, 161] (by decide +kernel) (by decide +kernel)
set_option maxRecDepth 20000 in
theorem gX12_note_X12_no : GoodIn wsX12_note (wsV RX12 250 RX12 yX12_no wsX12_no) := goodIn_app (goodIn_of _ (by decide +kernel)) ggX12_note_X12_no
set_option maxRecDepth 20000 in
theorem ggX12_note_X12_isDay : GoodIn wsX12_note wsX12_isDay := goodIn_r _ [17, 7, 8, 4, 9] (by decide +kernel) (by decide +kernel)
set_option maxRecDepth 20000 in
theorem gX12_note_X12_isDay : GoodIn wsX12_note (va_wsS RX12 354 yX12_isDay wsX12_isDay) := goodIn_app (goodIn_of _ (by decide +kernel)) ggX12_note_X12_isDay
set_option maxRecDepth 20000 in
theorem ggX12_note_X12_inForce : GoodIn wsX12_note wsX12_inForce := goodIn_r _ [21, 22, 23, 24, 111, 112, 113, 114, 115, 116, 117, 118, 119, 120, 121, 122, 123, 124, 125, 126, 127, 128, 129, 130, 131, 132, 133, 134, 135, 136, 137, 138, 139, 140, 141, 142, 143, 144, 145, 146, 147, 148, 149, 150, 151, 152, 153, 154, 155, 156, 157, 158, 159, 160, 161] (by decide +kernel) (by decide +kernel)
set_option maxRecDepth 20000 in
theorem gX12_note_X12_inForce : GoodIn wsX12_note (wsV RX12 154 RX12 yX12_inForce wsX12_inForce) := goodIn_app (goodIn_of _ (by decide +kernel)) ggX12_note_X12_inForce
set_option maxRecDepth 20000 in
theorem ggX12_note_X12_writeReport : GoodIn wsX12_note wsX12_writeReport := goodIn_r _ [28, 29, 30, 31, 32, 4, 33, 34, 35, 36, 37, 38, 39, 40, 41, 42, 43, 44, 45, 46, 47, 48, 49, 50, 51, 52, 53, 54, 55, 56, 57, 58, 59, 60, 61, 62, 63, 64, 65, 66, 67, 68, 69, 70, 71, 72, 73, 74, 75, 76, 77, 78, 79, 80, 81, 82, 83, 84, 85, 86, 87, 88, 89, 90, 91, 92, 93, 94, 95, 96, 97, 98, 99, 100, 101, 102, 111, 112, 113, 114, 115, 116, 117, 118, 119, 120, 121, 122, 123, 124, 125, 126, 127, 128, 129, 130, 131, 132, 133, 134, 135, 136, 137, 138, 139, 140, 141, 142, 143, 144, 145, 146, 147, 148, 149, 150, 151, 152, 153, 154, 155, 156, 157, 158, 159, 160, 161, 162, 163, 164, 165] (by decide +kernel) (by decide +kernel)
set_option maxRecDepth 20000 in
theorem gX12_note_X12_writeReport : GoodIn wsX12_note (wsV RX12 377 RX12 yX12_writeReport wsX12_writeReport) := goodIn_app (goodIn_of _ (by decide +kernel)) ggX12_note_X12_writeReport
set_option maxRecDepth 20000 in
theorem ggX12_note_X12_tell : GoodIn wsX12_note wsX12_tell := goodIn_r _ [106, 29, 95, 7, 8, 4, 9, 107, 108, 109, 110, 14, 10, 11, 12, 13, 111, 112, 113, 114, 115, 116, 117, 118, 119, 120, 121, 122, 123, 124, 125, 126, 127, 128, 129, 130, 131, 132, 133, 134, 135, 136, 137, 138, 139, 140, 141, 142, 143, 144, 145, 146, 147, 148, 149, 150, 151, 152, 153, 154, 155, 156, 157, 158, 159, 160, 161] (by decide +kernel) (by decide +kernel)
set_option maxRecDepth 20000 in
theorem gX12_note_X12_tell : GoodIn wsX12_note (wsV RX12 380 RX12 yX12_tell wsX12_tell) := goodIn_app (goodIn_of _ (by decide +kernel)) ggX12_note_X12_tell
theorem dX12_note_0 : decode cX12_note 0 = .ok (.aload_n 0, 1) := by decide +kernel
theorem dX12_note_1 : decode cX12_note 1 = .ok (.iload_n 1, 1) := by decide +kernel
theorem dX12_note_2 : decode cX12_note 2 = .ok (.invokevirtual 337, 3) := by decide +kernel
theorem dX12_note_5 : decode cX12_note 5 = .ok (.ifCond .ne 9, 3) := by decide +kernel
theorem dX12_note_8 : decode cX12_note 8 = .ok (.aload_n 0, 1) := by decide +kernel
theorem dX12_note_9 : decode cX12_note 9 = .ok (.iconst 1, 1) := by decide +kernel
theorem dX12_note_10 : decode cX12_note 10 = .ok (.invokevirtual 250, 3) := by decide +kernel
theorem dX12_note_13 : decode cX12_note 13 = .ok (.ireturn, 1) := by decide +kernel
theorem dX12_note_14 : decode cX12_note 14 = .ok (.iload_n 2, 1) := by decide +kernel
theorem dX12_note_15 : decode cX12_note 15 = .ok (.invokestatic 354, 3) := by decide +kernel
theorem dX12_note_18 : decode cX12_note 18 = .ok (.ifCond .ne 9, 3) := by decide +kernel
theorem dX12_note_21 : decode cX12_note 21 = .ok (.aload_n 0, 1) := by decide +kernel
theorem dX12_note_22 : decode cX12_note 22 = .ok (.iconst 3, 1) := by decide +kernel
theorem dX12_note_23 : decode cX12_note 23 = .ok (.invokevirtual 250, 3) := by decide +kernel
theorem dX12_note_26 : decode cX12_note 26 = .ok (.ireturn, 1) := by decide +kernel
theorem dX12_note_27 : decode cX12_note 27 = .ok (.aload_n 0, 1) := by decide +kernel
theorem dX12_note_28 : decode cX12_note 28 = .ok (.iload_n 1, 1) := by decide +kernel
theorem dX12_note_29 : decode cX12_note 29 = .ok (.iload_n 2, 1) := by decide +kernel
theorem dX12_note_30 : decode cX12_note 30 = .ok (.invokevirtual 154, 3) := by decide +kernel
theorem dX12_note_33 : decode cX12_note 33 = .ok (.istore 4, 2) := by decide +kernel
theorem dX12_note_35 : decode cX12_note 35 = .ok (.iload 4, 2) := by decide +kernel
theorem dX12_note_37 : decode cX12_note 37 = .ok (.ifCond .ge 9, 3) := by decide +kernel
theorem dX12_note_40 : decode cX12_note 40 = .ok (.aload_n 0, 1) := by decide +kernel
theorem dX12_note_41 : decode cX12_note 41 = .ok (.iconst 1, 1) := by decide +kernel
theorem dX12_note_42 : decode cX12_note 42 = .ok (.invokevirtual 250, 3) := by decide +kernel
theorem dX12_note_45 : decode cX12_note 45 = .ok (.ireturn, 1) := by decide +kernel
theorem dX12_note_46 : decode cX12_note 46 = .ok (.aload_n 0, 1) := by decide +kernel
theorem dX12_note_47 : decode cX12_note 47 = .ok (.iload 4, 2) := by decide +kernel
theorem dX12_note_49 : decode cX12_note 49 = .ok (.invokevirtual 377, 3) := by decide +kernel
theorem dX12_note_52 : decode cX12_note 52 = .ok (.aload_n 0, 1) := by decide +kernel
theorem dX12_note_53 : decode cX12_note 53 = .ok (.iload_n 3, 1) := by decide +kernel
theorem dX12_note_54 : decode cX12_note 54 = .ok (.invokevirtual 380, 3) := by decide +kernel
theorem dX12_note_57 : decode cX12_note 57 = .ok (.ireturn, 1) := by decide +kernel
set_option maxRecDepth 20000 in
theorem ggX12_reportWhy_X12_isThing : GoodIn wsX12_reportWhy wsX12_isThing := goodIn_r _ [5, 6, 7, 8, 4, 9, 24, 25, 26, 27, 28, 29, 30, 31, 32, 33, 34, 35, 36, 37, 38, 39, 40, 41, 42, 43, 44, 45, 46, 47, 48, 49, 50, 51, 52, 53, 54, 55, 56, 57, 58, 59, 60, 61, 62, 63, 64, 65, 66, 67, 68, 69, 70, 71, 72, 73, 74] (by decide +kernel) (by decide +kernel)
set_option maxRecDepth 20000 in
theorem gX12_reportWhy_X12_isThing : GoodIn wsX12_reportWhy (wsV RX12 337 RX12 yX12_isThing wsX12_isThing) := goodIn_app (goodIn_of _ (by decide +kernel)) ggX12_reportWhy_X12_isThing
set_option maxRecDepth 20000 in
theorem ggX12_reportWhy_X12_isDay : GoodIn wsX12_reportWhy wsX12_isDay := goodIn_r _ [12, 7, 8, 4, 9] (by decide +kernel) (by decide +kernel)
set_option maxRecDepth 20000 in
theorem gX12_reportWhy_X12_isDay : GoodIn wsX12_reportWhy (va_wsS RX12 354 yX12_isDay wsX12_isDay) := goodIn_app (goodIn_of _ (by decide +kernel)) ggX12_reportWhy_X12_isDay
set_option maxRecDepth 20000 in
theorem ggX12_reportWhy_X12_reportOn : GoodIn wsX12_reportWhy wsX12_reportOn := goodIn_r _ [16, 17, 18, 19, 20, 4, 21, 22, 23, 24, 25, 26, 27, 28, 29, 30, 31, 32, 33, 34, 35, 36, 37, 38, 39, 40, 41, 42, 43, 44, 45, 46, 47, 48, 49, 50, 51, 52, 53, 54, 55, 56, 57, 58, 59, 60, 61, 62, 63, 64, 65, 66, 67, 68, 69, 70, 71, 72, 73, 74] (by decide +kernel) (by decide +kernel)
set_option maxRecDepth 20000 in
theorem gX12_reportWhy_X12_reportOn : GoodIn wsX12_reportWhy (wsV RX12 357 RX12 yX12_reportOn wsX12_reportOn) := goodIn_app (goodIn_of _ (by decide +kernel)) ggX12_reportWhy_X12_reportOn
theorem dX12_reportWhy_0 : decode cX12_reportWhy 0 = .ok (.aload_n 0, 1) := by decide +kernel
theorem dX12_reportWhy_1 : decode cX12_reportWhy 1 = .ok (.iload_n 1, 1) := by decide +kernel
theorem dX12_reportWhy_2 : decode cX12_reportWhy 2 = .ok (.invokevirtual 337, 3) := by decide +kernel
theorem dX12_reportWhy_5 : decode cX12_reportWhy 5 = .ok (.ifCond .ne 7, 3) := by decide +kernel
theorem dX12_reportWhy_8 : decode cX12_reportWhy 8 = .ok (.iconst 1, 1) := by decide +kernel
theorem dX12_reportWhy_9 : decode cX12_reportWhy 9 = .ok (.goto 28, 3) := by decide +kernel
theorem dX12_reportWhy_12 : decode cX12_reportWhy 12 = .ok (.iload_n 2, 1) := by decide +kernel
theorem dX12_reportWhy_13 : decode cX12_reportWhy 13 = .ok (.invokestatic 354, 3) := by decide +kernel
theorem dX12_reportWhy_16 : decode cX12_reportWhy 16 = .ok (.ifCond .ne 7, 3) := by decide +kernel
theorem dX12_reportWhy_19 : decode cX12_reportWhy 19 = .ok (.iconst 3, 1) := by decide +kernel
theorem dX12_reportWhy_20 : decode cX12_reportWhy 20 = .ok (.goto 17, 3) := by decide +kernel
theorem dX12_reportWhy_23 : decode cX12_reportWhy 23 = .ok (.aload_n 0, 1) := by decide +kernel
theorem dX12_reportWhy_24 : decode cX12_reportWhy 24 = .ok (.iload_n 1, 1) := by decide +kernel
theorem dX12_reportWhy_25 : decode cX12_reportWhy 25 = .ok (.iload_n 2, 1) := by decide +kernel
theorem dX12_reportWhy_26 : decode cX12_reportWhy 26 = .ok (.invokevirtual 357, 3) := by decide +kernel
theorem dX12_reportWhy_29 : decode cX12_reportWhy 29 = .ok (.ifCond .ge 7, 3) := by decide +kernel
theorem dX12_reportWhy_32 : decode cX12_reportWhy 32 = .ok (.iconst 1, 1) := by decide +kernel
theorem dX12_reportWhy_33 : decode cX12_reportWhy 33 = .ok (.goto 4, 3) := by decide +kernel
theorem dX12_reportWhy_36 : decode cX12_reportWhy 36 = .ok (.iconst 0, 1) := by decide +kernel
theorem dX12_reportWhy_37 : decode cX12_reportWhy 37 = .ok (.ireturn, 1) := by decide +kernel
set_option maxRecDepth 20000 in
theorem ggX12_damage_X12_reportWhy : GoodIn wsX12_damage wsX12_reportWhy := goodIn_r _ [5, 6, 7, 8, 4, 9, 10, 11, 12, 13, 14, 15, 16, 17, 18, 19, 20, 21, 22, 23, 24, 25, 26, 27, 62, 63, 64, 65, 66, 67, 68, 69, 70, 71, 72, 73, 74, 75, 76, 77, 78, 79, 80, 81, 82, 83, 84, 85, 86, 87, 88, 89, 90, 91, 92, 93, 94, 95, 96, 97, 98, 99, 100, 101, 102, 103, 104, 105, 106, 107, 108, 109, 110, 111, 112] (by decide +kernel) (by decide +kernel)
set_option maxRecDepth 20000 in
theorem gX12_damage_X12_reportWhy : GoodIn wsX12_damage (wsV RX12 383 RX12 yX12_reportWhy wsX12_reportWhy) := goodIn_app (goodIn_of _ (by decide +kernel)) ggX12_damage_X12_reportWhy
set_option maxRecDepth 20000 in
theorem ggX12_damage_X12_no : GoodIn wsX12_damage wsX12_no := goodIn_r _ [31, 32, 62, 63, 64, 65, 66, 67, 68, 69, 70, 71, 72, 73, 74, 75, 76, 77, 78, 79, 80, 81, 82, 83, 84, 85, 86, 87, 88, 89, 90, 91, 92, 93, 94, 95, 96, 97, 98, 99, 100, 101, 102, 103, 104, 105, 106, 107, 108, 109, 110, 111, 112] (by decide +kernel) (by decide +kernel)
set_option maxRecDepth 20000 in
theorem gX12_damage_X12_no : GoodIn wsX12_damage (wsV RX12 250 RX12 yX12_no wsX12_no) := goodIn_app (goodIn_of _ (by decide +kernel)) ggX12_damage_X12_no
set_option maxRecDepth 20000 in
theorem ggX12_damage_X12_reportOn : GoodIn wsX12_damage wsX12_reportOn := goodIn_r _ [20, 21, 22, 23, 24, 4, 25, 26, 27, 62, 63, 64, 65, 66, 67, 68, 69, 70, 71, 72, 73, 74, 75, 76, 77, 78, 79, 80, 81, 82, 83, 84, 85, 86, 87, 88, 89, 90, 91, 92, 93, 94, 95, 96, 97, 98, 99, 100, 101, 102, 103, 104, 105, 106, 107, 108, 109, 110, 111, 112] (by decide +kernel) (by decide +kernel)
set_option maxRecDepth 20000 in
theorem gX12_damage_X12_reportOn : GoodIn wsX12_damage (wsV RX12 357 RX12 yX12_reportOn wsX12_reportOn) := goodIn_app (goodIn_of _ (by decide +kernel)) ggX12_damage_X12_reportOn
set_option maxRecDepth 20000 in
theorem ggX12_damage_X12_damageOf : GoodIn wsX12_damage wsX12_damageOf := goodIn_r _ [36, 37, 38, 39, 40, 27, 21, 41, 42, 43, 4, 44, 22, 23, 24, 25, 26, 45, 46, 47, 48, 49, 50, 51, 52, 53, 54, 55, 56, 57, 62, 63, 64, 65, 66, 67, 68, 69, 70, 71, 72, 73, 74, 75, 76, 77, 78, 79, 80, 81, 82, 83, 84, 85, 86, 87, 88, 89, 90, 91, 92, 93, 94, 95, 96, 97, 98, 99, 100, 101, 102, 103, 104, 105, 106, 107, 108, 109, 110, 111, 112] (by decide +kernel) (by decide +kernel)
set_option maxRecDepth 20000 in
theorem gX12_damage_X12_damageOf : GoodIn wsX12_damage (wsV RX12 178 RX12 yX12_damageOf wsX12_damageOf) := goodIn_app (goodIn_of _ (by decide +kernel)) ggX12_damage_X12_damageOf
set_option maxRecDepth 20000 in
theorem ggX12_damage_X12_fine : GoodIn wsX12_damage wsX12_fine := goodIn_r _ [61, 32, 62, 63, 64, 65, 66, 67, 68, 69, 70, 71, 72, 73, 74, 75, 76, 77, 78, 79, 80, 81, 82, 83, 84, 85, 86, 87, 88, 89, 90, 91, 92, 93, 94, 95, 96, 97, 98, 99, 100, 101, 102, 103, 104, 105, 106, 107, 108, 109, 110, 111, 112] (by decide +kernel) (by decide +kernel)
set_option maxRecDepth 20000 in
theorem gX12_damage_X12_fine : GoodIn wsX12_damage (wsV RX12 247 RX12 yX12_fine wsX12_fine) := goodIn_app (goodIn_of _ (by decide +kernel)) ggX12_damage_X12_fine
theorem dX12_damage_0 : decode cX12_damage 0 = .ok (.aload_n 0, 1) := by decide +kernel
theorem dX12_damage_1 : decode cX12_damage 1 = .ok (.iload_n 1, 1) := by decide +kernel
theorem dX12_damage_2 : decode cX12_damage 2 = .ok (.iload_n 2, 1) := by decide +kernel
theorem dX12_damage_3 : decode cX12_damage 3 = .ok (.invokevirtual 383, 3) := by decide +kernel
theorem dX12_damage_6 : decode cX12_damage 6 = .ok (.istore_n 3, 1) := by decide +kernel
theorem dX12_damage_7 : decode cX12_damage 7 = .ok (.iload_n 3, 1) := by decide +kernel
theorem dX12_damage_8 : decode cX12_damage 8 = .ok (.ifCond .le 11, 3) := by decide +kernel
theorem dX12_damage_11 : decode cX12_damage 11 = .ok (.aload_n 0, 1) := by decide +kernel
theorem dX12_damage_12 : decode cX12_damage 12 = .ok (.iload_n 3, 1) := by decide +kernel
theorem dX12_damage_13 : decode cX12_damage 13 = .ok (.invokevirtual 250, 3) := by decide +kernel
theorem dX12_damage_16 : decode cX12_damage 16 = .ok (.goto 17, 3) := by decide +kernel
theorem dX12_damage_19 : decode cX12_damage 19 = .ok (.aload_n 0, 1) := by decide +kernel
theorem dX12_damage_20 : decode cX12_damage 20 = .ok (.aload_n 0, 1) := by decide +kernel
theorem dX12_damage_21 : decode cX12_damage 21 = .ok (.aload_n 0, 1) := by decide +kernel
theorem dX12_damage_22 : decode cX12_damage 22 = .ok (.iload_n 1, 1) := by decide +kernel
theorem dX12_damage_23 : decode cX12_damage 23 = .ok (.iload_n 2, 1) := by decide +kernel
theorem dX12_damage_24 : decode cX12_damage 24 = .ok (.invokevirtual 357, 3) := by decide +kernel
theorem dX12_damage_27 : decode cX12_damage 27 = .ok (.invokevirtual 178, 3) := by decide +kernel
theorem dX12_damage_30 : decode cX12_damage 30 = .ok (.invokevirtual 247, 3) := by decide +kernel
theorem dX12_damage_33 : decode cX12_damage 33 = .ok (.ireturn, 1) := by decide +kernel
set_option maxRecDepth 20000 in
theorem ggX12_bearer_X12_reportWhy : GoodIn wsX12_bearer wsX12_reportWhy := goodIn_r _ [5, 6, 7, 8, 4, 9, 10, 11, 12, 13, 14, 15, 16, 17, 18, 19, 20, 21, 22, 23, 24, 25, 26, 27, 64, 65, 66, 67, 68, 69, 70, 71, 72, 73, 74, 75, 76, 77, 78, 79, 80, 81, 82, 83, 84, 85, 86, 87, 88, 89, 90, 91, 92, 93, 94, 95, 96, 97, 98, 99, 100, 101, 102, 103, 104, 105, 106, 107, 108, 109, 110, 111, 112, 113, 114] (by decide +kernel) (by decide +kernel)
set_option maxRecDepth 20000 in
theorem gX12_bearer_X12_reportWhy : GoodIn wsX12_bearer (wsV RX12 383 RX12 yX12_reportWhy wsX12_reportWhy) := goodIn_app (goodIn_of _ (by decide +kernel)) ggX12_bearer_X12_reportWhy
set_option maxRecDepth 20000 in
theorem ggX12_bearer_X12_no : GoodIn wsX12_bearer wsX12_no := goodIn_r _ [31, 32, 64, 65, 66, 67, 68, 69, 70, 71, 72, 73, 74, 75, 76, 77, 78, 79, 80, 81, 82, 83, 84, 85, 86, 87, 88, 89, 90, 91, 92, 93, 94, 95, 96, 97, 98, 99, 100, 101, 102, 103, 104, 105, 106, 107, 108, 109, 110, 111, 112, 113, 114] (by decide +kernel) (by decide +kernel)
set_option maxRecDepth 20000 in
theorem gX12_bearer_X12_no : GoodIn wsX12_bearer (wsV RX12 250 RX12 yX12_no wsX12_no) := goodIn_app (goodIn_of _ (by decide +kernel)) ggX12_bearer_X12_no
set_option maxRecDepth 20000 in
theorem ggX12_bearer_X12_reportOn : GoodIn wsX12_bearer wsX12_reportOn := goodIn_r _ [20, 21, 22, 23, 24, 4, 25, 26, 27, 64, 65, 66, 67, 68, 69, 70, 71, 72, 73, 74, 75, 76, 77, 78, 79, 80, 81, 82, 83, 84, 85, 86, 87, 88, 89, 90, 91, 92, 93, 94, 95, 96, 97, 98, 99, 100, 101, 102, 103, 104, 105, 106, 107, 108, 109, 110, 111, 112, 113, 114] (by decide +kernel) (by decide +kernel)
set_option maxRecDepth 20000 in
theorem gX12_bearer_X12_reportOn : GoodIn wsX12_bearer (wsV RX12 357 RX12 yX12_reportOn wsX12_reportOn) := goodIn_app (goodIn_of _ (by decide +kernel)) ggX12_bearer_X12_reportOn
set_option maxRecDepth 20000 in
theorem ggX12_bearer_X12_bearerOf : GoodIn wsX12_bearer wsX12_bearerOf := goodIn_r _ [36, 37, 38, 27, 21, 39, 40, 41, 42, 4, 43, 22, 23, 24, 25, 26, 44, 45, 46, 47, 48, 49, 50, 51, 52, 53, 54, 55, 56, 57, 58, 59, 11, 12, 13, 64, 65, 66, 67, 68, 69, 70, 71, 72, 73, 74, 75, 76, 77, 78, 79, 80, 81, 82, 83, 84, 85, 86, 87, 88, 89, 90, 91, 92, 93, 94, 95, 96, 97, 98, 99, 100, 101, 102, 103, 104, 105, 106, 107, 108, 109, 110, 111, 112, 113, 114] (by decide +kernel) (by decide +kernel)
set_option maxRecDepth 20000 in
theorem gX12_bearer_X12_bearerOf : GoodIn wsX12_bearer (wsV RX12 175 RX12 yX12_bearerOf wsX12_bearerOf) := goodIn_app (goodIn_of _ (by decide +kernel)) ggX12_bearer_X12_bearerOf
set_option maxRecDepth 20000 in
theorem ggX12_bearer_X12_fine : GoodIn wsX12_bearer wsX12_fine := goodIn_r _ [63, 32, 64, 65, 66, 67, 68, 69, 70, 71, 72, 73, 74, 75, 76, 77, 78, 79, 80, 81, 82, 83, 84, 85, 86, 87, 88, 89, 90, 91, 92, 93, 94, 95, 96, 97, 98, 99, 100, 101, 102, 103, 104, 105, 106, 107, 108, 109, 110, 111, 112, 113, 114] (by decide +kernel) (by decide +kernel)
set_option maxRecDepth 20000 in
theorem gX12_bearer_X12_fine : GoodIn wsX12_bearer (wsV RX12 247 RX12 yX12_fine wsX12_fine) := goodIn_app (goodIn_of _ (by decide +kernel)) ggX12_bearer_X12_fine
theorem dX12_bearer_0 : decode cX12_bearer 0 = .ok (.aload_n 0, 1) := by decide +kernel
theorem dX12_bearer_1 : decode cX12_bearer 1 = .ok (.iload_n 1, 1) := by decide +kernel
theorem dX12_bearer_2 : decode cX12_bearer 2 = .ok (.iload_n 2, 1) := by decide +kernel
theorem dX12_bearer_3 : decode cX12_bearer 3 = .ok (.invokevirtual 383, 3) := by decide +kernel
theorem dX12_bearer_6 : decode cX12_bearer 6 = .ok (.istore_n 3, 1) := by decide +kernel
theorem dX12_bearer_7 : decode cX12_bearer 7 = .ok (.iload_n 3, 1) := by decide +kernel
theorem dX12_bearer_8 : decode cX12_bearer 8 = .ok (.ifCond .le 11, 3) := by decide +kernel
theorem dX12_bearer_11 : decode cX12_bearer 11 = .ok (.aload_n 0, 1) := by decide +kernel
theorem dX12_bearer_12 : decode cX12_bearer 12 = .ok (.iload_n 3, 1) := by decide +kernel
theorem dX12_bearer_13 : decode cX12_bearer 13 = .ok (.invokevirtual 250, 3) := by decide +kernel
theorem dX12_bearer_16 : decode cX12_bearer 16 = .ok (.goto 17, 3) := by decide +kernel
theorem dX12_bearer_19 : decode cX12_bearer 19 = .ok (.aload_n 0, 1) := by decide +kernel
theorem dX12_bearer_20 : decode cX12_bearer 20 = .ok (.aload_n 0, 1) := by decide +kernel
theorem dX12_bearer_21 : decode cX12_bearer 21 = .ok (.aload_n 0, 1) := by decide +kernel
theorem dX12_bearer_22 : decode cX12_bearer 22 = .ok (.iload_n 1, 1) := by decide +kernel
theorem dX12_bearer_23 : decode cX12_bearer 23 = .ok (.iload_n 2, 1) := by decide +kernel
theorem dX12_bearer_24 : decode cX12_bearer 24 = .ok (.invokevirtual 357, 3) := by decide +kernel
theorem dX12_bearer_27 : decode cX12_bearer 27 = .ok (.invokevirtual 175, 3) := by decide +kernel
theorem dX12_bearer_30 : decode cX12_bearer 30 = .ok (.invokevirtual 247, 3) := by decide +kernel
theorem dX12_bearer_33 : decode cX12_bearer 33 = .ok (.ireturn, 1) := by decide +kernel
set_option maxRecDepth 20000 in
theorem ggX12_charge_X12_isLoan : GoodIn wsX12_charge wsX12_isLoan := goodIn_r _ [5, 6, 7, 8, 9, 4, 10, 78, 79, 80, 81, 82, 83, 84, 85, 86, 87, 88, 89, 90, 91, 92, 93, 94, 95, 96, 97, 98, 99, 100, 101, 102, 103, 104, 105, 106, 107, 108, 109, 110, 111, 112, 113, 114, 115, 116, 117, 118, 119, 120, 121, 122, 123, 124, 125, 126, 127, 128] (by decide +kernel) (by decide +kernel)
set_option maxRecDepth 20000 in
theorem gX12_charge_X12_isLoan : GoodIn wsX12_charge (wsV RX12 360 RX12 yX12_isLoan wsX12_isLoan) := goodIn_app (goodIn_of _ (by decide +kernel)) ggX12_charge_X12_isLoan
set_option maxRecDepth 20000 in
theorem ggX12_charge_X12_charged : GoodIn wsX12_charge wsX12_charged := goodIn_r _ [14, 15, 16, 17, 18, 19, 4, 20, 6, 7, 21, 22, 23, 24, 25, 26, 27, 28, 29, 30, 31, 32, 33, 34, 35, 36, 37, 38, 39, 40, 41, 42, 43, 44, 45, 46, 47, 8, 9, 10, 48, 49, 50, 51, 52, 53, 54, 55, 56, 57, 58, 59, 60, 61, 62, 63, 64, 65, 66, 67, 68, 78, 79, 80, 81, 82, 83, 84, 85, 86, 87, 88, 89, 90, 91, 92, 93, 94, 95, 96, 97, 98, 99, 100, 101, 102, 103, 104, 105, 106, 107, 108, 109, 110, 111, 112, 113, 114, 115, 116, 117, 118, 119, 120, 121, 122, 123, 124, 125, 126, 127, 128] (by decide +kernel) (by decide +kernel)
set_option maxRecDepth 20000 in
theorem gX12_charge_X12_charged : GoodIn wsX12_charge (wsV RX12 386 RX12 yX12_charged wsX12_charged) := goodIn_app (goodIn_of _ (by decide +kernel)) ggX12_charge_X12_charged
set_option maxRecDepth 20000 in
theorem ggX12_charge_X12_fine : GoodIn wsX12_charge wsX12_fine := goodIn_r _ [72, 73, 78, 79, 80, 81, 82, 83, 84, 85, 86, 87, 88, 89, 90, 91, 92, 93, 94, 95, 96, 97, 98, 99, 100, 101, 102, 103, 104, 105, 106, 107, 108, 109, 110, 111, 112, 113, 114, 115, 116, 117, 118, 119, 120, 121, 122, 123, 124, 125, 126, 127, 128] (by decide +kernel) (by decide +kernel)
set_option maxRecDepth 20000 in
theorem gX12_charge_X12_fine : GoodIn wsX12_charge (wsV RX12 247 RX12 yX12_fine wsX12_fine) := goodIn_app (goodIn_of _ (by decide +kernel)) ggX12_charge_X12_fine
set_option maxRecDepth 20000 in
theorem ggX12_charge_X12_no : GoodIn wsX12_charge wsX12_no := goodIn_r _ [77, 73, 78, 79, 80, 81, 82, 83, 84, 85, 86, 87, 88, 89, 90, 91, 92, 93, 94, 95, 96, 97, 98, 99, 100, 101, 102, 103, 104, 105, 106, 107, 108, 109, 110, 111, 112, 113, 114, 115, 116, 117, 118, 119, 120, 121, 122, 123, 124, 125, 126, 127, 128] (by decide +kernel) (by decide +kernel)
set_option maxRecDepth 20000 in
theorem gX12_charge_X12_no : GoodIn wsX12_charge (wsV RX12 250 RX12 yX12_no wsX12_no) := goodIn_app (goodIn_of _ (by decide +kernel)) ggX12_charge_X12_no
theorem dX12_charge_0 : decode cX12_charge 0 = .ok (.aload_n 0, 1) := by decide +kernel
theorem dX12_charge_1 : decode cX12_charge 1 = .ok (.iload_n 1, 1) := by decide +kernel
theorem dX12_charge_2 : decode cX12_charge 2 = .ok (.invokevirtual 360, 3) := by decide +kernel
theorem dX12_charge_5 : decode cX12_charge 5 = .ok (.ifCond .eq 15, 3) := by decide +kernel
theorem dX12_charge_8 : decode cX12_charge 8 = .ok (.aload_n 0, 1) := by decide +kernel
theorem dX12_charge_9 : decode cX12_charge 9 = .ok (.aload_n 0, 1) := by decide +kernel
theorem dX12_charge_10 : decode cX12_charge 10 = .ok (.iload_n 1, 1) := by decide +kernel
theorem dX12_charge_11 : decode cX12_charge 11 = .ok (.invokevirtual 386, 3) := by decide +kernel
theorem dX12_charge_14 : decode cX12_charge 14 = .ok (.invokevirtual 247, 3) := by decide +kernel
theorem dX12_charge_17 : decode cX12_charge 17 = .ok (.goto 8, 3) := by decide +kernel
theorem dX12_charge_20 : decode cX12_charge 20 = .ok (.aload_n 0, 1) := by decide +kernel
theorem dX12_charge_21 : decode cX12_charge 21 = .ok (.iconst 1, 1) := by decide +kernel
theorem dX12_charge_22 : decode cX12_charge 22 = .ok (.invokevirtual 250, 3) := by decide +kernel
theorem dX12_charge_25 : decode cX12_charge 25 = .ok (.ireturn, 1) := by decide +kernel
set_option maxRecDepth 20000 in
theorem ggX12_home_X12_charged : GoodIn wsX12_home wsX12_charged := goodIn_r _ [5, 6, 7, 8, 9, 10, 4, 11, 12, 13, 14, 15, 16, 17, 18, 19, 20, 21, 22, 23, 24, 25, 26, 27, 28, 29, 30, 31, 32, 33, 34, 35, 36, 37, 38, 39, 40, 41, 42, 43, 44, 45, 46, 47, 48, 49, 50, 51, 52, 53, 54, 55, 56, 57, 58, 59, 60, 61, 62, 63, 64, 65, 66, 67, 68, 69, 70, 71, 72, 73, 74, 75, 76, 77, 78, 79, 80, 81, 82, 83, 84, 85, 86, 87, 88, 89, 90, 91, 92, 93, 94, 95, 96, 97, 98, 99, 100, 101, 102, 103, 104, 105, 106, 107, 108, 109, 110, 111, 112, 113, 114, 115] (by decide +kernel) (by decide +kernel)
set_option maxRecDepth 20000 in
theorem gX12_home_X12_charged : GoodIn wsX12_home (wsV RX12 386 RX12 yX12_charged wsX12_charged) := goodIn_app (goodIn_of _ (by decide +kernel)) ggX12_home_X12_charged
theorem dX12_home_0 : decode cX12_home 0 = .ok (.aload_n 0, 1) := by decide +kernel
theorem dX12_home_1 : decode cX12_home 1 = .ok (.iconst (-1), 1) := by decide +kernel
theorem dX12_home_2 : decode cX12_home 2 = .ok (.invokevirtual 386, 3) := by decide +kernel
theorem dX12_home_5 : decode cX12_home 5 = .ok (.ireturn, 1) := by decide +kernel
set_option maxRecDepth 20000 in
theorem ggX12_letter_X12_isIn : GoodIn wsX12_letter wsX12_isIn := goodIn_r _ [5] (by decide +kernel) (by decide +kernel)
set_option maxRecDepth 20000 in
theorem gX12_letter_X12_isIn : GoodIn wsX12_letter (va_wsS RX12 10 yX12_isIn wsX12_isIn) := goodIn_app (goodIn_of _ (by decide +kernel)) ggX12_letter_X12_isIn
set_option maxRecDepth 20000 in
theorem ggX12_letter_X12_no : GoodIn wsX12_letter wsX12_no := goodIn_r _ [9, 10, 122, 123, 124, 125, 126, 127, 128, 129, 130, 131, 132, 133, 134, 135, 136, 137, 138, 139, 140, 141, 142, 143, 144, 145, 146, 147, 148, 149, 150, 151, 152, 153, 154, 155, 156, 157, 158, 159, 160, 161, 162, 163, 164, 165, 166, 167, 168, 169, 170, 171, 172] (by decide +kernel) (by decide +kernel)
set_option maxRecDepth 20000 in
theorem gX12_letter_X12_no : GoodIn wsX12_letter (wsV RX12 250 RX12 yX12_no wsX12_no) := goodIn_app (goodIn_of _ (by decide +kernel)) ggX12_letter_X12_no
set_option maxRecDepth 20000 in
theorem ggX12_letter_X12_isThing : GoodIn wsX12_letter wsX12_isThing := goodIn_r _ [14, 15, 2, 3, 4, 5, 122, 123, 124, 125, 126, 127, 128, 129, 130, 131, 132, 133, 134, 135, 136, 137, 138, 139, 140, 141, 142, 143, 144, 145, 146, 147, 148, 149, 150, 151, 152, 153, 154, 155, 156, 157, 158, 159, 160, 161, 162, 163, 164, 165, 166, 167, 168, 169, 170, 171, 172] (by decide +kernel) (by decide +kernel)
set_option maxRecDepth 20000 in
theorem gX12_letter_X12_isThing : GoodIn wsX12_letter (wsV RX12 337 RX12 yX12_isThing wsX12_isThing) := goodIn_app (goodIn_of _ (by decide +kernel)) ggX12_letter_X12_isThing
set_option maxRecDepth 20000 in
theorem ggX12_letter_X12_isHouse : GoodIn wsX12_letter wsX12_isHouse := goodIn_r _ [19, 20, 2, 3, 4, 5, 122, 123, 124, 125, 126, 127, 128, 129, 130, 131, 132, 133, 134, 135, 136, 137, 138, 139, 140, 141, 142, 143, 144, 145, 146, 147, 148, 149, 150, 151, 152, 153, 154, 155, 156, 157, 158, 159, 160, 161, 162, 163, 164, 165, 166, 167, 168, 169, 170, 171, 172] (by decide +kernel) (by decide +kernel)
set_option maxRecDepth 20000 in
theorem gX12_letter_X12_isHouse : GoodIn wsX12_letter (wsV RX12 330 RX12 yX12_isHouse wsX12_isHouse) := goodIn_app (goodIn_of _ (by decide +kernel)) ggX12_letter_X12_isHouse
set_option maxRecDepth 20000 in
theorem ggX12_letter_X12_isCourier : GoodIn wsX12_letter wsX12_isCourier := goodIn_r _ [24, 25, 2, 3, 4, 5, 122, 123, 124, 125, 126, 127, 128, 129, 130, 131, 132, 133, 134, 135, 136, 137, 138, 139, 140, 141, 142, 143, 144, 145, 146, 147, 148, 149, 150, 151, 152, 153, 154, 155, 156, 157, 158, 159, 160, 161, 162, 163, 164, 165, 166, 167, 168, 169, 170, 171, 172] (by decide +kernel) (by decide +kernel)
set_option maxRecDepth 20000 in
theorem gX12_letter_X12_isCourier : GoodIn wsX12_letter (wsV RX12 369 RX12 yX12_isCourier wsX12_isCourier) := goodIn_app (goodIn_of _ (by decide +kernel)) ggX12_letter_X12_isCourier
set_option maxRecDepth 20000 in
theorem ggX12_letter_X12_writeThing : GoodIn wsX12_letter wsX12_writeThing := goodIn_r _ [29, 30, 31, 32, 33, 34, 35, 4, 36, 37, 38, 39, 40, 41, 42, 43, 44, 45, 46, 47, 48, 49, 50, 51, 52, 53, 54, 55, 56, 57, 58, 59, 60, 61, 62, 63, 64, 65, 66, 67, 68, 69, 70, 71, 72, 73, 74, 75, 76, 77, 78, 79, 80, 81, 82, 83, 84, 85, 86, 87, 88, 89, 90, 91, 92, 93, 94, 1, 95, 96, 97, 98, 122, 123, 124, 125, 126, 127, 128, 129, 130, 131, 132, 133, 134, 135, 136, 137, 138, 139, 140, 141, 142, 143, 144, 145, 146, 147, 148, 149, 150, 151, 152, 153, 154, 155, 156, 157, 158, 159, 160, 161, 162, 163, 164, 165, 166, 167, 168, 169, 170, 171, 172, 173, 174, 175, 176] (by decide +kernel) (by decide +kernel)
set_option maxRecDepth 20000 in
theorem gX12_letter_X12_writeThing : GoodIn wsX12_letter (wsV RX12 389 RX12 yX12_writeThing wsX12_writeThing) := goodIn_app (goodIn_of _ (by decide +kernel)) ggX12_letter_X12_writeThing
set_option maxRecDepth 20000 in
theorem ggX12_letter_X12_writeHouse : GoodIn wsX12_letter wsX12_writeHouse := goodIn_r _ [102, 103, 104, 105, 106, 95, 96, 97, 4, 98, 90, 91, 92, 93, 94, 1, 122, 123, 124, 125, 126, 127, 128, 129, 130, 131, 132, 133, 134, 135, 136, 137, 138, 139, 140, 141, 142, 143, 144, 145, 146, 147, 148, 149, 150, 151, 152, 153, 154, 155, 156, 157, 158, 159, 160, 161, 162, 163, 164, 165, 166, 167, 168, 169, 170, 171, 172] (by decide +kernel) (by decide +kernel)
set_option maxRecDepth 20000 in
theorem gX12_letter_X12_writeHouse : GoodIn wsX12_letter (wsV RX12 392 RX12 yX12_writeHouse wsX12_writeHouse) := goodIn_app (goodIn_of _ (by decide +kernel)) ggX12_letter_X12_writeHouse
set_option maxRecDepth 20000 in
theorem ggX12_letter_X12_writeCourier : GoodIn wsX12_letter wsX12_writeCourier := goodIn_r _ [110, 111, 112, 113, 37, 38, 39, 4, 40, 41, 42, 43, 44, 45, 46, 47, 48, 49, 50, 51, 52, 53, 54, 55, 56, 57, 58, 59, 60, 61, 62, 63, 64, 65, 66, 67, 68, 69, 70, 71, 72, 73, 74, 75, 76, 77, 78, 79, 80, 81, 82, 83, 84, 85, 86, 87, 88, 89, 90, 91, 92, 93, 94, 1, 95, 96, 97, 98, 122, 123, 124, 125, 126, 127, 128, 129, 130, 131, 132, 133, 134, 135, 136, 137, 138, 139, 140, 141, 142, 143, 144, 145, 146, 147, 148, 149, 150, 151, 152, 153, 154, 155, 156, 157, 158, 159, 160, 161, 162, 163, 164, 165, 166, 167, 168, 169, 170, 171, 172, 173, 174, 175, 176] (by decide +kernel) (by decide +kernel)
set_option maxRecDepth 20000 in
theorem gX12_letter_X12_writeCourier : GoodIn wsX12_letter (wsV RX12 395 RX12 yX12_writeCourier wsX12_writeCourier) := goodIn_app (goodIn_of _ (by decide +kernel)) ggX12_letter_X12_writeCourier
set_option maxRecDepth 20000 in
theorem ggX12_letter_X12_tell : GoodIn wsX12_letter wsX12_tell := goodIn_r _ [117, 1, 94, 2, 3, 4, 5, 118, 119, 120, 121, 10, 6, 7, 8, 9, 122, 123, 124, 125, 126, 127, 128, 129, 130, 131, 132, 133, 134, 135, 136, 137, 138, 139, 140, 141, 142, 143, 144, 145, 146, 147, 148, 149, 150, 151, 152, 153, 154, 155, 156, 157, 158, 159, 160, 161, 162, 163, 164, 165, 166, 167, 168, 169, 170, 171, 172] (by decide +kernel) (by decide +kernel)
set_option maxRecDepth 20000 in
theorem gX12_letter_X12_tell : GoodIn wsX12_letter (wsV RX12 380 RX12 yX12_tell wsX12_tell) := goodIn_app (goodIn_of _ (by decide +kernel)) ggX12_letter_X12_tell
theorem dX12_letter_0 : decode cX12_letter 0 = .ok (.iload_n 1, 1) := by decide +kernel
theorem dX12_letter_1 : decode cX12_letter 1 = .ok (.iconst 0, 1) := by decide +kernel
theorem dX12_letter_2 : decode cX12_letter 2 = .ok (.iconst 2, 1) := by decide +kernel
theorem dX12_letter_3 : decode cX12_letter 3 = .ok (.invokestatic 10, 3) := by decide +kernel
theorem dX12_letter_6 : decode cX12_letter 6 = .ok (.ifCond .ne 9, 3) := by decide +kernel
theorem dX12_letter_9 : decode cX12_letter 9 = .ok (.aload_n 0, 1) := by decide +kernel
theorem dX12_letter_10 : decode cX12_letter 10 = .ok (.iconst 3, 1) := by decide +kernel
theorem dX12_letter_11 : decode cX12_letter 11 = .ok (.invokevirtual 250, 3) := by decide +kernel
theorem dX12_letter_14 : decode cX12_letter 14 = .ok (.ireturn, 1) := by decide +kernel
theorem dX12_letter_15 : decode cX12_letter 15 = .ok (.iload_n 1, 1) := by decide +kernel
theorem dX12_letter_16 : decode cX12_letter 16 = .ok (.ifCond .ne 14, 3) := by decide +kernel
theorem dX12_letter_19 : decode cX12_letter 19 = .ok (.aload_n 0, 1) := by decide +kernel
theorem dX12_letter_20 : decode cX12_letter 20 = .ok (.iload_n 2, 1) := by decide +kernel
theorem dX12_letter_21 : decode cX12_letter 21 = .ok (.invokevirtual 337, 3) := by decide +kernel
theorem dX12_letter_24 : decode cX12_letter 24 = .ok (.ifCond .eq 30, 3) := by decide +kernel
theorem dX12_letter_27 : decode cX12_letter 27 = .ok (.goto 33, 3) := by decide +kernel
theorem dX12_letter_30 : decode cX12_letter 30 = .ok (.iload_n 1, 1) := by decide +kernel
theorem dX12_letter_31 : decode cX12_letter 31 = .ok (.iconst 1, 1) := by decide +kernel
theorem dX12_letter_32 : decode cX12_letter 32 = .ok (.if_icmp .ne 14, 3) := by decide +kernel
theorem dX12_letter_35 : decode cX12_letter 35 = .ok (.aload_n 0, 1) := by decide +kernel
theorem dX12_letter_36 : decode cX12_letter 36 = .ok (.iload_n 2, 1) := by decide +kernel
theorem dX12_letter_37 : decode cX12_letter 37 = .ok (.invokevirtual 330, 3) := by decide +kernel
theorem dX12_letter_40 : decode cX12_letter 40 = .ok (.ifCond .eq 14, 3) := by decide +kernel
theorem dX12_letter_43 : decode cX12_letter 43 = .ok (.goto 17, 3) := by decide +kernel
theorem dX12_letter_46 : decode cX12_letter 46 = .ok (.aload_n 0, 1) := by decide +kernel
theorem dX12_letter_47 : decode cX12_letter 47 = .ok (.iload_n 2, 1) := by decide +kernel
theorem dX12_letter_48 : decode cX12_letter 48 = .ok (.invokevirtual 369, 3) := by decide +kernel
theorem dX12_letter_51 : decode cX12_letter 51 = .ok (.ifCond .ne 9, 3) := by decide +kernel
theorem dX12_letter_54 : decode cX12_letter 54 = .ok (.aload_n 0, 1) := by decide +kernel
theorem dX12_letter_55 : decode cX12_letter 55 = .ok (.iconst 1, 1) := by decide +kernel
theorem dX12_letter_56 : decode cX12_letter 56 = .ok (.invokevirtual 250, 3) := by decide +kernel
theorem dX12_letter_59 : decode cX12_letter 59 = .ok (.ireturn, 1) := by decide +kernel
theorem dX12_letter_60 : decode cX12_letter 60 = .ok (.aload_n 0, 1) := by decide +kernel
theorem dX12_letter_61 : decode cX12_letter 61 = .ok (.iconst 0, 1) := by decide +kernel
theorem dX12_letter_62 : decode cX12_letter 62 = .ok (.putfield 192, 3) := by decide +kernel
theorem dX12_letter_65 : decode cX12_letter 65 = .ok (.iload_n 1, 1) := by decide +kernel
theorem dX12_letter_66 : decode cX12_letter 66 = .ok (.ifCond .ne 11, 3) := by decide +kernel
theorem dX12_letter_69 : decode cX12_letter 69 = .ok (.aload_n 0, 1) := by decide +kernel
theorem dX12_letter_70 : decode cX12_letter 70 = .ok (.iload_n 2, 1) := by decide +kernel
theorem dX12_letter_71 : decode cX12_letter 71 = .ok (.invokevirtual 389, 3) := by decide +kernel
theorem dX12_letter_74 : decode cX12_letter 74 = .ok (.goto 21, 3) := by decide +kernel
theorem dX12_letter_77 : decode cX12_letter 77 = .ok (.iload_n 1, 1) := by decide +kernel
theorem dX12_letter_78 : decode cX12_letter 78 = .ok (.iconst 1, 1) := by decide +kernel
theorem dX12_letter_79 : decode cX12_letter 79 = .ok (.if_icmp .ne 11, 3) := by decide +kernel
theorem dX12_letter_82 : decode cX12_letter 82 = .ok (.aload_n 0, 1) := by decide +kernel
theorem dX12_letter_83 : decode cX12_letter 83 = .ok (.iload_n 2, 1) := by decide +kernel
theorem dX12_letter_84 : decode cX12_letter 84 = .ok (.invokevirtual 392, 3) := by decide +kernel
theorem dX12_letter_87 : decode cX12_letter 87 = .ok (.goto 8, 3) := by decide +kernel
theorem dX12_letter_90 : decode cX12_letter 90 = .ok (.aload_n 0, 1) := by decide +kernel
theorem dX12_letter_91 : decode cX12_letter 91 = .ok (.iload_n 2, 1) := by decide +kernel
theorem dX12_letter_92 : decode cX12_letter 92 = .ok (.invokevirtual 395, 3) := by decide +kernel
theorem dX12_letter_95 : decode cX12_letter 95 = .ok (.aload_n 0, 1) := by decide +kernel
theorem dX12_letter_96 : decode cX12_letter 96 = .ok (.iload_n 3, 1) := by decide +kernel
theorem dX12_letter_97 : decode cX12_letter 97 = .ok (.invokevirtual 380, 3) := by decide +kernel
theorem dX12_letter_100 : decode cX12_letter 100 = .ok (.ireturn, 1) := by decide +kernel
theorem dX12_status_0 : decode cX12_status 0 = .ok (.aload_n 0, 1) := by decide +kernel
theorem dX12_status_1 : decode cX12_status 1 = .ok (.getfield 1, 3) := by decide +kernel
theorem dX12_status_4 : decode cX12_status 4 = .ok (.ireturn, 1) := by decide +kernel
set_option maxRecDepth 20000 in
theorem ggJ5_init_d00df_J2_newBytesFor_77867 : GoodIn wsJ5_init_d00df wsJ2_newBytesFor_77867 := goodIn_r _ [11, 5, 12, 13, 10, 14, 15] (by decide +kernel) (by decide +kernel)
set_option maxRecDepth 20000 in
theorem gJ5_init_d00df_J2_newBytesFor_77867 : GoodIn wsJ5_init_d00df (va_wsS RJ5 26 yJ2_newBytesFor_77867 wsJ2_newBytesFor_77867) := goodIn_app (goodIn_of _ (by decide +kernel)) ggJ5_init_d00df_J2_newBytesFor_77867
theorem dJ5_init_d00df_0 : decode cJ5_init_d00df 0 = .ok (.aload_n 0, 1) := by decide +kernel
theorem dJ5_init_d00df_1 : decode cJ5_init_d00df 1 = .ok (.invokespecial 3, 3) := by decide +kernel
theorem dJ5_init_d00df_4 : decode cJ5_init_d00df 4 = .ok (.getstatic 18, 3) := by decide +kernel
theorem dJ5_init_d00df_7 : decode cJ5_init_d00df 7 = .ok (.ifCond .eq 18, 3) := by decide +kernel
theorem dJ5_init_d00df_10 : decode cJ5_init_d00df 10 = .ok (.aload_n 0, 1) := by decide +kernel
theorem dJ5_init_d00df_11 : decode cJ5_init_d00df 11 = .ok (.iload_n 1, 1) := by decide +kernel
theorem dJ5_init_d00df_12 : decode cJ5_init_d00df 12 = .ok (.newarray .byte, 2) := by decide +kernel
theorem dJ5_init_d00df_14 : decode cJ5_init_d00df 14 = .ok (.putfield 15, 3) := by decide +kernel
theorem dJ5_init_d00df_17 : decode cJ5_init_d00df 17 = .ok (.aload_n 0, 1) := by decide +kernel
theorem dJ5_init_d00df_18 : decode cJ5_init_d00df 18 = .ok (.iconst 0, 1) := by decide +kernel
theorem dJ5_init_d00df_19 : decode cJ5_init_d00df 19 = .ok (.putfield 22, 3) := by decide +kernel
theorem dJ5_init_d00df_22 : decode cJ5_init_d00df 22 = .ok (.goto 16, 3) := by decide +kernel
theorem dJ5_init_d00df_25 : decode cJ5_init_d00df 25 = .ok (.aload_n 0, 1) := by decide +kernel
theorem dJ5_init_d00df_26 : decode cJ5_init_d00df 26 = .ok (.iload_n 1, 1) := by decide +kernel
theorem dJ5_init_d00df_27 : decode cJ5_init_d00df 27 = .ok (.invokestatic 26, 3) := by decide +kernel
theorem dJ5_init_d00df_30 : decode cJ5_init_d00df 30 = .ok (.putfield 15, 3) := by decide +kernel
theorem dJ5_init_d00df_33 : decode cJ5_init_d00df 33 = .ok (.aload_n 0, 1) := by decide +kernel
theorem dJ5_init_d00df_34 : decode cJ5_init_d00df 34 = .ok (.iconst 1, 1) := by decide +kernel
theorem dJ5_init_d00df_35 : decode cJ5_init_d00df 35 = .ok (.putfield 22, 3) := by decide +kernel
theorem dJ5_init_d00df_38 : decode cJ5_init_d00df 38 = .ok (.return_, 1) := by decide +kernel
theorem dJ5_length_8abf5_0 : decode cJ5_length_8abf5 0 = .ok (.aload_n 0, 1) := by decide +kernel
theorem dJ5_length_8abf5_1 : decode cJ5_length_8abf5 1 = .ok (.getfield 79, 3) := by decide +kernel
theorem dJ5_length_8abf5_4 : decode cJ5_length_8abf5 4 = .ok (.ireturn, 1) := by decide +kernel
set_option maxRecDepth 20000 in
theorem ggJ5_ensureCapacityInternal_d00df_J5_newCapacity_0f7a4 : GoodIn wsJ5_ensureCapacityInternal_d00df wsJ5_newCapacity_0f7a4 := goodIn_r _ [8, 1, 2, 9, 10, 11, 12, 13, 14, 15, 16, 17, 18, 19, 20, 21, 40, 41, 42, 43] (by decide +kernel) (by decide +kernel)
set_option maxRecDepth 20000 in
theorem gJ5_ensureCapacityInternal_d00df_J5_newCapacity_0f7a4_u104J4 : GoodIn wsJ5_ensureCapacityInternal_d00df (va_wsU RJ5 104 RJ4 "java/lang/AbstractStringBuilder" ⟨"java/lang/AbstractStringBuilder", "newCapacity", "(I)I"⟩ yJ5_newCapacity_0f7a4 wsJ5_newCapacity_0f7a4) := goodIn_app (goodIn_of _ (by decide +kernel)) ggJ5_ensureCapacityInternal_d00df_J5_newCapacity_0f7a4
set_option maxRecDepth 20000 in
theorem ggJ5_ensureCapacityInternal_d00df_J7_copyOf_9075b : GoodIn wsJ5_ensureCapacityInternal_d00df wsJ7_copyOf_9075b := goodIn_r _ [25, 26, 27, 28, 29, 30, 31, 32, 33, 34, 16, 35, 36, 37, 38, 39] (by decide +kernel) (by decide +kernel)
set_option maxRecDepth 20000 in
theorem gJ5_ensureCapacityInternal_d00df_J7_copyOf_9075b : GoodIn wsJ5_ensureCapacityInternal_d00df (va_wsS RJ5 108 yJ7_copyOf_9075b wsJ7_copyOf_9075b) := goodIn_app (goodIn_of _ (by decide +kernel)) ggJ5_ensureCapacityInternal_d00df_J7_copyOf_9075b
theorem dJ5_ensureCapacityInternal_d00df_0 : decode cJ5_ensureCapacityInternal_d00df 0 = .ok (.aload_n 0, 1) := by decide +kernel
theorem dJ5_ensureCapacityInternal_d00df_1 : decode cJ5_ensureCapacityInternal_d00df 1 = .ok (.getfield 15, 3) := by decide +kernel
theorem dJ5_ensureCapacityInternal_d00df_4 : decode cJ5_ensureCapacityInternal_d00df 4 = .ok (.arraylength, 1) := by decide +kernel
theorem dJ5_ensureCapacityInternal_d00df_5 : decode cJ5_ensureCapacityInternal_d00df 5 = .ok (.aload_n 0, 1) := by decide +kernel
theorem dJ5_ensureCapacityInternal_d00df_6 : decode cJ5_ensureCapacityInternal_d00df 6 = .ok (.getfield 22, 3) := by decide +kernel
theorem dJ5_ensureCapacityInternal_d00df_9 : decode cJ5_ensureCapacityInternal_d00df 9 = .ok (.ishr, 1) := by decide +kernel
theorem dJ5_ensureCapacityInternal_d00df_10 : decode cJ5_ensureCapacityInternal_d00df 10 = .ok (.istore_n 2, 1) := by decide +kernel
theorem dJ5_ensureCapacityInternal_d00df_11 : decode cJ5_ensureCapacityInternal_d00df 11 = .ok (.iload_n 1, 1) := by decide +kernel
theorem dJ5_ensureCapacityInternal_d00df_12 : decode cJ5_ensureCapacityInternal_d00df 12 = .ok (.iload_n 2, 1) := by decide +kernel
theorem dJ5_ensureCapacityInternal_d00df_13 : decode cJ5_ensureCapacityInternal_d00df 13 = .ok (.isub, 1) := by decide +kernel
theorem dJ5_ensureCapacityInternal_d00df_14 : decode cJ5_ensureCapacityInternal_d00df 14 = .ok (.ifCond .le 24, 3) := by decide +kernel
theorem dJ5_ensureCapacityInternal_d00df_17 : decode cJ5_ensureCapacityInternal_d00df 17 = .ok (.aload_n 0, 1) := by decide +kernel
theorem dJ5_ensureCapacityInternal_d00df_18 : decode cJ5_ensureCapacityInternal_d00df 18 = .ok (.aload_n 0, 1) := by decide +kernel
theorem dJ5_ensureCapacityInternal_d00df_19 : decode cJ5_ensureCapacityInternal_d00df 19 = .ok (.getfield 15, 3) := by decide +kernel
theorem dJ5_ensureCapacityInternal_d00df_22 : decode cJ5_ensureCapacityInternal_d00df 22 = .ok (.aload_n 0, 1) := by decide +kernel
theorem dJ5_ensureCapacityInternal_d00df_23 : decode cJ5_ensureCapacityInternal_d00df 23 = .ok (.iload_n 1, 1) := by decide +kernel
theorem dJ5_ensureCapacityInternal_d00df_24 : decode cJ5_ensureCapacityInternal_d00df 24 = .ok (.invokevirtual 104, 3) := by decide +kernel
theorem dJ5_ensureCapacityInternal_d00df_27 : decode cJ5_ensureCapacityInternal_d00df 27 = .ok (.aload_n 0, 1) := by decide +kernel
theorem dJ5_ensureCapacityInternal_d00df_28 : decode cJ5_ensureCapacityInternal_d00df 28 = .ok (.getfield 22, 3) := by decide +kernel
theorem dJ5_ensureCapacityInternal_d00df_31 : decode cJ5_ensureCapacityInternal_d00df 31 = .ok (.ishl, 1) := by decide +kernel
theorem dJ5_ensureCapacityInternal_d00df_32 : decode cJ5_ensureCapacityInternal_d00df 32 = .ok (.invokestatic 108, 3) := by decide +kernel
theorem dJ5_ensureCapacityInternal_d00df_35 : decode cJ5_ensureCapacityInternal_d00df 35 = .ok (.putfield 15, 3) := by decide +kernel
theorem dJ5_ensureCapacityInternal_d00df_38 : decode cJ5_ensureCapacityInternal_d00df 38 = .ok (.return_, 1) := by decide +kernel
set_option maxRecDepth 20000 in
theorem ggJ5_newCapacity_0f7a4_J8_newLength_cabcc : GoodIn wsJ5_newCapacity_0f7a4 wsJ8_newLength_cabcc := goodIn_r _ [7, 8, 9, 10, 11, 12, 13, 14, 6, 15] (by decide +kernel) (by decide +kernel)
set_option maxRecDepth 20000 in
theorem gJ5_newCapacity_0f7a4_J8_newLength_cabcc : GoodIn wsJ5_newCapacity_0f7a4 (va_wsS RJ5 114 yJ8_newLength_cabcc wsJ8_newLength_cabcc) := goodIn_app (goodIn_of _ (by decide +kernel)) ggJ5_newCapacity_0f7a4_J8_newLength_cabcc
theorem dJ5_newCapacity_0f7a4_0 : decode cJ5_newCapacity_0f7a4 0 = .ok (.aload_n 0, 1) := by decide +kernel
theorem dJ5_newCapacity_0f7a4_1 : decode cJ5_newCapacity_0f7a4 1 = .ok (.getfield 15, 3) := by decide +kernel
theorem dJ5_newCapacity_0f7a4_4 : decode cJ5_newCapacity_0f7a4 4 = .ok (.arraylength, 1) := by decide +kernel
theorem dJ5_newCapacity_0f7a4_5 : decode cJ5_newCapacity_0f7a4 5 = .ok (.istore_n 2, 1) := by decide +kernel
theorem dJ5_newCapacity_0f7a4_6 : decode cJ5_newCapacity_0f7a4 6 = .ok (.iload_n 1, 1) := by decide +kernel
theorem dJ5_newCapacity_0f7a4_7 : decode cJ5_newCapacity_0f7a4 7 = .ok (.aload_n 0, 1) := by decide +kernel
theorem dJ5_newCapacity_0f7a4_8 : decode cJ5_newCapacity_0f7a4 8 = .ok (.getfield 22, 3) := by decide +kernel
theorem dJ5_newCapacity_0f7a4_11 : decode cJ5_newCapacity_0f7a4 11 = .ok (.ishl, 1) := by decide +kernel
theorem dJ5_newCapacity_0f7a4_12 : decode cJ5_newCapacity_0f7a4 12 = .ok (.istore_n 3, 1) := by decide +kernel
theorem dJ5_newCapacity_0f7a4_13 : decode cJ5_newCapacity_0f7a4 13 = .ok (.iload_n 3, 1) := by decide +kernel
theorem dJ5_newCapacity_0f7a4_14 : decode cJ5_newCapacity_0f7a4 14 = .ok (.iload_n 2, 1) := by decide +kernel
theorem dJ5_newCapacity_0f7a4_15 : decode cJ5_newCapacity_0f7a4 15 = .ok (.isub, 1) := by decide +kernel
theorem dJ5_newCapacity_0f7a4_16 : decode cJ5_newCapacity_0f7a4 16 = .ok (.istore 4, 2) := by decide +kernel
theorem dJ5_newCapacity_0f7a4_18 : decode cJ5_newCapacity_0f7a4 18 = .ok (.iload_n 2, 1) := by decide +kernel
theorem dJ5_newCapacity_0f7a4_19 : decode cJ5_newCapacity_0f7a4 19 = .ok (.iload 4, 2) := by decide +kernel
theorem dJ5_newCapacity_0f7a4_21 : decode cJ5_newCapacity_0f7a4 21 = .ok (.iload_n 2, 1) := by decide +kernel
theorem dJ5_newCapacity_0f7a4_22 : decode cJ5_newCapacity_0f7a4 22 = .ok (.iconst 2, 1) := by decide +kernel
theorem dJ5_newCapacity_0f7a4_23 : decode cJ5_newCapacity_0f7a4 23 = .ok (.aload_n 0, 1) := by decide +kernel
theorem dJ5_newCapacity_0f7a4_24 : decode cJ5_newCapacity_0f7a4 24 = .ok (.getfield 22, 3) := by decide +kernel
theorem dJ5_newCapacity_0f7a4_27 : decode cJ5_newCapacity_0f7a4 27 = .ok (.ishl, 1) := by decide +kernel
theorem dJ5_newCapacity_0f7a4_28 : decode cJ5_newCapacity_0f7a4 28 = .ok (.iadd, 1) := by decide +kernel
theorem dJ5_newCapacity_0f7a4_29 : decode cJ5_newCapacity_0f7a4 29 = .ok (.invokestatic 114, 3) := by decide +kernel
theorem dJ5_newCapacity_0f7a4_32 : decode cJ5_newCapacity_0f7a4 32 = .ok (.istore 5, 2) := by decide +kernel
theorem dJ5_newCapacity_0f7a4_34 : decode cJ5_newCapacity_0f7a4 34 = .ok (.iload 5, 2) := by decide +kernel
theorem dJ5_newCapacity_0f7a4_36 : decode cJ5_newCapacity_0f7a4 36 = .ok (.ldc 39, 2) := by decide +kernel
theorem dJ5_newCapacity_0f7a4_38 : decode cJ5_newCapacity_0f7a4 38 = .ok (.if_icmp .ne 13, 3) := by decide +kernel
theorem dJ5_newCapacity_0f7a4_41 : decode cJ5_newCapacity_0f7a4 41 = .ok (.new 120, 3) := by decide +kernel
theorem dJ5_newCapacity_0f7a4_44 : decode cJ5_newCapacity_0f7a4 44 = .ok (.dup, 1) := by decide +kernel
theorem dJ5_newCapacity_0f7a4_45 : decode cJ5_newCapacity_0f7a4 45 = .ok (.ldc 122, 2) := by decide +kernel
theorem dJ5_newCapacity_0f7a4_47 : decode cJ5_newCapacity_0f7a4 47 = .ok (.invokespecial 124, 3) := by decide +kernel
theorem dJ5_newCapacity_0f7a4_50 : decode cJ5_newCapacity_0f7a4 50 = .ok (.athrow, 1) := by decide +kernel
theorem dJ5_newCapacity_0f7a4_51 : decode cJ5_newCapacity_0f7a4 51 = .ok (.iload 5, 2) := by decide +kernel
theorem dJ5_newCapacity_0f7a4_53 : decode cJ5_newCapacity_0f7a4 53 = .ok (.aload_n 0, 1) := by decide +kernel
theorem dJ5_newCapacity_0f7a4_54 : decode cJ5_newCapacity_0f7a4 54 = .ok (.getfield 22, 3) := by decide +kernel
theorem dJ5_newCapacity_0f7a4_57 : decode cJ5_newCapacity_0f7a4 57 = .ok (.ishr, 1) := by decide +kernel
theorem dJ5_newCapacity_0f7a4_58 : decode cJ5_newCapacity_0f7a4 58 = .ok (.ireturn, 1) := by decide +kernel
set_option maxRecDepth 20000 in
theorem ggJ5_inflate_da8c8_J5_isLatin1_aae02 : GoodIn wsJ5_inflate_da8c8 wsJ5_isLatin1_aae02 := goodIn_r _ [9, 10, 3, 48, 49, 50, 51] (by decide +kernel) (by decide +kernel)
set_option maxRecDepth 20000 in
theorem gJ5_inflate_da8c8_J5_isLatin1_aae02_u83J4 : GoodIn wsJ5_inflate_da8c8 (va_wsU RJ5 83 RJ4 "java/lang/AbstractStringBuilder" ⟨"java/lang/AbstractStringBuilder", "isLatin1", "()Z"⟩ yJ5_isLatin1_aae02 wsJ5_isLatin1_aae02) := goodIn_app (goodIn_of _ (by decide +kernel)) ggJ5_inflate_da8c8_J5_isLatin1_aae02
set_option maxRecDepth 20000 in
theorem ggJ5_inflate_da8c8_J2_newBytesFor_77867 : GoodIn wsJ5_inflate_da8c8 wsJ2_newBytesFor_77867 := goodIn_r _ [14, 15, 16, 17, 13, 18, 19] (by decide +kernel) (by decide +kernel)
set_option maxRecDepth 20000 in
theorem gJ5_inflate_da8c8_J2_newBytesFor_77867 : GoodIn wsJ5_inflate_da8c8 (va_wsS RJ5 26 yJ2_newBytesFor_77867 wsJ2_newBytesFor_77867) := goodIn_app (goodIn_of _ (by decide +kernel)) ggJ5_inflate_da8c8_J2_newBytesFor_77867
set_option maxRecDepth 20000 in
theorem ggJ5_inflate_da8c8_J1_inflate_0e8fd : GoodIn wsJ5_inflate_da8c8 wsJ1_inflate_0e8fd := goodIn_r _ [23, 24, 25, 13, 26, 27, 28, 29, 30, 31, 32, 33, 34, 35, 36, 37, 38, 39, 40, 41, 42, 43, 44, 45, 46, 47] (by decide +kernel) (by decide +kernel)
set_option maxRecDepth 20000 in
theorem gJ5_inflate_da8c8_J1_inflate_0e8fd : GoodIn wsJ5_inflate_da8c8 (va_wsS RJ5 125 yJ1_inflate_0e8fd wsJ1_inflate_0e8fd) := goodIn_app (goodIn_of _ (by decide +kernel)) ggJ5_inflate_da8c8_J1_inflate_0e8fd
theorem dJ5_inflate_da8c8_0 : decode cJ5_inflate_da8c8 0 = .ok (.aload_n 0, 1) := by decide +kernel
theorem dJ5_inflate_da8c8_1 : decode cJ5_inflate_da8c8 1 = .ok (.invokevirtual 83, 3) := by decide +kernel
theorem dJ5_inflate_da8c8_4 : decode cJ5_inflate_da8c8 4 = .ok (.ifCond .ne 4, 3) := by decide +kernel
theorem dJ5_inflate_da8c8_7 : decode cJ5_inflate_da8c8 7 = .ok (.return_, 1) := by decide +kernel
theorem dJ5_inflate_da8c8_8 : decode cJ5_inflate_da8c8 8 = .ok (.aload_n 0, 1) := by decide +kernel
theorem dJ5_inflate_da8c8_9 : decode cJ5_inflate_da8c8 9 = .ok (.getfield 15, 3) := by decide +kernel
theorem dJ5_inflate_da8c8_12 : decode cJ5_inflate_da8c8 12 = .ok (.arraylength, 1) := by decide +kernel
theorem dJ5_inflate_da8c8_13 : decode cJ5_inflate_da8c8 13 = .ok (.invokestatic 26, 3) := by decide +kernel
theorem dJ5_inflate_da8c8_16 : decode cJ5_inflate_da8c8 16 = .ok (.astore_n 1, 1) := by decide +kernel
theorem dJ5_inflate_da8c8_17 : decode cJ5_inflate_da8c8 17 = .ok (.aload_n 0, 1) := by decide +kernel
theorem dJ5_inflate_da8c8_18 : decode cJ5_inflate_da8c8 18 = .ok (.getfield 15, 3) := by decide +kernel
theorem dJ5_inflate_da8c8_21 : decode cJ5_inflate_da8c8 21 = .ok (.iconst 0, 1) := by decide +kernel
theorem dJ5_inflate_da8c8_22 : decode cJ5_inflate_da8c8 22 = .ok (.aload_n 1, 1) := by decide +kernel
theorem dJ5_inflate_da8c8_23 : decode cJ5_inflate_da8c8 23 = .ok (.iconst 0, 1) := by decide +kernel
theorem dJ5_inflate_da8c8_24 : decode cJ5_inflate_da8c8 24 = .ok (.aload_n 0, 1) := by decide +kernel
theorem dJ5_inflate_da8c8_25 : decode cJ5_inflate_da8c8 25 = .ok (.getfield 79, 3) := by decide +kernel
theorem dJ5_inflate_da8c8_28 : decode cJ5_inflate_da8c8 28 = .ok (.invokestatic 125, 3) := by decide +kernel
theorem dJ5_inflate_da8c8_31 : decode cJ5_inflate_da8c8 31 = .ok (.aload_n 0, 1) := by decide +kernel
theorem dJ5_inflate_da8c8_32 : decode cJ5_inflate_da8c8 32 = .ok (.aload_n 1, 1) := by decide +kernel
theorem dJ5_inflate_da8c8_33 : decode cJ5_inflate_da8c8 33 = .ok (.putfield 15, 3) := by decide +kernel
theorem dJ5_inflate_da8c8_36 : decode cJ5_inflate_da8c8 36 = .ok (.aload_n 0, 1) := by decide +kernel
theorem dJ5_inflate_da8c8_37 : decode cJ5_inflate_da8c8 37 = .ok (.iconst 1, 1) := by decide +kernel
theorem dJ5_inflate_da8c8_38 : decode cJ5_inflate_da8c8 38 = .ok (.putfield 22, 3) := by decide +kernel
theorem dJ5_inflate_da8c8_41 : decode cJ5_inflate_da8c8 41 = .ok (.return_, 1) := by decide +kernel
set_option maxRecDepth 20000 in
theorem ggJ5_append_cf1ce_J5_appendNull_278bc : GoodIn wsJ5_append_cf1ce wsJ5_appendNull_278bc := goodIn_r _ [7, 1, 8, 9, 10, 11, 12, 6, 13, 14, 15, 16, 17, 18, 19, 20, 21, 22, 23, 24, 25, 26, 27, 28, 29, 30, 31, 32, 33, 34, 35, 36, 37, 38, 39, 40, 41, 42, 43, 44, 45, 46, 47, 48, 49, 50, 51, 52, 53, 54, 55, 56, 57, 58, 59, 60, 61, 62, 63, 64, 65, 66, 67, 68, 69, 70, 71, 72, 73, 74, 75, 76, 77, 78, 79, 80, 81, 138, 139, 140, 141] (by decide +kernel) (by decide +kernel)
set_option maxRecDepth 20000 in
theorem gJ5_append_cf1ce_J5_appendNull_278bc_u204J4 : GoodIn wsJ5_append_cf1ce (va_wsU RJ5 204 RJ4 "java/lang/AbstractStringBuilder" ⟨"java/lang/AbstractStringBuilder", "appendNull", "()Ljava/lang/AbstractStringBuilder;"⟩ yJ5_appendNull_278bc wsJ5_appendNull_278bc) := goodIn_app (goodIn_of _ (by decide +kernel)) ggJ5_append_cf1ce_J5_appendNull_278bc
set_option maxRecDepth 20000 in
theorem ggJ5_append_cf1ce_J0_length_8abf5 : GoodIn wsJ5_append_cf1ce wsJ0_length_8abf5 := goodIn_r _ [85, 86, 87, 88, 89, 70, 90, 91, 92, 142, 143, 144, 145] (by decide +kernel) (by decide +kernel)
set_option maxRecDepth 20000 in
theorem gJ5_append_cf1ce_J0_length_8abf5 : GoodIn wsJ5_append_cf1ce (wsV RJ5 32 RJ0 yJ0_length_8abf5 wsJ0_length_8abf5) := goodIn_app (goodIn_of _ (by decide +kernel)) ggJ5_append_cf1ce_J0_length_8abf5
set_option maxRecDepth 20000 in
theorem ggJ5_append_cf1ce_J5_ensureCapacityInternal_d00df : GoodIn wsJ5_append_cf1ce wsJ5_ensureCapacityInternal_d00df := goodIn_r _ [13, 8, 14, 15, 16, 17, 18, 6, 19, 20, 21, 22, 23, 24, 25, 26, 27, 28, 29, 30, 31, 32, 33, 34, 35, 36, 37, 38, 39, 40, 41, 42, 43, 44, 45, 46, 47, 48, 49, 50, 138, 139, 140, 141] (by decide +kernel) (by decide +kernel)
set_option maxRecDepth 20000 in
theorem gJ5_append_cf1ce_J5_ensureCapacityInternal_d00df_u100J4 : GoodIn wsJ5_append_cf1ce (va_wsU RJ5 100 RJ4 "java/lang/AbstractStringBuilder" ⟨"java/lang/AbstractStringBuilder", "ensureCapacityInternal", "(I)V"⟩ yJ5_ensureCapacityInternal_d00df wsJ5_ensureCapacityInternal_d00df) := goodIn_app (goodIn_of _ (by decide +kernel)) ggJ5_append_cf1ce_J5_ensureCapacityInternal_d00df
set_option maxRecDepth 20000 in
theorem ggJ5_append_cf1ce_J5_putStringAt_47b60 : GoodIn wsJ5_append_cf1ce wsJ5_putStringAt_47b60 := goodIn_r _ [97, 8, 14, 98, 99, 100, 101, 6, 102, 56, 103, 88, 89, 70, 90, 91, 92, 104, 105, 106, 107, 108, 1, 51, 52, 53, 54, 55, 109, 110, 59, 111, 43, 112, 113, 114, 115, 116, 117, 118, 119, 120, 121, 122, 123, 124, 125, 65, 66, 67, 126, 127, 128, 72, 129, 130, 75, 131, 77, 78, 79, 61, 80, 81, 132, 133, 134, 135, 86, 136, 48, 49, 50, 87, 137, 138, 139, 140, 141, 142, 143, 144, 145] (by decide +kernel) (by decide +kernel)
set_option maxRecDepth 20000 in
theorem gJ5_append_cf1ce_J5_putStringAt_47b60_u208J4 : GoodIn wsJ5_append_cf1ce (va_wsU RJ5 208 RJ4 "java/lang/AbstractStringBuilder" ⟨"java/lang/AbstractStringBuilder", "putStringAt", "(ILjava/lang/String;)V"⟩ yJ5_putStringAt_47b60 wsJ5_putStringAt_47b60) := goodIn_app (goodIn_of _ (by decide +kernel)) ggJ5_append_cf1ce_J5_putStringAt_47b60
theorem dJ5_append_cf1ce_0 : decode cJ5_append_cf1ce 0 = .ok (.aload_n 1, 1) := by decide +kernel
theorem dJ5_append_cf1ce_1 : decode cJ5_append_cf1ce 1 = .ok (.ifnonnull 8, 3) := by decide +kernel
theorem dJ5_append_cf1ce_4 : decode cJ5_append_cf1ce 4 = .ok (.aload_n 0, 1) := by decide +kernel
theorem dJ5_append_cf1ce_5 : decode cJ5_append_cf1ce 5 = .ok (.invokevirtual 204, 3) := by decide +kernel
theorem dJ5_append_cf1ce_8 : decode cJ5_append_cf1ce 8 = .ok (.areturn, 1) := by decide +kernel
theorem dJ5_append_cf1ce_9 : decode cJ5_append_cf1ce 9 = .ok (.aload_n 1, 1) := by decide +kernel
theorem dJ5_append_cf1ce_10 : decode cJ5_append_cf1ce 10 = .ok (.invokevirtual 32, 3) := by decide +kernel
theorem dJ5_append_cf1ce_13 : decode cJ5_append_cf1ce 13 = .ok (.istore_n 2, 1) := by decide +kernel
theorem dJ5_append_cf1ce_14 : decode cJ5_append_cf1ce 14 = .ok (.aload_n 0, 1) := by decide +kernel
theorem dJ5_append_cf1ce_15 : decode cJ5_append_cf1ce 15 = .ok (.aload_n 0, 1) := by decide +kernel
theorem dJ5_append_cf1ce_16 : decode cJ5_append_cf1ce 16 = .ok (.getfield 79, 3) := by decide +kernel
theorem dJ5_append_cf1ce_19 : decode cJ5_append_cf1ce 19 = .ok (.iload_n 2, 1) := by decide +kernel
theorem dJ5_append_cf1ce_20 : decode cJ5_append_cf1ce 20 = .ok (.iadd, 1) := by decide +kernel
theorem dJ5_append_cf1ce_21 : decode cJ5_append_cf1ce 21 = .ok (.invokevirtual 100, 3) := by decide +kernel
theorem dJ5_append_cf1ce_24 : decode cJ5_append_cf1ce 24 = .ok (.aload_n 0, 1) := by decide +kernel
theorem dJ5_append_cf1ce_25 : decode cJ5_append_cf1ce 25 = .ok (.aload_n 0, 1) := by decide +kernel
theorem dJ5_append_cf1ce_26 : decode cJ5_append_cf1ce 26 = .ok (.getfield 79, 3) := by decide +kernel
theorem dJ5_append_cf1ce_29 : decode cJ5_append_cf1ce 29 = .ok (.aload_n 1, 1) := by decide +kernel
theorem dJ5_append_cf1ce_30 : decode cJ5_append_cf1ce 30 = .ok (.invokevirtual 208, 3) := by decide +kernel
theorem dJ5_append_cf1ce_33 : decode cJ5_append_cf1ce 33 = .ok (.aload_n 0, 1) := by decide +kernel
theorem dJ5_append_cf1ce_34 : decode cJ5_append_cf1ce 34 = .ok (.dup, 1) := by decide +kernel
theorem dJ5_append_cf1ce_35 : decode cJ5_append_cf1ce 35 = .ok (.getfield 79, 3) := by decide +kernel
theorem dJ5_append_cf1ce_38 : decode cJ5_append_cf1ce 38 = .ok (.iload_n 2, 1) := by decide +kernel
theorem dJ5_append_cf1ce_39 : decode cJ5_append_cf1ce 39 = .ok (.iadd, 1) := by decide +kernel
theorem dJ5_append_cf1ce_40 : decode cJ5_append_cf1ce 40 = .ok (.putfield 79, 3) := by decide +kernel
theorem dJ5_append_cf1ce_43 : decode cJ5_append_cf1ce 43 = .ok (.aload_n 0, 1) := by decide +kernel
theorem dJ5_append_cf1ce_44 : decode cJ5_append_cf1ce 44 = .ok (.areturn, 1) := by decide +kernel
set_option maxRecDepth 20000 in
theorem ggJ5_appendNull_278bc_J5_ensureCapacityInternal_d00df : GoodIn wsJ5_appendNull_278bc wsJ5_ensureCapacityInternal_d00df := goodIn_r _ [8, 2, 9, 10, 11, 12, 13, 7, 14, 15, 16, 17, 18, 19, 20, 21, 22, 23, 24, 25, 26, 27, 28, 29, 30, 31, 32, 33, 34, 35, 36, 37, 38, 39, 40, 41, 42, 43, 44, 45, 77, 78, 79, 80] (by decide +kernel) (by decide +kernel)
set_option maxRecDepth 20000 in
theorem gJ5_appendNull_278bc_J5_ensureCapacityInternal_d00df_u100J4 : GoodIn wsJ5_appendNull_278bc (va_wsU RJ5 100 RJ4 "java/lang/AbstractStringBuilder" ⟨"java/lang/AbstractStringBuilder", "ensureCapacityInternal", "(I)V"⟩ yJ5_ensureCapacityInternal_d00df wsJ5_ensureCapacityInternal_d00df) := goodIn_app (goodIn_of _ (by decide +kernel)) ggJ5_appendNull_278bc_J5_ensureCapacityInternal_d00df
set_option maxRecDepth 20000 in
theorem ggJ5_appendNull_278bc_J5_isLatin1_aae02 : GoodIn wsJ5_appendNull_278bc wsJ5_isLatin1_aae02 := goodIn_r _ [50, 51, 9, 77, 78, 79, 80] (by decide +kernel) (by decide +kernel)
set_option maxRecDepth 20000 in
theorem gJ5_appendNull_278bc_J5_isLatin1_aae02_u83J4 : GoodIn wsJ5_appendNull_278bc (va_wsU RJ5 83 RJ4 "java/lang/AbstractStringBuilder" ⟨"java/lang/AbstractStringBuilder", "isLatin1", "()Z"⟩ yJ5_isLatin1_aae02 wsJ5_isLatin1_aae02) := goodIn_app (goodIn_of _ (by decide +kernel)) ggJ5_appendNull_278bc_J5_isLatin1_aae02
set_option maxRecDepth 20000 in
theorem ggJ5_appendNull_278bc_J2_putCharsAt_cd4e5 : GoodIn wsJ5_appendNull_278bc wsJ2_putCharsAt_cd4e5 := goodIn_r _ [55, 56, 57, 58, 54, 59, 60, 61, 62, 63, 64, 65, 66, 67, 68, 69, 70, 71, 72, 73, 74, 75, 76] (by decide +kernel) (by decide +kernel)
set_option maxRecDepth 20000 in
theorem gJ5_appendNull_278bc_J2_putCharsAt_cd4e5 : GoodIn wsJ5_appendNull_278bc (va_wsS RJ5 226 yJ2_putCharsAt_cd4e5 wsJ2_putCharsAt_cd4e5) := goodIn_app (goodIn_of _ (by decide +kernel)) ggJ5_appendNull_278bc_J2_putCharsAt_cd4e5
theorem dJ5_appendNull_278bc_0 : decode cJ5_appendNull_278bc 0 = .ok (.aload_n 0, 1) := by decide +kernel
theorem dJ5_appendNull_278bc_1 : decode cJ5_appendNull_278bc 1 = .ok (.aload_n 0, 1) := by decide +kernel
theorem dJ5_appendNull_278bc_2 : decode cJ5_appendNull_278bc 2 = .ok (.getfield 79, 3) := by decide +kernel
theorem dJ5_appendNull_278bc_5 : decode cJ5_appendNull_278bc 5 = .ok (.iconst 4, 1) := by decide +kernel
theorem dJ5_appendNull_278bc_6 : decode cJ5_appendNull_278bc 6 = .ok (.iadd, 1) := by decide +kernel
theorem dJ5_appendNull_278bc_7 : decode cJ5_appendNull_278bc 7 = .ok (.invokevirtual 100, 3) := by decide +kernel
theorem dJ5_appendNull_278bc_10 : decode cJ5_appendNull_278bc 10 = .ok (.aload_n 0, 1) := by decide +kernel
theorem dJ5_appendNull_278bc_11 : decode cJ5_appendNull_278bc 11 = .ok (.getfield 79, 3) := by decide +kernel
theorem dJ5_appendNull_278bc_14 : decode cJ5_appendNull_278bc 14 = .ok (.istore_n 1, 1) := by decide +kernel
theorem dJ5_appendNull_278bc_15 : decode cJ5_appendNull_278bc 15 = .ok (.aload_n 0, 1) := by decide +kernel
theorem dJ5_appendNull_278bc_16 : decode cJ5_appendNull_278bc 16 = .ok (.getfield 15, 3) := by decide +kernel
theorem dJ5_appendNull_278bc_19 : decode cJ5_appendNull_278bc 19 = .ok (.astore_n 2, 1) := by decide +kernel
theorem dJ5_appendNull_278bc_20 : decode cJ5_appendNull_278bc 20 = .ok (.aload_n 0, 1) := by decide +kernel
theorem dJ5_appendNull_278bc_21 : decode cJ5_appendNull_278bc 21 = .ok (.invokevirtual 83, 3) := by decide +kernel
theorem dJ5_appendNull_278bc_24 : decode cJ5_appendNull_278bc 24 = .ok (.ifCond .eq 38, 3) := by decide +kernel
theorem dJ5_appendNull_278bc_27 : decode cJ5_appendNull_278bc 27 = .ok (.aload_n 2, 1) := by decide +kernel
theorem dJ5_appendNull_278bc_28 : decode cJ5_appendNull_278bc 28 = .ok (.iload_n 1, 1) := by decide +kernel
theorem dJ5_appendNull_278bc_29 : decode cJ5_appendNull_278bc 29 = .ok (.iinc 1 1, 3) := by decide +kernel
theorem dJ5_appendNull_278bc_32 : decode cJ5_appendNull_278bc 32 = .ok (.bipush 110, 2) := by decide +kernel
theorem dJ5_appendNull_278bc_34 : decode cJ5_appendNull_278bc 34 = .ok (.bastore, 1) := by decide +kernel
theorem dJ5_appendNull_278bc_35 : decode cJ5_appendNull_278bc 35 = .ok (.aload_n 2, 1) := by decide +kernel
theorem dJ5_appendNull_278bc_36 : decode cJ5_appendNull_278bc 36 = .ok (.iload_n 1, 1) := by decide +kernel
theorem dJ5_appendNull_278bc_37 : decode cJ5_appendNull_278bc 37 = .ok (.iinc 1 1, 3) := by decide +kernel
theorem dJ5_appendNull_278bc_40 : decode cJ5_appendNull_278bc 40 = .ok (.bipush 117, 2) := by decide +kernel
theorem dJ5_appendNull_278bc_42 : decode cJ5_appendNull_278bc 42 = .ok (.bastore, 1) := by decide +kernel
theorem dJ5_appendNull_278bc_43 : decode cJ5_appendNull_278bc 43 = .ok (.aload_n 2, 1) := by decide +kernel
theorem dJ5_appendNull_278bc_44 : decode cJ5_appendNull_278bc 44 = .ok (.iload_n 1, 1) := by decide +kernel
theorem dJ5_appendNull_278bc_45 : decode cJ5_appendNull_278bc 45 = .ok (.iinc 1 1, 3) := by decide +kernel
theorem dJ5_appendNull_278bc_48 : decode cJ5_appendNull_278bc 48 = .ok (.bipush 108, 2) := by decide +kernel
theorem dJ5_appendNull_278bc_50 : decode cJ5_appendNull_278bc 50 = .ok (.bastore, 1) := by decide +kernel
theorem dJ5_appendNull_278bc_51 : decode cJ5_appendNull_278bc 51 = .ok (.aload_n 2, 1) := by decide +kernel
theorem dJ5_appendNull_278bc_52 : decode cJ5_appendNull_278bc 52 = .ok (.iload_n 1, 1) := by decide +kernel
theorem dJ5_appendNull_278bc_53 : decode cJ5_appendNull_278bc 53 = .ok (.iinc 1 1, 3) := by decide +kernel
theorem dJ5_appendNull_278bc_56 : decode cJ5_appendNull_278bc 56 = .ok (.bipush 108, 2) := by decide +kernel
theorem dJ5_appendNull_278bc_58 : decode cJ5_appendNull_278bc 58 = .ok (.bastore, 1) := by decide +kernel
theorem dJ5_appendNull_278bc_59 : decode cJ5_appendNull_278bc 59 = .ok (.goto 17, 3) := by decide +kernel
theorem dJ5_appendNull_278bc_62 : decode cJ5_appendNull_278bc 62 = .ok (.aload_n 2, 1) := by decide +kernel
theorem dJ5_appendNull_278bc_63 : decode cJ5_appendNull_278bc 63 = .ok (.iload_n 1, 1) := by decide +kernel
theorem dJ5_appendNull_278bc_64 : decode cJ5_appendNull_278bc 64 = .ok (.bipush 110, 2) := by decide +kernel
theorem dJ5_appendNull_278bc_66 : decode cJ5_appendNull_278bc 66 = .ok (.bipush 117, 2) := by decide +kernel
theorem dJ5_appendNull_278bc_68 : decode cJ5_appendNull_278bc 68 = .ok (.bipush 108, 2) := by decide +kernel
theorem dJ5_appendNull_278bc_70 : decode cJ5_appendNull_278bc 70 = .ok (.bipush 108, 2) := by decide +kernel
theorem dJ5_appendNull_278bc_72 : decode cJ5_appendNull_278bc 72 = .ok (.invokestatic 226, 3) := by decide +kernel
theorem dJ5_appendNull_278bc_75 : decode cJ5_appendNull_278bc 75 = .ok (.istore_n 1, 1) := by decide +kernel
theorem dJ5_appendNull_278bc_76 : decode cJ5_appendNull_278bc 76 = .ok (.aload_n 0, 1) := by decide +kernel
theorem dJ5_appendNull_278bc_77 : decode cJ5_appendNull_278bc 77 = .ok (.iload_n 1, 1) := by decide +kernel
theorem dJ5_appendNull_278bc_78 : decode cJ5_appendNull_278bc 78 = .ok (.putfield 79, 3) := by decide +kernel
theorem dJ5_appendNull_278bc_81 : decode cJ5_appendNull_278bc 81 = .ok (.aload_n 0, 1) := by decide +kernel
theorem dJ5_appendNull_278bc_82 : decode cJ5_appendNull_278bc 82 = .ok (.areturn, 1) := by decide +kernel
set_option maxRecDepth 20000 in
theorem ggJ5_append_3fe6f_J5_ensureCapacityInternal_d00df : GoodIn wsJ5_append_3fe6f wsJ5_ensureCapacityInternal_d00df := goodIn_r _ [8, 2, 9, 10, 11, 12, 13, 7, 14, 15, 16, 17, 18, 19, 20, 21, 22, 23, 24, 25, 26, 27, 28, 29, 30, 31, 32, 33, 34, 35, 36, 37, 38, 39, 40, 41, 42, 43, 44, 45, 108, 109, 110, 111] (by decide +kernel) (by decide +kernel)
set_option maxRecDepth 20000 in
theorem gJ5_append_3fe6f_J5_ensureCapacityInternal_d00df_u100J4 : GoodIn wsJ5_append_3fe6f (va_wsU RJ5 100 RJ4 "java/lang/AbstractStringBuilder" ⟨"java/lang/AbstractStringBuilder", "ensureCapacityInternal", "(I)V"⟩ yJ5_ensureCapacityInternal_d00df wsJ5_ensureCapacityInternal_d00df) := goodIn_app (goodIn_of _ (by decide +kernel)) ggJ5_append_3fe6f_J5_ensureCapacityInternal_d00df
set_option maxRecDepth 20000 in
theorem ggJ5_append_3fe6f_J5_isLatin1_aae02 : GoodIn wsJ5_append_3fe6f wsJ5_isLatin1_aae02 := goodIn_r _ [50, 51, 9, 108, 109, 110, 111] (by decide +kernel) (by decide +kernel)
set_option maxRecDepth 20000 in
theorem gJ5_append_3fe6f_J5_isLatin1_aae02_u83J4 : GoodIn wsJ5_append_3fe6f (va_wsU RJ5 83 RJ4 "java/lang/AbstractStringBuilder" ⟨"java/lang/AbstractStringBuilder", "isLatin1", "()Z"⟩ yJ5_isLatin1_aae02 wsJ5_isLatin1_aae02) := goodIn_app (goodIn_of _ (by decide +kernel)) ggJ5_append_3fe6f_J5_isLatin1_aae02
set_option maxRecDepth 20000 in
theorem ggJ5_append_3fe6f_J1_canEncode_fc78d : GoodIn wsJ5_append_3fe6f wsJ1_canEncode_fc78d := goodIn_r _ [55] (by decide +kernel) (by decide +kernel)
set_option maxRecDepth 20000 in
theorem gJ5_append_3fe6f_J1_canEncode_fc78d : GoodIn wsJ5_append_3fe6f (va_wsS RJ5 191 yJ1_canEncode_fc78d wsJ1_canEncode_fc78d) := goodIn_app (goodIn_of _ (by decide +kernel)) ggJ5_append_3fe6f_J1_canEncode_fc78d
set_option maxRecDepth 20000 in
theorem ggJ5_append_3fe6f_J5_inflate_da8c8 : GoodIn wsJ5_append_3fe6f wsJ5_inflate_da8c8 := goodIn_r _ [60, 2, 1, 9, 46, 47, 48, 49, 7, 50, 51, 61, 62, 63, 64, 38, 65, 66, 67, 68, 69, 70, 54, 71, 72, 73, 74, 75, 76, 77, 78, 79, 80, 81, 82, 83, 84, 85, 86, 87, 88, 89, 90, 91, 92, 93, 94, 95, 108, 109, 110, 111] (by decide +kernel) (by decide +kernel)
set_option maxRecDepth 20000 in
theorem gJ5_append_3fe6f_J5_inflate_da8c8_u195J4 : GoodIn wsJ5_append_3fe6f (va_wsU RJ5 195 RJ4 "java/lang/AbstractStringBuilder" ⟨"java/lang/AbstractStringBuilder", "inflate", "()V"⟩ yJ5_inflate_da8c8 wsJ5_inflate_da8c8) := goodIn_app (goodIn_of _ (by decide +kernel)) ggJ5_append_3fe6f_J5_inflate_da8c8
set_option maxRecDepth 20000 in
theorem ggJ5_append_3fe6f_J2_putCharSB_b72d1 : GoodIn wsJ5_append_3fe6f wsJ2_putCharSB_b72d1 := goodIn_r _ [98, 99, 100, 63, 101, 78, 79, 80, 102, 103, 83, 104, 85, 105, 106, 88, 107, 90, 91, 92, 93, 94, 95] (by decide +kernel) (by decide +kernel)
set_option maxRecDepth 20000 in
theorem gJ5_append_3fe6f_J2_putCharSB_b72d1 : GoodIn wsJ5_append_3fe6f (va_wsS RJ5 197 yJ2_putCharSB_b72d1 wsJ2_putCharSB_b72d1) := goodIn_app (goodIn_of _ (by decide +kernel)) ggJ5_append_3fe6f_J2_putCharSB_b72d1
theorem dJ5_append_3fe6f_0 : decode cJ5_append_3fe6f 0 = .ok (.aload_n 0, 1) := by decide +kernel
theorem dJ5_append_3fe6f_1 : decode cJ5_append_3fe6f 1 = .ok (.aload_n 0, 1) := by decide +kernel
theorem dJ5_append_3fe6f_2 : decode cJ5_append_3fe6f 2 = .ok (.getfield 79, 3) := by decide +kernel
theorem dJ5_append_3fe6f_5 : decode cJ5_append_3fe6f 5 = .ok (.iconst 1, 1) := by decide +kernel
theorem dJ5_append_3fe6f_6 : decode cJ5_append_3fe6f 6 = .ok (.iadd, 1) := by decide +kernel
theorem dJ5_append_3fe6f_7 : decode cJ5_append_3fe6f 7 = .ok (.invokevirtual 100, 3) := by decide +kernel
theorem dJ5_append_3fe6f_10 : decode cJ5_append_3fe6f 10 = .ok (.aload_n 0, 1) := by decide +kernel
theorem dJ5_append_3fe6f_11 : decode cJ5_append_3fe6f 11 = .ok (.invokevirtual 83, 3) := by decide +kernel
theorem dJ5_append_3fe6f_14 : decode cJ5_append_3fe6f 14 = .ok (.ifCond .eq 31, 3) := by decide +kernel
theorem dJ5_append_3fe6f_17 : decode cJ5_append_3fe6f 17 = .ok (.iload_n 1, 1) := by decide +kernel
theorem dJ5_append_3fe6f_18 : decode cJ5_append_3fe6f 18 = .ok (.invokestatic 191, 3) := by decide +kernel
theorem dJ5_append_3fe6f_21 : decode cJ5_append_3fe6f 21 = .ok (.ifCond .eq 24, 3) := by decide +kernel
theorem dJ5_append_3fe6f_24 : decode cJ5_append_3fe6f 24 = .ok (.aload_n 0, 1) := by decide +kernel
theorem dJ5_append_3fe6f_25 : decode cJ5_append_3fe6f 25 = .ok (.getfield 15, 3) := by decide +kernel
theorem dJ5_append_3fe6f_28 : decode cJ5_append_3fe6f 28 = .ok (.aload_n 0, 1) := by decide +kernel
theorem dJ5_append_3fe6f_29 : decode cJ5_append_3fe6f 29 = .ok (.dup, 1) := by decide +kernel
theorem dJ5_append_3fe6f_30 : decode cJ5_append_3fe6f 30 = .ok (.getfield 79, 3) := by decide +kernel
theorem dJ5_append_3fe6f_33 : decode cJ5_append_3fe6f 33 = .ok (.dup_x1, 1) := by decide +kernel
theorem dJ5_append_3fe6f_34 : decode cJ5_append_3fe6f 34 = .ok (.iconst 1, 1) := by decide +kernel
theorem dJ5_append_3fe6f_35 : decode cJ5_append_3fe6f 35 = .ok (.iadd, 1) := by decide +kernel
theorem dJ5_append_3fe6f_36 : decode cJ5_append_3fe6f 36 = .ok (.putfield 79, 3) := by decide +kernel
theorem dJ5_append_3fe6f_39 : decode cJ5_append_3fe6f 39 = .ok (.iload_n 1, 1) := by decide +kernel
theorem dJ5_append_3fe6f_40 : decode cJ5_append_3fe6f 40 = .ok (.i2b, 1) := by decide +kernel
theorem dJ5_append_3fe6f_41 : decode cJ5_append_3fe6f 41 = .ok (.bastore, 1) := by decide +kernel
theorem dJ5_append_3fe6f_42 : decode cJ5_append_3fe6f 42 = .ok (.goto 33, 3) := by decide +kernel
theorem dJ5_append_3fe6f_45 : decode cJ5_append_3fe6f 45 = .ok (.aload_n 0, 1) := by decide +kernel
theorem dJ5_append_3fe6f_46 : decode cJ5_append_3fe6f 46 = .ok (.invokevirtual 83, 3) := by decide +kernel
theorem dJ5_append_3fe6f_49 : decode cJ5_append_3fe6f 49 = .ok (.ifCond .eq 7, 3) := by decide +kernel
theorem dJ5_append_3fe6f_52 : decode cJ5_append_3fe6f 52 = .ok (.aload_n 0, 1) := by decide +kernel
theorem dJ5_append_3fe6f_53 : decode cJ5_append_3fe6f 53 = .ok (.invokevirtual 195, 3) := by decide +kernel
theorem dJ5_append_3fe6f_56 : decode cJ5_append_3fe6f 56 = .ok (.aload_n 0, 1) := by decide +kernel
theorem dJ5_append_3fe6f_57 : decode cJ5_append_3fe6f 57 = .ok (.getfield 15, 3) := by decide +kernel
theorem dJ5_append_3fe6f_60 : decode cJ5_append_3fe6f 60 = .ok (.aload_n 0, 1) := by decide +kernel
theorem dJ5_append_3fe6f_61 : decode cJ5_append_3fe6f 61 = .ok (.dup, 1) := by decide +kernel
theorem dJ5_append_3fe6f_62 : decode cJ5_append_3fe6f 62 = .ok (.getfield 79, 3) := by decide +kernel
theorem dJ5_append_3fe6f_65 : decode cJ5_append_3fe6f 65 = .ok (.dup_x1, 1) := by decide +kernel
theorem dJ5_append_3fe6f_66 : decode cJ5_append_3fe6f 66 = .ok (.iconst 1, 1) := by decide +kernel
theorem dJ5_append_3fe6f_67 : decode cJ5_append_3fe6f 67 = .ok (.iadd, 1) := by decide +kernel
theorem dJ5_append_3fe6f_68 : decode cJ5_append_3fe6f 68 = .ok (.putfield 79, 3) := by decide +kernel
theorem dJ5_append_3fe6f_71 : decode cJ5_append_3fe6f 71 = .ok (.iload_n 1, 1) := by decide +kernel
theorem dJ5_append_3fe6f_72 : decode cJ5_append_3fe6f 72 = .ok (.invokestatic 197, 3) := by decide +kernel
theorem dJ5_append_3fe6f_75 : decode cJ5_append_3fe6f 75 = .ok (.aload_n 0, 1) := by decide +kernel
theorem dJ5_append_3fe6f_76 : decode cJ5_append_3fe6f 76 = .ok (.areturn, 1) := by decide +kernel
set_option maxRecDepth 20000 in
theorem ggJ5_append_c97b9_J6_stringSize_0f7a4 : GoodIn wsJ5_append_c97b9 wsJ6_stringSize_0f7a4 := goodIn_r _ [6] (by decide +kernel) (by decide +kernel)
set_option maxRecDepth 20000 in
theorem gJ5_append_c97b9_J6_stringSize_0f7a4 : GoodIn wsJ5_append_c97b9 (va_wsS RJ5 245 yJ6_stringSize_0f7a4 wsJ6_stringSize_0f7a4) := goodIn_app (goodIn_of _ (by decide +kernel)) ggJ5_append_c97b9_J6_stringSize_0f7a4
set_option maxRecDepth 20000 in
theorem ggJ5_append_c97b9_J5_ensureCapacityInternal_d00df : GoodIn wsJ5_append_c97b9 wsJ5_ensureCapacityInternal_d00df := goodIn_r _ [12, 2, 13, 14, 15, 16, 17, 11, 18, 19, 20, 21, 22, 23, 24, 25, 26, 27, 28, 29, 30, 31, 32, 33, 34, 35, 36, 37, 38, 39, 40, 41, 42, 43, 44, 45, 46, 47, 48, 49, 91, 92, 93, 94] (by decide +kernel) (by decide +kernel)
set_option maxRecDepth 20000 in
theorem gJ5_append_c97b9_J5_ensureCapacityInternal_d00df_u100J4 : GoodIn wsJ5_append_c97b9 (va_wsU RJ5 100 RJ4 "java/lang/AbstractStringBuilder" ⟨"java/lang/AbstractStringBuilder", "ensureCapacityInternal", "(I)V"⟩ yJ5_ensureCapacityInternal_d00df wsJ5_ensureCapacityInternal_d00df) := goodIn_app (goodIn_of _ (by decide +kernel)) ggJ5_append_c97b9_J5_ensureCapacityInternal_d00df
set_option maxRecDepth 20000 in
theorem ggJ5_append_c97b9_J5_isLatin1_aae02 : GoodIn wsJ5_append_c97b9 wsJ5_isLatin1_aae02 := goodIn_r _ [54, 55, 13, 91, 92, 93, 94] (by decide +kernel) (by decide +kernel)
set_option maxRecDepth 20000 in
theorem gJ5_append_c97b9_J5_isLatin1_aae02_u83J4 : GoodIn wsJ5_append_c97b9 (va_wsU RJ5 83 RJ4 "java/lang/AbstractStringBuilder" ⟨"java/lang/AbstractStringBuilder", "isLatin1", "()Z"⟩ yJ5_isLatin1_aae02 wsJ5_isLatin1_aae02) := goodIn_app (goodIn_of _ (by decide +kernel)) ggJ5_append_c97b9_J5_isLatin1_aae02
set_option maxRecDepth 20000 in
theorem ggJ5_append_c97b9_J6_getChars_ba4f3 : GoodIn wsJ5_append_c97b9 wsJ6_getChars_ba4f3 := goodIn_r _ [58, 59, 60] (by decide +kernel) (by decide +kernel)
set_option maxRecDepth 20000 in
theorem gJ5_append_c97b9_J6_getChars_ba4f3 : GoodIn wsJ5_append_c97b9 (va_wsS RJ5 248 yJ6_getChars_ba4f3 wsJ6_getChars_ba4f3) := goodIn_app (goodIn_of _ (by decide +kernel)) ggJ5_append_c97b9_J6_getChars_ba4f3
set_option maxRecDepth 20000 in
theorem ggJ5_append_c97b9_J2_getChars_46870 : GoodIn wsJ5_append_c97b9 wsJ2_getChars_46870 := goodIn_r _ [64, 65, 66, 67, 63, 68, 69, 70, 71, 72, 73, 74, 75, 76, 77, 78, 79, 80, 81, 82, 83, 84, 85, 86, 87, 88, 89, 90] (by decide +kernel) (by decide +kernel)
set_option maxRecDepth 20000 in
theorem gJ5_append_c97b9_J2_getChars_46870 : GoodIn wsJ5_append_c97b9 (va_wsS RJ5 251 yJ2_getChars_46870 wsJ2_getChars_46870) := goodIn_app (goodIn_of _ (by decide +kernel)) ggJ5_append_c97b9_J2_getChars_46870
theorem dJ5_append_c97b9_0 : decode cJ5_append_c97b9 0 = .ok (.aload_n 0, 1) := by decide +kernel
theorem dJ5_append_c97b9_1 : decode cJ5_append_c97b9 1 = .ok (.getfield 79, 3) := by decide +kernel
theorem dJ5_append_c97b9_4 : decode cJ5_append_c97b9 4 = .ok (.istore_n 2, 1) := by decide +kernel
theorem dJ5_append_c97b9_5 : decode cJ5_append_c97b9 5 = .ok (.iload_n 2, 1) := by decide +kernel
theorem dJ5_append_c97b9_6 : decode cJ5_append_c97b9 6 = .ok (.iload_n 1, 1) := by decide +kernel
theorem dJ5_append_c97b9_7 : decode cJ5_append_c97b9 7 = .ok (.invokestatic 245, 3) := by decide +kernel
theorem dJ5_append_c97b9_10 : decode cJ5_append_c97b9 10 = .ok (.iadd, 1) := by decide +kernel
theorem dJ5_append_c97b9_11 : decode cJ5_append_c97b9 11 = .ok (.istore_n 3, 1) := by decide +kernel
theorem dJ5_append_c97b9_12 : decode cJ5_append_c97b9 12 = .ok (.aload_n 0, 1) := by decide +kernel
theorem dJ5_append_c97b9_13 : decode cJ5_append_c97b9 13 = .ok (.iload_n 3, 1) := by decide +kernel
theorem dJ5_append_c97b9_14 : decode cJ5_append_c97b9 14 = .ok (.invokevirtual 100, 3) := by decide +kernel
theorem dJ5_append_c97b9_17 : decode cJ5_append_c97b9 17 = .ok (.aload_n 0, 1) := by decide +kernel
theorem dJ5_append_c97b9_18 : decode cJ5_append_c97b9 18 = .ok (.invokevirtual 83, 3) := by decide +kernel
theorem dJ5_append_c97b9_21 : decode cJ5_append_c97b9 21 = .ok (.ifCond .eq 16, 3) := by decide +kernel
theorem dJ5_append_c97b9_24 : decode cJ5_append_c97b9 24 = .ok (.iload_n 1, 1) := by decide +kernel
theorem dJ5_append_c97b9_25 : decode cJ5_append_c97b9 25 = .ok (.iload_n 3, 1) := by decide +kernel
theorem dJ5_append_c97b9_26 : decode cJ5_append_c97b9 26 = .ok (.aload_n 0, 1) := by decide +kernel
theorem dJ5_append_c97b9_27 : decode cJ5_append_c97b9 27 = .ok (.getfield 15, 3) := by decide +kernel
theorem dJ5_append_c97b9_30 : decode cJ5_append_c97b9 30 = .ok (.invokestatic 248, 3) := by decide +kernel
theorem dJ5_append_c97b9_33 : decode cJ5_append_c97b9 33 = .ok (.pop, 1) := by decide +kernel
theorem dJ5_append_c97b9_34 : decode cJ5_append_c97b9 34 = .ok (.goto 14, 3) := by decide +kernel
theorem dJ5_append_c97b9_37 : decode cJ5_append_c97b9 37 = .ok (.iload_n 1, 1) := by decide +kernel
theorem dJ5_append_c97b9_38 : decode cJ5_append_c97b9 38 = .ok (.iload_n 2, 1) := by decide +kernel
theorem dJ5_append_c97b9_39 : decode cJ5_append_c97b9 39 = .ok (.iload_n 3, 1) := by decide +kernel
theorem dJ5_append_c97b9_40 : decode cJ5_append_c97b9 40 = .ok (.aload_n 0, 1) := by decide +kernel
theorem dJ5_append_c97b9_41 : decode cJ5_append_c97b9 41 = .ok (.getfield 15, 3) := by decide +kernel
theorem dJ5_append_c97b9_44 : decode cJ5_append_c97b9 44 = .ok (.invokestatic 251, 3) := by decide +kernel
theorem dJ5_append_c97b9_47 : decode cJ5_append_c97b9 47 = .ok (.pop, 1) := by decide +kernel
theorem dJ5_append_c97b9_48 : decode cJ5_append_c97b9 48 = .ok (.aload_n 0, 1) := by decide +kernel
theorem dJ5_append_c97b9_49 : decode cJ5_append_c97b9 49 = .ok (.iload_n 3, 1) := by decide +kernel
theorem dJ5_append_c97b9_50 : decode cJ5_append_c97b9 50 = .ok (.putfield 79, 3) := by decide +kernel
theorem dJ5_append_c97b9_53 : decode cJ5_append_c97b9 53 = .ok (.aload_n 0, 1) := by decide +kernel
theorem dJ5_append_c97b9_54 : decode cJ5_append_c97b9 54 = .ok (.areturn, 1) := by decide +kernel
theorem dJ5_getValue_6d5f1_0 : decode cJ5_getValue_6d5f1 0 = .ok (.aload_n 0, 1) := by decide +kernel
theorem dJ5_getValue_6d5f1_1 : decode cJ5_getValue_6d5f1 1 = .ok (.getfield 15, 3) := by decide +kernel
theorem dJ5_getValue_6d5f1_4 : decode cJ5_getValue_6d5f1 4 = .ok (.areturn, 1) := by decide +kernel
theorem dJ5_isLatin1_aae02_0 : decode cJ5_isLatin1_aae02 0 = .ok (.getstatic 18, 3) := by decide +kernel
theorem dJ5_isLatin1_aae02_3 : decode cJ5_isLatin1_aae02 3 = .ok (.ifCond .eq 14, 3) := by decide +kernel
theorem dJ5_isLatin1_aae02_6 : decode cJ5_isLatin1_aae02 6 = .ok (.aload_n 0, 1) := by decide +kernel
theorem dJ5_isLatin1_aae02_7 : decode cJ5_isLatin1_aae02 7 = .ok (.getfield 22, 3) := by decide +kernel
theorem dJ5_isLatin1_aae02_10 : decode cJ5_isLatin1_aae02 10 = .ok (.ifCond .ne 7, 3) := by decide +kernel
theorem dJ5_isLatin1_aae02_13 : decode cJ5_isLatin1_aae02 13 = .ok (.iconst 1, 1) := by decide +kernel
theorem dJ5_isLatin1_aae02_14 : decode cJ5_isLatin1_aae02 14 = .ok (.goto 4, 3) := by decide +kernel
theorem dJ5_isLatin1_aae02_17 : decode cJ5_isLatin1_aae02 17 = .ok (.iconst 0, 1) := by decide +kernel
theorem dJ5_isLatin1_aae02_18 : decode cJ5_isLatin1_aae02 18 = .ok (.ireturn, 1) := by decide +kernel
set_option maxRecDepth 20000 in
theorem ggJ5_inflateIfNeededFor_a7421_J0_coder_7d493 : GoodIn wsJ5_inflateIfNeededFor_a7421 wsJ0_coder_7d493 := goodIn_r _ [7, 8, 9, 63, 64, 65, 66] (by decide +kernel) (by decide +kernel)
set_option maxRecDepth 20000 in
theorem gJ5_inflateIfNeededFor_a7421_J0_coder_7d493 : GoodIn wsJ5_inflateIfNeededFor_a7421 (wsV RJ5 40 RJ0 yJ0_coder_7d493 wsJ0_coder_7d493) := goodIn_app (goodIn_of _ (by decide +kernel)) ggJ5_inflateIfNeededFor_a7421_J0_coder_7d493
set_option maxRecDepth 20000 in
theorem ggJ5_inflateIfNeededFor_a7421_J5_inflate_da8c8 : GoodIn wsJ5_inflateIfNeededFor_a7421 wsJ5_inflate_da8c8 := goodIn_r _ [15, 16, 17, 2, 18, 19, 20, 21, 14, 22, 1, 23, 24, 25, 26, 27, 28, 29, 30, 31, 32, 33, 34, 35, 36, 37, 38, 39, 40, 41, 42, 43, 44, 45, 46, 6, 47, 48, 49, 50, 51, 52, 53, 54, 55, 56, 57, 58, 59, 60, 61, 62] (by decide +kernel) (by decide +kernel)
set_option maxRecDepth 20000 in
theorem gJ5_inflateIfNeededFor_a7421_J5_inflate_da8c8_u195J4 : GoodIn wsJ5_inflateIfNeededFor_a7421 (va_wsU RJ5 195 RJ4 "java/lang/AbstractStringBuilder" ⟨"java/lang/AbstractStringBuilder", "inflate", "()V"⟩ yJ5_inflate_da8c8 wsJ5_inflate_da8c8) := goodIn_app (goodIn_of _ (by decide +kernel)) ggJ5_inflateIfNeededFor_a7421_J5_inflate_da8c8
theorem dJ5_inflateIfNeededFor_a7421_0 : decode cJ5_inflateIfNeededFor_a7421 0 = .ok (.getstatic 18, 3) := by decide +kernel
theorem dJ5_inflateIfNeededFor_a7421_3 : decode cJ5_inflateIfNeededFor_a7421 3 = .ok (.ifCond .eq 18, 3) := by decide +kernel
theorem dJ5_inflateIfNeededFor_a7421_6 : decode cJ5_inflateIfNeededFor_a7421 6 = .ok (.aload_n 0, 1) := by decide +kernel
theorem dJ5_inflateIfNeededFor_a7421_7 : decode cJ5_inflateIfNeededFor_a7421 7 = .ok (.getfield 22, 3) := by decide +kernel
theorem dJ5_inflateIfNeededFor_a7421_10 : decode cJ5_inflateIfNeededFor_a7421 10 = .ok (.aload_n 1, 1) := by decide +kernel
theorem dJ5_inflateIfNeededFor_a7421_11 : decode cJ5_inflateIfNeededFor_a7421 11 = .ok (.invokevirtual 40, 3) := by decide +kernel
theorem dJ5_inflateIfNeededFor_a7421_14 : decode cJ5_inflateIfNeededFor_a7421 14 = .ok (.if_icmp .eq 7, 3) := by decide +kernel
theorem dJ5_inflateIfNeededFor_a7421_17 : decode cJ5_inflateIfNeededFor_a7421 17 = .ok (.aload_n 0, 1) := by decide +kernel
theorem dJ5_inflateIfNeededFor_a7421_18 : decode cJ5_inflateIfNeededFor_a7421 18 = .ok (.invokevirtual 195, 3) := by decide +kernel
theorem dJ5_inflateIfNeededFor_a7421_21 : decode cJ5_inflateIfNeededFor_a7421 21 = .ok (.return_, 1) := by decide +kernel
set_option maxRecDepth 20000 in
theorem ggJ5_putStringAt_47b60_J5_inflateIfNeededFor_a7421 : GoodIn wsJ5_putStringAt_47b60 wsJ5_inflateIfNeededFor_a7421 := goodIn_r _ [8, 9, 2, 10, 11, 12, 13, 14, 15, 16, 17, 18, 19, 20, 7, 21, 1, 22, 23, 24, 25, 26, 27, 28, 29, 30, 31, 32, 33, 34, 35, 36, 37, 38, 39, 40, 41, 42, 43, 44, 45, 46, 47, 48, 49, 50, 51, 52, 53, 54, 55, 56, 57, 58, 59, 60, 61, 62, 63, 75, 76, 77, 78, 79, 80, 81, 82] (by decide +kernel) (by decide +kernel)
set_option maxRecDepth 20000 in
theorem gJ5_putStringAt_47b60_J5_inflateIfNeededFor_a7421_u397J4 : GoodIn wsJ5_putStringAt_47b60 (va_wsU RJ5 397 RJ4 "java/lang/AbstractStringBuilder" ⟨"java/lang/AbstractStringBuilder", "inflateIfNeededFor", "(Ljava/lang/String;)V"⟩ yJ5_inflateIfNeededFor_a7421 wsJ5_inflateIfNeededFor_a7421) := goodIn_app (goodIn_of _ (by decide +kernel)) ggJ5_putStringAt_47b60_J5_inflateIfNeededFor_a7421
set_option maxRecDepth 20000 in
theorem ggJ5_putStringAt_47b60_J0_getBytes_840e7 : GoodIn wsJ5_putStringAt_47b60 wsJ0_getBytes_840e7 := goodIn_r _ [67, 68, 69, 70, 71, 72, 73, 11, 12, 13, 14, 15, 16, 74, 38, 39, 40, 41, 42, 30, 43, 44, 45, 46, 47, 48, 49, 50, 51, 52, 53, 54, 55, 56, 57, 58, 59, 60, 61, 62, 63, 79, 80, 81, 82] (by decide +kernel) (by decide +kernel)
set_option maxRecDepth 20000 in
theorem gJ5_putStringAt_47b60_J0_getBytes_840e7 : GoodIn wsJ5_putStringAt_47b60 (wsV RJ5 399 RJ0 yJ0_getBytes_840e7 wsJ0_getBytes_840e7) := goodIn_app (goodIn_of _ (by decide +kernel)) ggJ5_putStringAt_47b60_J0_getBytes_840e7
theorem dJ5_putStringAt_47b60_0 : decode cJ5_putStringAt_47b60 0 = .ok (.aload_n 0, 1) := by decide +kernel
theorem dJ5_putStringAt_47b60_1 : decode cJ5_putStringAt_47b60 1 = .ok (.aload_n 2, 1) := by decide +kernel
theorem dJ5_putStringAt_47b60_2 : decode cJ5_putStringAt_47b60 2 = .ok (.invokevirtual 397, 3) := by decide +kernel
theorem dJ5_putStringAt_47b60_5 : decode cJ5_putStringAt_47b60 5 = .ok (.aload_n 2, 1) := by decide +kernel
theorem dJ5_putStringAt_47b60_6 : decode cJ5_putStringAt_47b60 6 = .ok (.aload_n 0, 1) := by decide +kernel
theorem dJ5_putStringAt_47b60_7 : decode cJ5_putStringAt_47b60 7 = .ok (.getfield 15, 3) := by decide +kernel
theorem dJ5_putStringAt_47b60_10 : decode cJ5_putStringAt_47b60 10 = .ok (.iload_n 1, 1) := by decide +kernel
theorem dJ5_putStringAt_47b60_11 : decode cJ5_putStringAt_47b60 11 = .ok (.aload_n 0, 1) := by decide +kernel
theorem dJ5_putStringAt_47b60_12 : decode cJ5_putStringAt_47b60 12 = .ok (.getfield 22, 3) := by decide +kernel
theorem dJ5_putStringAt_47b60_15 : decode cJ5_putStringAt_47b60 15 = .ok (.invokevirtual 399, 3) := by decide +kernel
theorem dJ5_putStringAt_47b60_18 : decode cJ5_putStringAt_47b60 18 = .ok (.return_, 1) := by decide +kernel
theorem dJ6_getChars_ba4f3_0 : decode cJ6_getChars_ba4f3 0 = .ok (.iload_n 1, 1) := by decide +kernel
theorem dJ6_getChars_ba4f3_1 : decode cJ6_getChars_ba4f3 1 = .ok (.istore 5, 2) := by decide +kernel
theorem dJ6_getChars_ba4f3_3 : decode cJ6_getChars_ba4f3 3 = .ok (.iload_n 0, 1) := by decide +kernel
theorem dJ6_getChars_ba4f3_4 : decode cJ6_getChars_ba4f3 4 = .ok (.ifCond .ge 7, 3) := by decide +kernel
theorem dJ6_getChars_ba4f3_7 : decode cJ6_getChars_ba4f3 7 = .ok (.iconst 1, 1) := by decide +kernel
theorem dJ6_getChars_ba4f3_8 : decode cJ6_getChars_ba4f3 8 = .ok (.goto 4, 3) := by decide +kernel
theorem dJ6_getChars_ba4f3_11 : decode cJ6_getChars_ba4f3 11 = .ok (.iconst 0, 1) := by decide +kernel
theorem dJ6_getChars_ba4f3_12 : decode cJ6_getChars_ba4f3 12 = .ok (.istore 6, 2) := by decide +kernel
theorem dJ6_getChars_ba4f3_14 : decode cJ6_getChars_ba4f3 14 = .ok (.iload 6, 2) := by decide +kernel
theorem dJ6_getChars_ba4f3_16 : decode cJ6_getChars_ba4f3 16 = .ok (.ifCond .ne 6, 3) := by decide +kernel
theorem dJ6_getChars_ba4f3_19 : decode cJ6_getChars_ba4f3 19 = .ok (.iload_n 0, 1) := by decide +kernel
theorem dJ6_getChars_ba4f3_20 : decode cJ6_getChars_ba4f3 20 = .ok (.ineg, 1) := by decide +kernel
theorem dJ6_getChars_ba4f3_21 : decode cJ6_getChars_ba4f3 21 = .ok (.istore_n 0, 1) := by decide +kernel
theorem dJ6_getChars_ba4f3_22 : decode cJ6_getChars_ba4f3 22 = .ok (.iload_n 0, 1) := by decide +kernel
theorem dJ6_getChars_ba4f3_23 : decode cJ6_getChars_ba4f3 23 = .ok (.bipush (-100), 2) := by decide +kernel
theorem dJ6_getChars_ba4f3_25 : decode cJ6_getChars_ba4f3 25 = .ok (.if_icmp .gt 47, 3) := by decide +kernel
theorem dJ6_getChars_ba4f3_28 : decode cJ6_getChars_ba4f3 28 = .ok (.iload_n 0, 1) := by decide +kernel
theorem dJ6_getChars_ba4f3_29 : decode cJ6_getChars_ba4f3 29 = .ok (.bipush 100, 2) := by decide +kernel
theorem dJ6_getChars_ba4f3_31 : decode cJ6_getChars_ba4f3 31 = .ok (.idiv, 1) := by decide +kernel
theorem dJ6_getChars_ba4f3_32 : decode cJ6_getChars_ba4f3 32 = .ok (.istore_n 3, 1) := by decide +kernel
theorem dJ6_getChars_ba4f3_33 : decode cJ6_getChars_ba4f3 33 = .ok (.iload_n 3, 1) := by decide +kernel
theorem dJ6_getChars_ba4f3_34 : decode cJ6_getChars_ba4f3 34 = .ok (.bipush 100, 2) := by decide +kernel
theorem dJ6_getChars_ba4f3_36 : decode cJ6_getChars_ba4f3 36 = .ok (.imul, 1) := by decide +kernel
theorem dJ6_getChars_ba4f3_37 : decode cJ6_getChars_ba4f3 37 = .ok (.iload_n 0, 1) := by decide +kernel
theorem dJ6_getChars_ba4f3_38 : decode cJ6_getChars_ba4f3 38 = .ok (.isub, 1) := by decide +kernel
theorem dJ6_getChars_ba4f3_39 : decode cJ6_getChars_ba4f3 39 = .ok (.istore 4, 2) := by decide +kernel
theorem dJ6_getChars_ba4f3_41 : decode cJ6_getChars_ba4f3 41 = .ok (.iload_n 3, 1) := by decide +kernel
theorem dJ6_getChars_ba4f3_42 : decode cJ6_getChars_ba4f3 42 = .ok (.istore_n 0, 1) := by decide +kernel
theorem dJ6_getChars_ba4f3_43 : decode cJ6_getChars_ba4f3 43 = .ok (.aload_n 2, 1) := by decide +kernel
theorem dJ6_getChars_ba4f3_44 : decode cJ6_getChars_ba4f3 44 = .ok (.iinc 5 (-1), 3) := by decide +kernel
theorem dJ6_getChars_ba4f3_47 : decode cJ6_getChars_ba4f3 47 = .ok (.iload 5, 2) := by decide +kernel
theorem dJ6_getChars_ba4f3_49 : decode cJ6_getChars_ba4f3 49 = .ok (.getstatic 83, 3) := by decide +kernel
theorem dJ6_getChars_ba4f3_52 : decode cJ6_getChars_ba4f3 52 = .ok (.iload 4, 2) := by decide +kernel
theorem dJ6_getChars_ba4f3_54 : decode cJ6_getChars_ba4f3 54 = .ok (.baload, 1) := by decide +kernel
theorem dJ6_getChars_ba4f3_55 : decode cJ6_getChars_ba4f3 55 = .ok (.bastore, 1) := by decide +kernel
theorem dJ6_getChars_ba4f3_56 : decode cJ6_getChars_ba4f3 56 = .ok (.aload_n 2, 1) := by decide +kernel
theorem dJ6_getChars_ba4f3_57 : decode cJ6_getChars_ba4f3 57 = .ok (.iinc 5 (-1), 3) := by decide +kernel
theorem dJ6_getChars_ba4f3_60 : decode cJ6_getChars_ba4f3 60 = .ok (.iload 5, 2) := by decide +kernel
theorem dJ6_getChars_ba4f3_62 : decode cJ6_getChars_ba4f3 62 = .ok (.getstatic 87, 3) := by decide +kernel
theorem dJ6_getChars_ba4f3_65 : decode cJ6_getChars_ba4f3 65 = .ok (.iload 4, 2) := by decide +kernel
theorem dJ6_getChars_ba4f3_67 : decode cJ6_getChars_ba4f3 67 = .ok (.baload, 1) := by decide +kernel
theorem dJ6_getChars_ba4f3_68 : decode cJ6_getChars_ba4f3 68 = .ok (.bastore, 1) := by decide +kernel
theorem dJ6_getChars_ba4f3_69 : decode cJ6_getChars_ba4f3 69 = .ok (.goto (-47), 3) := by decide +kernel
theorem dJ6_getChars_ba4f3_72 : decode cJ6_getChars_ba4f3 72 = .ok (.aload_n 2, 1) := by decide +kernel
theorem dJ6_getChars_ba4f3_73 : decode cJ6_getChars_ba4f3 73 = .ok (.iinc 5 (-1), 3) := by decide +kernel
theorem dJ6_getChars_ba4f3_76 : decode cJ6_getChars_ba4f3 76 = .ok (.iload 5, 2) := by decide +kernel
theorem dJ6_getChars_ba4f3_78 : decode cJ6_getChars_ba4f3 78 = .ok (.getstatic 83, 3) := by decide +kernel
theorem dJ6_getChars_ba4f3_81 : decode cJ6_getChars_ba4f3 81 = .ok (.iload_n 0, 1) := by decide +kernel
theorem dJ6_getChars_ba4f3_82 : decode cJ6_getChars_ba4f3 82 = .ok (.ineg, 1) := by decide +kernel
theorem dJ6_getChars_ba4f3_83 : decode cJ6_getChars_ba4f3 83 = .ok (.baload, 1) := by decide +kernel
theorem dJ6_getChars_ba4f3_84 : decode cJ6_getChars_ba4f3 84 = .ok (.bastore, 1) := by decide +kernel
theorem dJ6_getChars_ba4f3_85 : decode cJ6_getChars_ba4f3 85 = .ok (.iload_n 0, 1) := by decide +kernel
theorem dJ6_getChars_ba4f3_86 : decode cJ6_getChars_ba4f3 86 = .ok (.bipush (-9), 2) := by decide +kernel
theorem dJ6_getChars_ba4f3_88 : decode cJ6_getChars_ba4f3 88 = .ok (.if_icmp .ge 16, 3) := by decide +kernel
theorem dJ6_getChars_ba4f3_91 : decode cJ6_getChars_ba4f3 91 = .ok (.aload_n 2, 1) := by decide +kernel
theorem dJ6_getChars_ba4f3_92 : decode cJ6_getChars_ba4f3 92 = .ok (.iinc 5 (-1), 3) := by decide +kernel
theorem dJ6_getChars_ba4f3_95 : decode cJ6_getChars_ba4f3 95 = .ok (.iload 5, 2) := by decide +kernel
theorem dJ6_getChars_ba4f3_97 : decode cJ6_getChars_ba4f3 97 = .ok (.getstatic 87, 3) := by decide +kernel
theorem dJ6_getChars_ba4f3_100 : decode cJ6_getChars_ba4f3 100 = .ok (.iload_n 0, 1) := by decide +kernel
theorem dJ6_getChars_ba4f3_101 : decode cJ6_getChars_ba4f3 101 = .ok (.ineg, 1) := by decide +kernel
theorem dJ6_getChars_ba4f3_102 : decode cJ6_getChars_ba4f3 102 = .ok (.baload, 1) := by decide +kernel
theorem dJ6_getChars_ba4f3_103 : decode cJ6_getChars_ba4f3 103 = .ok (.bastore, 1) := by decide +kernel
theorem dJ6_getChars_ba4f3_104 : decode cJ6_getChars_ba4f3 104 = .ok (.iload 6, 2) := by decide +kernel
theorem dJ6_getChars_ba4f3_106 : decode cJ6_getChars_ba4f3 106 = .ok (.ifCond .eq 12, 3) := by decide +kernel
theorem dJ6_getChars_ba4f3_109 : decode cJ6_getChars_ba4f3 109 = .ok (.aload_n 2, 1) := by decide +kernel
theorem dJ6_getChars_ba4f3_110 : decode cJ6_getChars_ba4f3 110 = .ok (.iinc 5 (-1), 3) := by decide +kernel
theorem dJ6_getChars_ba4f3_113 : decode cJ6_getChars_ba4f3 113 = .ok (.iload 5, 2) := by decide +kernel
theorem dJ6_getChars_ba4f3_115 : decode cJ6_getChars_ba4f3 115 = .ok (.bipush 45, 2) := by decide +kernel
theorem dJ6_getChars_ba4f3_117 : decode cJ6_getChars_ba4f3 117 = .ok (.bastore, 1) := by decide +kernel
theorem dJ6_getChars_ba4f3_118 : decode cJ6_getChars_ba4f3 118 = .ok (.iload 5, 2) := by decide +kernel
theorem dJ6_getChars_ba4f3_120 : decode cJ6_getChars_ba4f3 120 = .ok (.ireturn, 1) := by decide +kernel
theorem dJ6_stringSize_0f7a4_0 : decode cJ6_stringSize_0f7a4 0 = .ok (.iconst 1, 1) := by decide +kernel
theorem dJ6_stringSize_0f7a4_1 : decode cJ6_stringSize_0f7a4 1 = .ok (.istore_n 1, 1) := by decide +kernel
theorem dJ6_stringSize_0f7a4_2 : decode cJ6_stringSize_0f7a4 2 = .ok (.iload_n 0, 1) := by decide +kernel
theorem dJ6_stringSize_0f7a4_3 : decode cJ6_stringSize_0f7a4 3 = .ok (.ifCond .lt 8, 3) := by decide +kernel
theorem dJ6_stringSize_0f7a4_6 : decode cJ6_stringSize_0f7a4 6 = .ok (.iconst 0, 1) := by decide +kernel
theorem dJ6_stringSize_0f7a4_7 : decode cJ6_stringSize_0f7a4 7 = .ok (.istore_n 1, 1) := by decide +kernel
theorem dJ6_stringSize_0f7a4_8 : decode cJ6_stringSize_0f7a4 8 = .ok (.iload_n 0, 1) := by decide +kernel
theorem dJ6_stringSize_0f7a4_9 : decode cJ6_stringSize_0f7a4 9 = .ok (.ineg, 1) := by decide +kernel
theorem dJ6_stringSize_0f7a4_10 : decode cJ6_stringSize_0f7a4 10 = .ok (.istore_n 0, 1) := by decide +kernel
theorem dJ6_stringSize_0f7a4_11 : decode cJ6_stringSize_0f7a4 11 = .ok (.bipush (-10), 2) := by decide +kernel
theorem dJ6_stringSize_0f7a4_13 : decode cJ6_stringSize_0f7a4 13 = .ok (.istore_n 2, 1) := by decide +kernel
theorem dJ6_stringSize_0f7a4_14 : decode cJ6_stringSize_0f7a4 14 = .ok (.iconst 1, 1) := by decide +kernel
theorem dJ6_stringSize_0f7a4_15 : decode cJ6_stringSize_0f7a4 15 = .ok (.istore_n 3, 1) := by decide +kernel
theorem dJ6_stringSize_0f7a4_16 : decode cJ6_stringSize_0f7a4 16 = .ok (.iload_n 3, 1) := by decide +kernel
theorem dJ6_stringSize_0f7a4_17 : decode cJ6_stringSize_0f7a4 17 = .ok (.bipush 10, 2) := by decide +kernel
theorem dJ6_stringSize_0f7a4_19 : decode cJ6_stringSize_0f7a4 19 = .ok (.if_icmp .ge 23, 3) := by decide +kernel
theorem dJ6_stringSize_0f7a4_22 : decode cJ6_stringSize_0f7a4 22 = .ok (.iload_n 0, 1) := by decide +kernel
theorem dJ6_stringSize_0f7a4_23 : decode cJ6_stringSize_0f7a4 23 = .ok (.iload_n 2, 1) := by decide +kernel
theorem dJ6_stringSize_0f7a4_24 : decode cJ6_stringSize_0f7a4 24 = .ok (.if_icmp .le 7, 3) := by decide +kernel
theorem dJ6_stringSize_0f7a4_27 : decode cJ6_stringSize_0f7a4 27 = .ok (.iload_n 3, 1) := by decide +kernel
theorem dJ6_stringSize_0f7a4_28 : decode cJ6_stringSize_0f7a4 28 = .ok (.iload_n 1, 1) := by decide +kernel
theorem dJ6_stringSize_0f7a4_29 : decode cJ6_stringSize_0f7a4 29 = .ok (.iadd, 1) := by decide +kernel
theorem dJ6_stringSize_0f7a4_30 : decode cJ6_stringSize_0f7a4 30 = .ok (.ireturn, 1) := by decide +kernel
theorem dJ6_stringSize_0f7a4_31 : decode cJ6_stringSize_0f7a4 31 = .ok (.bipush 10, 2) := by decide +kernel
theorem dJ6_stringSize_0f7a4_33 : decode cJ6_stringSize_0f7a4 33 = .ok (.iload_n 2, 1) := by decide +kernel
theorem dJ6_stringSize_0f7a4_34 : decode cJ6_stringSize_0f7a4 34 = .ok (.imul, 1) := by decide +kernel
theorem dJ6_stringSize_0f7a4_35 : decode cJ6_stringSize_0f7a4 35 = .ok (.istore_n 2, 1) := by decide +kernel
theorem dJ6_stringSize_0f7a4_36 : decode cJ6_stringSize_0f7a4 36 = .ok (.iinc 3 1, 3) := by decide +kernel
theorem dJ6_stringSize_0f7a4_39 : decode cJ6_stringSize_0f7a4 39 = .ok (.goto (-23), 3) := by decide +kernel
theorem dJ6_stringSize_0f7a4_42 : decode cJ6_stringSize_0f7a4 42 = .ok (.bipush 10, 2) := by decide +kernel
theorem dJ6_stringSize_0f7a4_44 : decode cJ6_stringSize_0f7a4 44 = .ok (.iload_n 1, 1) := by decide +kernel
theorem dJ6_stringSize_0f7a4_45 : decode cJ6_stringSize_0f7a4 45 = .ok (.iadd, 1) := by decide +kernel
theorem dJ6_stringSize_0f7a4_46 : decode cJ6_stringSize_0f7a4 46 = .ok (.ireturn, 1) := by decide +kernel
theorem dJ9_max_7cf53_0 : decode cJ9_max_7cf53 0 = .ok (.iload_n 0, 1) := by decide +kernel
theorem dJ9_max_7cf53_1 : decode cJ9_max_7cf53 1 = .ok (.iload_n 1, 1) := by decide +kernel
theorem dJ9_max_7cf53_2 : decode cJ9_max_7cf53 2 = .ok (.if_icmp .lt 7, 3) := by decide +kernel
theorem dJ9_max_7cf53_5 : decode cJ9_max_7cf53 5 = .ok (.iload_n 0, 1) := by decide +kernel
theorem dJ9_max_7cf53_6 : decode cJ9_max_7cf53 6 = .ok (.goto 4, 3) := by decide +kernel
theorem dJ9_max_7cf53_9 : decode cJ9_max_7cf53 9 = .ok (.iload_n 1, 1) := by decide +kernel
theorem dJ9_max_7cf53_10 : decode cJ9_max_7cf53 10 = .ok (.ireturn, 1) := by decide +kernel
theorem dJ9_min_7cf53_0 : decode cJ9_min_7cf53 0 = .ok (.iload_n 0, 1) := by decide +kernel
theorem dJ9_min_7cf53_1 : decode cJ9_min_7cf53 1 = .ok (.iload_n 1, 1) := by decide +kernel
theorem dJ9_min_7cf53_2 : decode cJ9_min_7cf53 2 = .ok (.if_icmp .gt 7, 3) := by decide +kernel
theorem dJ9_min_7cf53_5 : decode cJ9_min_7cf53 5 = .ok (.iload_n 0, 1) := by decide +kernel
theorem dJ9_min_7cf53_6 : decode cJ9_min_7cf53 6 = .ok (.goto 4, 3) := by decide +kernel
theorem dJ9_min_7cf53_9 : decode cJ9_min_7cf53 9 = .ok (.iload_n 1, 1) := by decide +kernel
theorem dJ9_min_7cf53_10 : decode cJ9_min_7cf53 10 = .ok (.ireturn, 1) := by decide +kernel
set_option maxRecDepth 20000 in
theorem ggJ0_init_81219_J0_init_db425 : GoodIn wsJ0_init_81219 wsJ0_init_db425 := goodIn_r _ [4, 5, 6, 7, 8, 9, 10, 11, 12, 13, 14, 15, 16, 17, 18, 19, 20, 21, 22, 23, 24, 25, 26, 27, 28, 29, 30, 31, 32, 33, 34, 35, 36, 37, 38, 39, 40, 41, 42, 43, 44, 45, 46, 47, 48, 49, 50, 51, 52, 53, 54, 55, 56, 57, 58, 59, 60, 61, 62, 63, 64, 65, 66, 67, 68, 69, 70, 71, 72, 73, 74, 75, 76, 77, 3, 78, 79, 80, 81, 82, 83, 84, 85, 86, 87, 88, 89, 90, 91, 92, 93, 94, 95, 96, 97, 98, 99, 100, 101, 102, 103, 104, 105] (by decide +kernel) (by decide +kernel)
set_option maxRecDepth 20000 in
theorem gJ0_init_81219_J0_init_db425 : GoodIn wsJ0_init_81219 (wsJ0_init_db425) := ggJ0_init_81219_J0_init_db425
theorem dJ0_init_81219_0 : decode cJ0_init_81219 0 = .ok (.aload_n 0, 1) := by decide +kernel
theorem dJ0_init_81219_1 : decode cJ0_init_81219 1 = .ok (.aload_n 1, 1) := by decide +kernel
theorem dJ0_init_81219_2 : decode cJ0_init_81219 2 = .ok (.aconst_null, 1) := by decide +kernel
theorem dJ0_init_81219_3 : decode cJ0_init_81219 3 = .ok (.invokespecial 489, 3) := by decide +kernel
theorem dJ0_init_81219_6 : decode cJ0_init_81219 6 = .ok (.return_, 1) := by decide +kernel
set_option maxRecDepth 20000 in
theorem ggJ0_length_8abf5_J0_coder_7d493 : GoodIn wsJ0_length_8abf5 wsJ0_coder_7d493 := goodIn_r _ [6, 7, 8, 9, 10, 11, 12] (by decide +kernel) (by decide +kernel)
set_option maxRecDepth 20000 in
theorem gJ0_length_8abf5_J0_coder_7d493 : GoodIn wsJ0_length_8abf5 (wsV RJ0 335 RJ0 yJ0_coder_7d493 wsJ0_coder_7d493) := goodIn_app (goodIn_of _ (by decide +kernel)) ggJ0_length_8abf5_J0_coder_7d493
theorem dJ0_length_8abf5_0 : decode cJ0_length_8abf5 0 = .ok (.aload_n 0, 1) := by decide +kernel
theorem dJ0_length_8abf5_1 : decode cJ0_length_8abf5 1 = .ok (.getfield 9, 3) := by decide +kernel
theorem dJ0_length_8abf5_4 : decode cJ0_length_8abf5 4 = .ok (.arraylength, 1) := by decide +kernel
theorem dJ0_length_8abf5_5 : decode cJ0_length_8abf5 5 = .ok (.aload_n 0, 1) := by decide +kernel
theorem dJ0_length_8abf5_6 : decode cJ0_length_8abf5 6 = .ok (.invokevirtual 335, 3) := by decide +kernel
theorem dJ0_length_8abf5_9 : decode cJ0_length_8abf5 9 = .ok (.ishr, 1) := by decide +kernel
theorem dJ0_length_8abf5_10 : decode cJ0_length_8abf5 10 = .ok (.ireturn, 1) := by decide +kernel
set_option maxRecDepth 20000 in
theorem ggJ0_charAt_5068e_J0_isLatin1_aae02 : GoodIn wsJ0_charAt_5068e wsJ0_isLatin1_aae02 := goodIn_r _ [6, 7, 8, 38, 39, 40, 41] (by decide +kernel) (by decide +kernel)
set_option maxRecDepth 20000 in
theorem gJ0_charAt_5068e_J0_isLatin1_aae02 : GoodIn wsJ0_charAt_5068e (wsV RJ0 492 RJ0 yJ0_isLatin1_aae02 wsJ0_isLatin1_aae02) := goodIn_app (goodIn_of _ (by decide +kernel)) ggJ0_charAt_5068e_J0_isLatin1_aae02
set_option maxRecDepth 20000 in
theorem ggJ0_charAt_5068e_J1_charAt_3b067 : GoodIn wsJ0_charAt_5068e wsJ1_charAt_3b067 := goodIn_r _ [12, 13, 14, 5, 15, 16, 17, 18, 19, 20] (by decide +kernel) (by decide +kernel)
set_option maxRecDepth 20000 in
theorem gJ0_charAt_5068e_J1_charAt_3b067 : GoodIn wsJ0_charAt_5068e (va_wsS RJ0 495 yJ1_charAt_3b067 wsJ1_charAt_3b067) := goodIn_app (goodIn_of _ (by decide +kernel)) ggJ0_charAt_5068e_J1_charAt_3b067
set_option maxRecDepth 20000 in
theorem ggJ0_charAt_5068e_J2_charAt_3b067 : GoodIn wsJ0_charAt_5068e wsJ2_charAt_3b067 := goodIn_r _ [24, 25, 26, 23, 27, 28, 29, 30, 31, 14, 5, 15, 16, 17, 18, 19, 20, 32, 33, 34, 35, 36, 37] (by decide +kernel) (by decide +kernel)
set_option maxRecDepth 20000 in
theorem gJ0_charAt_5068e_J2_charAt_3b067 : GoodIn wsJ0_charAt_5068e (va_wsS RJ0 498 yJ2_charAt_3b067 wsJ2_charAt_3b067) := goodIn_app (goodIn_of _ (by decide +kernel)) ggJ0_charAt_5068e_J2_charAt_3b067
theorem dJ0_charAt_5068e_0 : decode cJ0_charAt_5068e 0 = .ok (.aload_n 0, 1) := by decide +kernel
theorem dJ0_charAt_5068e_1 : decode cJ0_charAt_5068e 1 = .ok (.invokevirtual 492, 3) := by decide +kernel
theorem dJ0_charAt_5068e_4 : decode cJ0_charAt_5068e 4 = .ok (.ifCond .eq 12, 3) := by decide +kernel
theorem dJ0_charAt_5068e_7 : decode cJ0_charAt_5068e 7 = .ok (.aload_n 0, 1) := by decide +kernel
theorem dJ0_charAt_5068e_8 : decode cJ0_charAt_5068e 8 = .ok (.getfield 9, 3) := by decide +kernel
theorem dJ0_charAt_5068e_11 : decode cJ0_charAt_5068e 11 = .ok (.iload_n 1, 1) := by decide +kernel
theorem dJ0_charAt_5068e_12 : decode cJ0_charAt_5068e 12 = .ok (.invokestatic 495, 3) := by decide +kernel
theorem dJ0_charAt_5068e_15 : decode cJ0_charAt_5068e 15 = .ok (.ireturn, 1) := by decide +kernel
theorem dJ0_charAt_5068e_16 : decode cJ0_charAt_5068e 16 = .ok (.aload_n 0, 1) := by decide +kernel
theorem dJ0_charAt_5068e_17 : decode cJ0_charAt_5068e 17 = .ok (.getfield 9, 3) := by decide +kernel
theorem dJ0_charAt_5068e_20 : decode cJ0_charAt_5068e 20 = .ok (.iload_n 1, 1) := by decide +kernel
theorem dJ0_charAt_5068e_21 : decode cJ0_charAt_5068e 21 = .ok (.invokestatic 498, 3) := by decide +kernel
theorem dJ0_charAt_5068e_24 : decode cJ0_charAt_5068e 24 = .ok (.ireturn, 1) := by decide +kernel
set_option maxRecDepth 20000 in
theorem ggJ0_getBytes_840e7_J0_coder_7d493 : GoodIn wsJ0_getBytes_840e7 wsJ0_coder_7d493 := goodIn_r _ [10, 11, 12, 41, 42, 43, 44] (by decide +kernel) (by decide +kernel)
set_option maxRecDepth 20000 in
theorem gJ0_getBytes_840e7_J0_coder_7d493 : GoodIn wsJ0_getBytes_840e7 (wsV RJ0 335 RJ0 yJ0_coder_7d493 wsJ0_coder_7d493) := goodIn_app (goodIn_of _ (by decide +kernel)) ggJ0_getBytes_840e7_J0_coder_7d493
set_option maxRecDepth 20000 in
theorem ggJ0_getBytes_840e7_J1_inflate_0e8fd : GoodIn wsJ0_getBytes_840e7 wsJ1_inflate_0e8fd := goodIn_r _ [16, 17, 18, 19, 20, 21, 22, 23, 24, 25, 26, 27, 28, 9, 29, 30, 31, 32, 33, 34, 35, 36, 37, 38, 39, 40] (by decide +kernel) (by decide +kernel)
set_option maxRecDepth 20000 in
theorem gJ0_getBytes_840e7_J1_inflate_0e8fd : GoodIn wsJ0_getBytes_840e7 (va_wsS RJ0 106 yJ1_inflate_0e8fd wsJ1_inflate_0e8fd) := goodIn_app (goodIn_of _ (by decide +kernel)) ggJ0_getBytes_840e7_J1_inflate_0e8fd
theorem dJ0_getBytes_840e7_0 : decode cJ0_getBytes_840e7 0 = .ok (.aload_n 0, 1) := by decide +kernel
theorem dJ0_getBytes_840e7_1 : decode cJ0_getBytes_840e7 1 = .ok (.invokevirtual 335, 3) := by decide +kernel
theorem dJ0_getBytes_840e7_4 : decode cJ0_getBytes_840e7 4 = .ok (.iload_n 3, 1) := by decide +kernel
theorem dJ0_getBytes_840e7_5 : decode cJ0_getBytes_840e7 5 = .ok (.if_icmp .ne 23, 3) := by decide +kernel
theorem dJ0_getBytes_840e7_8 : decode cJ0_getBytes_840e7 8 = .ok (.aload_n 0, 1) := by decide +kernel
theorem dJ0_getBytes_840e7_9 : decode cJ0_getBytes_840e7 9 = .ok (.getfield 9, 3) := by decide +kernel
theorem dJ0_getBytes_840e7_12 : decode cJ0_getBytes_840e7 12 = .ok (.iconst 0, 1) := by decide +kernel
theorem dJ0_getBytes_840e7_13 : decode cJ0_getBytes_840e7 13 = .ok (.aload_n 1, 1) := by decide +kernel
theorem dJ0_getBytes_840e7_14 : decode cJ0_getBytes_840e7 14 = .ok (.iload_n 2, 1) := by decide +kernel
theorem dJ0_getBytes_840e7_15 : decode cJ0_getBytes_840e7 15 = .ok (.iload_n 3, 1) := by decide +kernel
theorem dJ0_getBytes_840e7_16 : decode cJ0_getBytes_840e7 16 = .ok (.ishl, 1) := by decide +kernel
theorem dJ0_getBytes_840e7_17 : decode cJ0_getBytes_840e7 17 = .ok (.aload_n 0, 1) := by decide +kernel
theorem dJ0_getBytes_840e7_18 : decode cJ0_getBytes_840e7 18 = .ok (.getfield 9, 3) := by decide +kernel
theorem dJ0_getBytes_840e7_21 : decode cJ0_getBytes_840e7 21 = .ok (.arraylength, 1) := by decide +kernel
theorem dJ0_getBytes_840e7_22 : decode cJ0_getBytes_840e7 22 = .ok (.invokestatic 212, 3) := by decide +kernel
theorem dJ0_getBytes_840e7_25 : decode cJ0_getBytes_840e7 25 = .ok (.goto 18, 3) := by decide +kernel
theorem dJ0_getBytes_840e7_28 : decode cJ0_getBytes_840e7 28 = .ok (.aload_n 0, 1) := by decide +kernel
theorem dJ0_getBytes_840e7_29 : decode cJ0_getBytes_840e7 29 = .ok (.getfield 9, 3) := by decide +kernel
theorem dJ0_getBytes_840e7_32 : decode cJ0_getBytes_840e7 32 = .ok (.iconst 0, 1) := by decide +kernel
theorem dJ0_getBytes_840e7_33 : decode cJ0_getBytes_840e7 33 = .ok (.aload_n 1, 1) := by decide +kernel
theorem dJ0_getBytes_840e7_34 : decode cJ0_getBytes_840e7 34 = .ok (.iload_n 2, 1) := by decide +kernel
theorem dJ0_getBytes_840e7_35 : decode cJ0_getBytes_840e7 35 = .ok (.aload_n 0, 1) := by decide +kernel
theorem dJ0_getBytes_840e7_36 : decode cJ0_getBytes_840e7 36 = .ok (.getfield 9, 3) := by decide +kernel
theorem dJ0_getBytes_840e7_39 : decode cJ0_getBytes_840e7 39 = .ok (.arraylength, 1) := by decide +kernel
theorem dJ0_getBytes_840e7_40 : decode cJ0_getBytes_840e7 40 = .ok (.invokestatic 106, 3) := by decide +kernel
theorem dJ0_getBytes_840e7_43 : decode cJ0_getBytes_840e7 43 = .ok (.return_, 1) := by decide +kernel
set_option maxRecDepth 20000 in
theorem ggJ0_init_db425_J5_getValue_6d5f1 : GoodIn wsJ0_init_db425 wsJ5_getValue_6d5f1 := goodIn_r _ [13, 14, 99, 100, 101, 102] (by decide +kernel) (by decide +kernel)
set_option maxRecDepth 20000 in
theorem gJ0_init_db425_J5_getValue_6d5f1_u552J4 : GoodIn wsJ0_init_db425 (va_wsU RJ0 552 RJ4 "java/lang/AbstractStringBuilder" ⟨"java/lang/AbstractStringBuilder", "getValue", "()[B"⟩ yJ5_getValue_6d5f1 wsJ5_getValue_6d5f1) := goodIn_app (goodIn_of _ (by decide +kernel)) ggJ0_init_db425_J5_getValue_6d5f1
set_option maxRecDepth 20000 in
theorem ggJ0_init_db425_J4_length_8abf5 : GoodIn wsJ0_init_db425 wsJ4_length_8abf5 := goodIn_r _ [21, 22, 16, 23, 24, 12, 25, 26, 99, 100, 101, 102] (by decide +kernel) (by decide +kernel)
set_option maxRecDepth 20000 in
theorem gJ0_init_db425_J4_length_8abf5_u549J4 : GoodIn wsJ0_init_db425 (va_wsO RJ0 549 RJ4 "java/lang/AbstractStringBuilder" ⟨"java/lang/AbstractStringBuilder", "length", "()I"⟩ yJ4_length_8abf5 wsJ4_length_8abf5) := goodIn_app (goodIn_of _ (by decide +kernel)) ggJ0_init_db425_J4_length_8abf5
set_option maxRecDepth 20000 in
theorem ggJ0_init_db425_J5_isLatin1_aae02 : GoodIn wsJ0_init_db425 wsJ5_isLatin1_aae02 := goodIn_r _ [31, 32, 33, 99, 100, 101, 102] (by decide +kernel) (by decide +kernel)
set_option maxRecDepth 20000 in
theorem gJ0_init_db425_J5_isLatin1_aae02_u1047J4 : GoodIn wsJ0_init_db425 (va_wsU RJ0 1047 RJ4 "java/lang/AbstractStringBuilder" ⟨"java/lang/AbstractStringBuilder", "isLatin1", "()Z"⟩ yJ5_isLatin1_aae02 wsJ5_isLatin1_aae02) := goodIn_app (goodIn_of _ (by decide +kernel)) ggJ0_init_db425_J5_isLatin1_aae02
set_option maxRecDepth 20000 in
theorem ggJ0_init_db425_J7_copyOfRange_39247 : GoodIn wsJ0_init_db425 wsJ7_copyOfRange_39247 := goodIn_r _ [37, 38, 39, 40, 41, 42, 43, 44, 45, 36, 46, 47, 48, 49, 50, 51, 52, 53, 54, 55, 56, 57, 58] (by decide +kernel) (by decide +kernel)
set_option maxRecDepth 20000 in
theorem gJ0_init_db425_J7_copyOfRange_39247 : GoodIn wsJ0_init_db425 (va_wsS RJ0 54 yJ7_copyOfRange_39247 wsJ7_copyOfRange_39247) := goodIn_app (goodIn_of _ (by decide +kernel)) ggJ0_init_db425_J7_copyOfRange_39247
set_option maxRecDepth 20000 in
theorem ggJ0_init_db425_J2_compress_39247 : GoodIn wsJ0_init_db425 wsJ2_compress_39247 := goodIn_r _ [62, 47, 63, 64, 61, 65, 66, 67, 68, 69, 70, 71, 72, 73, 74, 75, 76, 77, 78, 79, 80, 81, 82, 83, 84, 85, 86, 87, 88, 89, 90, 91, 35, 36, 37, 38, 39, 40, 41, 42, 43, 44, 45, 46, 48, 49, 50, 51, 52, 53, 54, 55, 56, 57, 58] (by decide +kernel) (by decide +kernel)
set_option maxRecDepth 20000 in
theorem gJ0_init_db425_J2_compress_39247 : GoodIn wsJ0_init_db425 (va_wsS RJ0 1051 yJ2_compress_39247 wsJ2_compress_39247) := goodIn_app (goodIn_of _ (by decide +kernel)) ggJ0_init_db425_J2_compress_39247
set_option maxRecDepth 20000 in
theorem ggJ0_init_db425_J2_coderFromArrayLen_85cad : GoodIn wsJ0_init_db425 wsJ2_coderFromArrayLen_85cad := goodIn_r _ [94] (by decide +kernel) (by decide +kernel)
set_option maxRecDepth 20000 in
theorem gJ0_init_db425_J2_coderFromArrayLen_85cad : GoodIn wsJ0_init_db425 (va_wsS RJ0 47 yJ2_coderFromArrayLen_85cad wsJ2_coderFromArrayLen_85cad) := goodIn_app (goodIn_of _ (by decide +kernel)) ggJ0_init_db425_J2_coderFromArrayLen_85cad
theorem dJ0_init_db425_0 : decode cJ0_init_db425 0 = .ok (.aload_n 0, 1) := by decide +kernel
theorem dJ0_init_db425_1 : decode cJ0_init_db425 1 = .ok (.invokespecial 1, 3) := by decide +kernel
theorem dJ0_init_db425_4 : decode cJ0_init_db425 4 = .ok (.aload_n 1, 1) := by decide +kernel
theorem dJ0_init_db425_5 : decode cJ0_init_db425 5 = .ok (.invokevirtual 552, 3) := by decide +kernel
theorem dJ0_init_db425_8 : decode cJ0_init_db425 8 = .ok (.astore_n 3, 1) := by decide +kernel
theorem dJ0_init_db425_9 : decode cJ0_init_db425 9 = .ok (.aload_n 1, 1) := by decide +kernel
theorem dJ0_init_db425_10 : decode cJ0_init_db425 10 = .ok (.invokevirtual 549, 3) := by decide +kernel
theorem dJ0_init_db425_13 : decode cJ0_init_db425 13 = .ok (.istore 4, 2) := by decide +kernel
theorem dJ0_init_db425_15 : decode cJ0_init_db425 15 = .ok (.aload_n 1, 1) := by decide +kernel
theorem dJ0_init_db425_16 : decode cJ0_init_db425 16 = .ok (.invokevirtual 1047, 3) := by decide +kernel
theorem dJ0_init_db425_19 : decode cJ0_init_db425 19 = .ok (.ifCond .eq 22, 3) := by decide +kernel
theorem dJ0_init_db425_22 : decode cJ0_init_db425 22 = .ok (.aload_n 0, 1) := by decide +kernel
theorem dJ0_init_db425_23 : decode cJ0_init_db425 23 = .ok (.iconst 0, 1) := by decide +kernel
theorem dJ0_init_db425_24 : decode cJ0_init_db425 24 = .ok (.putfield 15, 3) := by decide +kernel
theorem dJ0_init_db425_27 : decode cJ0_init_db425 27 = .ok (.aload_n 0, 1) := by decide +kernel
theorem dJ0_init_db425_28 : decode cJ0_init_db425 28 = .ok (.aload_n 3, 1) := by decide +kernel
theorem dJ0_init_db425_29 : decode cJ0_init_db425 29 = .ok (.iconst 0, 1) := by decide +kernel
theorem dJ0_init_db425_30 : decode cJ0_init_db425 30 = .ok (.iload 4, 2) := by decide +kernel
theorem dJ0_init_db425_32 : decode cJ0_init_db425 32 = .ok (.invokestatic 54, 3) := by decide +kernel
theorem dJ0_init_db425_35 : decode cJ0_init_db425 35 = .ok (.putfield 9, 3) := by decide +kernel
theorem dJ0_init_db425_38 : decode cJ0_init_db425 38 = .ok (.goto 59, 3) := by decide +kernel
theorem dJ0_init_db425_41 : decode cJ0_init_db425 41 = .ok (.getstatic 38, 3) := by decide +kernel
theorem dJ0_init_db425_44 : decode cJ0_init_db425 44 = .ok (.ifCond .eq 35, 3) := by decide +kernel
theorem dJ0_init_db425_47 : decode cJ0_init_db425 47 = .ok (.aload_n 1, 1) := by decide +kernel
theorem dJ0_init_db425_48 : decode cJ0_init_db425 48 = .ok (.getfield 1048, 3) := by decide +kernel
theorem dJ0_init_db425_51 : decode cJ0_init_db425 51 = .ok (.ifCond .eq 28, 3) := by decide +kernel
theorem dJ0_init_db425_54 : decode cJ0_init_db425 54 = .ok (.aload_n 0, 1) := by decide +kernel
theorem dJ0_init_db425_55 : decode cJ0_init_db425 55 = .ok (.aload_n 3, 1) := by decide +kernel
theorem dJ0_init_db425_56 : decode cJ0_init_db425 56 = .ok (.iconst 0, 1) := by decide +kernel
theorem dJ0_init_db425_57 : decode cJ0_init_db425 57 = .ok (.iload 4, 2) := by decide +kernel
theorem dJ0_init_db425_59 : decode cJ0_init_db425 59 = .ok (.invokestatic 1051, 3) := by decide +kernel
theorem dJ0_init_db425_62 : decode cJ0_init_db425 62 = .ok (.putfield 9, 3) := by decide +kernel
theorem dJ0_init_db425_65 : decode cJ0_init_db425 65 = .ok (.aload_n 0, 1) := by decide +kernel
theorem dJ0_init_db425_66 : decode cJ0_init_db425 66 = .ok (.aload_n 0, 1) := by decide +kernel
theorem dJ0_init_db425_67 : decode cJ0_init_db425 67 = .ok (.getfield 9, 3) := by decide +kernel
theorem dJ0_init_db425_70 : decode cJ0_init_db425 70 = .ok (.iload 4, 2) := by decide +kernel
theorem dJ0_init_db425_72 : decode cJ0_init_db425 72 = .ok (.invokestatic 47, 3) := by decide +kernel
theorem dJ0_init_db425_75 : decode cJ0_init_db425 75 = .ok (.putfield 15, 3) := by decide +kernel
theorem dJ0_init_db425_78 : decode cJ0_init_db425 78 = .ok (.return_, 1) := by decide +kernel
theorem dJ0_init_db425_79 : decode cJ0_init_db425 79 = .ok (.aload_n 0, 1) := by decide +kernel
theorem dJ0_init_db425_80 : decode cJ0_init_db425 80 = .ok (.iconst 1, 1) := by decide +kernel
theorem dJ0_init_db425_81 : decode cJ0_init_db425 81 = .ok (.putfield 15, 3) := by decide +kernel
theorem dJ0_init_db425_84 : decode cJ0_init_db425 84 = .ok (.aload_n 0, 1) := by decide +kernel
theorem dJ0_init_db425_85 : decode cJ0_init_db425 85 = .ok (.aload_n 3, 1) := by decide +kernel
theorem dJ0_init_db425_86 : decode cJ0_init_db425 86 = .ok (.iconst 0, 1) := by decide +kernel
theorem dJ0_init_db425_87 : decode cJ0_init_db425 87 = .ok (.iload 4, 2) := by decide +kernel
theorem dJ0_init_db425_89 : decode cJ0_init_db425 89 = .ok (.iconst 1, 1) := by decide +kernel
theorem dJ0_init_db425_90 : decode cJ0_init_db425 90 = .ok (.ishl, 1) := by decide +kernel
theorem dJ0_init_db425_91 : decode cJ0_init_db425 91 = .ok (.invokestatic 54, 3) := by decide +kernel
theorem dJ0_init_db425_94 : decode cJ0_init_db425 94 = .ok (.putfield 9, 3) := by decide +kernel
theorem dJ0_init_db425_97 : decode cJ0_init_db425 97 = .ok (.return_, 1) := by decide +kernel
theorem dJ0_coder_7d493_0 : decode cJ0_coder_7d493 0 = .ok (.getstatic 38, 3) := by decide +kernel
theorem dJ0_coder_7d493_3 : decode cJ0_coder_7d493 3 = .ok (.ifCond .eq 10, 3) := by decide +kernel
theorem dJ0_coder_7d493_6 : decode cJ0_coder_7d493 6 = .ok (.aload_n 0, 1) := by decide +kernel
theorem dJ0_coder_7d493_7 : decode cJ0_coder_7d493 7 = .ok (.getfield 15, 3) := by decide +kernel
theorem dJ0_coder_7d493_10 : decode cJ0_coder_7d493 10 = .ok (.goto 4, 3) := by decide +kernel
theorem dJ0_coder_7d493_13 : decode cJ0_coder_7d493 13 = .ok (.iconst 1, 1) := by decide +kernel
theorem dJ0_coder_7d493_14 : decode cJ0_coder_7d493 14 = .ok (.ireturn, 1) := by decide +kernel
theorem dJ0_isLatin1_aae02_0 : decode cJ0_isLatin1_aae02 0 = .ok (.getstatic 38, 3) := by decide +kernel
theorem dJ0_isLatin1_aae02_3 : decode cJ0_isLatin1_aae02 3 = .ok (.ifCond .eq 14, 3) := by decide +kernel
theorem dJ0_isLatin1_aae02_6 : decode cJ0_isLatin1_aae02 6 = .ok (.aload_n 0, 1) := by decide +kernel
theorem dJ0_isLatin1_aae02_7 : decode cJ0_isLatin1_aae02 7 = .ok (.getfield 15, 3) := by decide +kernel
theorem dJ0_isLatin1_aae02_10 : decode cJ0_isLatin1_aae02 10 = .ok (.ifCond .ne 7, 3) := by decide +kernel
theorem dJ0_isLatin1_aae02_13 : decode cJ0_isLatin1_aae02 13 = .ok (.iconst 1, 1) := by decide +kernel
theorem dJ0_isLatin1_aae02_14 : decode cJ0_isLatin1_aae02 14 = .ok (.goto 4, 3) := by decide +kernel
theorem dJ0_isLatin1_aae02_17 : decode cJ0_isLatin1_aae02 17 = .ok (.iconst 0, 1) := by decide +kernel
theorem dJ0_isLatin1_aae02_18 : decode cJ0_isLatin1_aae02 18 = .ok (.ireturn, 1) := by decide +kernel
set_option maxRecDepth 20000 in
theorem ggJ0_checkIndex_df160_J3_checkIndex_8e157 : GoodIn wsJ0_checkIndex_df160 wsJ3_checkIndex_8e157 := goodIn_r _ [5] (by decide +kernel) (by decide +kernel)
set_option maxRecDepth 20000 in
theorem gJ0_checkIndex_df160_J3_checkIndex_8e157 : GoodIn wsJ0_checkIndex_df160 (va_wsS RJ0 1059 yJ3_checkIndex_8e157 wsJ3_checkIndex_8e157) := goodIn_app (goodIn_of _ (by decide +kernel)) ggJ0_checkIndex_df160_J3_checkIndex_8e157
theorem dJ0_checkIndex_df160_0 : decode cJ0_checkIndex_df160 0 = .ok (.iload_n 0, 1) := by decide +kernel
theorem dJ0_checkIndex_df160_1 : decode cJ0_checkIndex_df160 1 = .ok (.iload_n 1, 1) := by decide +kernel
theorem dJ0_checkIndex_df160_2 : decode cJ0_checkIndex_df160 2 = .ok (.getstatic 1053, 3) := by decide +kernel
theorem dJ0_checkIndex_df160_5 : decode cJ0_checkIndex_df160 5 = .ok (.invokestatic 1059, 3) := by decide +kernel
theorem dJ0_checkIndex_df160_8 : decode cJ0_checkIndex_df160 8 = .ok (.pop, 1) := by decide +kernel
theorem dJ0_checkIndex_df160_9 : decode cJ0_checkIndex_df160 9 = .ok (.return_, 1) := by decide +kernel
set_option maxRecDepth 20000 in
theorem ggJ0_checkBoundsOffCount_cabcc_J3_checkFromIndexSize_8c36e : GoodIn wsJ0_checkBoundsOffCount_cabcc wsJ3_checkFromIndexSize_8c36e := goodIn_r _ [5] (by decide +kernel) (by decide +kernel)
set_option maxRecDepth 20000 in
theorem gJ0_checkBoundsOffCount_cabcc_J3_checkFromIndexSize_8c36e : GoodIn wsJ0_checkBoundsOffCount_cabcc (va_wsS RJ0 1065 yJ3_checkFromIndexSize_8c36e wsJ3_checkFromIndexSize_8c36e) := goodIn_app (goodIn_of _ (by decide +kernel)) ggJ0_checkBoundsOffCount_cabcc_J3_checkFromIndexSize_8c36e
theorem dJ0_checkBoundsOffCount_cabcc_0 : decode cJ0_checkBoundsOffCount_cabcc 0 = .ok (.iload_n 0, 1) := by decide +kernel
theorem dJ0_checkBoundsOffCount_cabcc_1 : decode cJ0_checkBoundsOffCount_cabcc 1 = .ok (.iload_n 1, 1) := by decide +kernel
theorem dJ0_checkBoundsOffCount_cabcc_2 : decode cJ0_checkBoundsOffCount_cabcc 2 = .ok (.iload_n 2, 1) := by decide +kernel
theorem dJ0_checkBoundsOffCount_cabcc_3 : decode cJ0_checkBoundsOffCount_cabcc 3 = .ok (.getstatic 1053, 3) := by decide +kernel
theorem dJ0_checkBoundsOffCount_cabcc_6 : decode cJ0_checkBoundsOffCount_cabcc 6 = .ok (.invokestatic 1065, 3) := by decide +kernel
theorem dJ0_checkBoundsOffCount_cabcc_9 : decode cJ0_checkBoundsOffCount_cabcc 9 = .ok (.ireturn, 1) := by decide +kernel
set_option maxRecDepth 20000 in
theorem ggJ0_checkBoundsBeginEnd_23922_J3_checkFromToIndex_8c36e : GoodIn wsJ0_checkBoundsBeginEnd_23922 wsJ3_checkFromToIndex_8c36e := goodIn_r _ [5] (by decide +kernel) (by decide +kernel)
set_option maxRecDepth 20000 in
theorem gJ0_checkBoundsBeginEnd_23922_J3_checkFromToIndex_8c36e : GoodIn wsJ0_checkBoundsBeginEnd_23922 (va_wsS RJ0 1062 yJ3_checkFromToIndex_8c36e wsJ3_checkFromToIndex_8c36e) := goodIn_app (goodIn_of _ (by decide +kernel)) ggJ0_checkBoundsBeginEnd_23922_J3_checkFromToIndex_8c36e
theorem dJ0_checkBoundsBeginEnd_23922_0 : decode cJ0_checkBoundsBeginEnd_23922 0 = .ok (.iload_n 0, 1) := by decide +kernel
theorem dJ0_checkBoundsBeginEnd_23922_1 : decode cJ0_checkBoundsBeginEnd_23922 1 = .ok (.iload_n 1, 1) := by decide +kernel
theorem dJ0_checkBoundsBeginEnd_23922_2 : decode cJ0_checkBoundsBeginEnd_23922 2 = .ok (.iload_n 2, 1) := by decide +kernel
theorem dJ0_checkBoundsBeginEnd_23922_3 : decode cJ0_checkBoundsBeginEnd_23922 3 = .ok (.getstatic 1053, 3) := by decide +kernel
theorem dJ0_checkBoundsBeginEnd_23922_6 : decode cJ0_checkBoundsBeginEnd_23922 6 = .ok (.invokestatic 1062, 3) := by decide +kernel
theorem dJ0_checkBoundsBeginEnd_23922_9 : decode cJ0_checkBoundsBeginEnd_23922 9 = .ok (.pop, 1) := by decide +kernel
theorem dJ0_checkBoundsBeginEnd_23922_10 : decode cJ0_checkBoundsBeginEnd_23922 10 = .ok (.return_, 1) := by decide +kernel
set_option maxRecDepth 20000 in
theorem ggJ4_init_da8c8_J5_init_d00df : GoodIn wsJ4_init_da8c8 wsJ5_init_d00df := goodIn_r _ [4, 5, 6, 7, 8, 9, 10, 11, 12, 13, 14, 15, 16, 17, 18, 19, 20, 21, 22, 23] (by decide +kernel) (by decide +kernel)
set_option maxRecDepth 20000 in
theorem gJ4_init_da8c8_J5_init_d00df : GoodIn wsJ4_init_da8c8 (wsJ5_init_d00df) := ggJ4_init_da8c8_J5_init_d00df
theorem dJ4_init_da8c8_0 : decode cJ4_init_da8c8 0 = .ok (.aload_n 0, 1) := by decide +kernel
theorem dJ4_init_da8c8_1 : decode cJ4_init_da8c8 1 = .ok (.bipush 16, 2) := by decide +kernel
theorem dJ4_init_da8c8_3 : decode cJ4_init_da8c8 3 = .ok (.invokespecial 1, 3) := by decide +kernel
theorem dJ4_init_da8c8_6 : decode cJ4_init_da8c8 6 = .ok (.return_, 1) := by decide +kernel
set_option maxRecDepth 20000 in
theorem ggJ4_append_15ec4_J5_append_cf1ce : GoodIn wsJ4_append_15ec4 wsJ5_append_cf1ce := goodIn_r _ [6, 7, 8, 9, 10, 11, 5, 12, 13, 14, 15, 16, 17, 18, 19, 20, 21, 22, 23, 24, 25, 26, 27, 28, 29, 30, 31, 32, 33, 34, 35, 36, 37, 38, 39, 40, 41, 42, 43, 44, 45, 46, 47, 48, 49, 50, 51, 52, 53, 54, 55, 56, 57, 58, 59, 60, 61, 62, 63, 64, 65, 66, 67, 68, 69, 70, 71, 72, 73, 74, 75, 76, 77, 78, 79, 80, 81, 82, 83, 84, 85, 86, 87, 88, 89, 90, 91, 92, 93, 94, 95, 96, 97, 98, 99, 100, 101, 102, 103, 104, 105, 106, 107, 108, 109, 110, 111, 112, 113, 114, 115, 116, 117, 118, 119, 120, 121, 122, 123, 124, 125, 126, 127, 128, 129, 130, 131, 132, 133, 134, 135, 136, 137, 138, 139, 140, 141, 142, 143, 144, 145, 146, 147, 148, 149, 150] (by decide +kernel) (by decide +kernel)
set_option maxRecDepth 20000 in
theorem gJ4_append_15ec4_J5_append_cf1ce_s29 : GoodIn wsJ4_append_15ec4 (va_wsSU RJ4 29 yJ5_append_cf1ce wsJ5_append_cf1ce) := goodIn_app (goodIn_of _ (by decide +kernel)) ggJ4_append_15ec4_J5_append_cf1ce
theorem dJ4_append_15ec4_0 : decode cJ4_append_15ec4 0 = .ok (.aload_n 0, 1) := by decide +kernel
theorem dJ4_append_15ec4_1 : decode cJ4_append_15ec4 1 = .ok (.aload_n 1, 1) := by decide +kernel
theorem dJ4_append_15ec4_2 : decode cJ4_append_15ec4 2 = .ok (.invokespecial 29, 3) := by decide +kernel
theorem dJ4_append_15ec4_5 : decode cJ4_append_15ec4 5 = .ok (.pop, 1) := by decide +kernel
theorem dJ4_append_15ec4_6 : decode cJ4_append_15ec4 6 = .ok (.aload_n 0, 1) := by decide +kernel
theorem dJ4_append_15ec4_7 : decode cJ4_append_15ec4 7 = .ok (.areturn, 1) := by decide +kernel
set_option maxRecDepth 20000 in
theorem ggJ4_append_cf468_J5_append_3fe6f : GoodIn wsJ4_append_cf468 wsJ5_append_3fe6f := goodIn_r _ [6, 7, 8, 9, 10, 11, 12, 5, 13, 14, 15, 16, 17, 18, 19, 20, 21, 22, 23, 24, 25, 26, 27, 28, 29, 30, 31, 32, 33, 34, 35, 36, 37, 38, 39, 40, 41, 42, 43, 44, 45, 46, 47, 48, 49, 50, 51, 52, 53, 54, 55, 56, 57, 58, 59, 60, 61, 62, 63, 64, 65, 66, 67, 68, 69, 70, 71, 72, 73, 74, 75, 76, 77, 78, 79, 80, 81, 82, 83, 84, 85, 86, 87, 88, 89, 90, 91, 92, 93, 94, 95, 96, 97, 98, 99, 100, 101, 102, 103, 104, 105, 106, 107, 108, 109, 110, 111, 112, 113, 114, 115, 116] (by decide +kernel) (by decide +kernel)
set_option maxRecDepth 20000 in
theorem gJ4_append_cf468_J5_append_3fe6f_s50 : GoodIn wsJ4_append_cf468 (va_wsSU RJ4 50 yJ5_append_3fe6f wsJ5_append_3fe6f) := goodIn_app (goodIn_of _ (by decide +kernel)) ggJ4_append_cf468_J5_append_3fe6f
theorem dJ4_append_cf468_0 : decode cJ4_append_cf468 0 = .ok (.aload_n 0, 1) := by decide +kernel
theorem dJ4_append_cf468_1 : decode cJ4_append_cf468 1 = .ok (.iload_n 1, 1) := by decide +kernel
theorem dJ4_append_cf468_2 : decode cJ4_append_cf468 2 = .ok (.invokespecial 50, 3) := by decide +kernel
theorem dJ4_append_cf468_5 : decode cJ4_append_cf468 5 = .ok (.pop, 1) := by decide +kernel
theorem dJ4_append_cf468_6 : decode cJ4_append_cf468 6 = .ok (.aload_n 0, 1) := by decide +kernel
theorem dJ4_append_cf468_7 : decode cJ4_append_cf468 7 = .ok (.areturn, 1) := by decide +kernel
set_option maxRecDepth 20000 in
theorem ggJ4_append_bf812_J5_append_c97b9 : GoodIn wsJ4_append_bf812 wsJ5_append_c97b9 := goodIn_r _ [6, 7, 8, 9, 10, 11, 12, 13, 14, 15, 16, 5, 17, 18, 19, 20, 21, 22, 23, 24, 25, 26, 27, 28, 29, 30, 31, 32, 33, 34, 35, 36, 37, 38, 39, 40, 41, 42, 43, 44, 45, 46, 47, 48, 49, 50, 51, 52, 53, 54, 55, 56, 57, 58, 59, 60, 61, 62, 63, 64, 65, 66, 67, 68, 69, 70, 71, 72, 73, 74, 75, 76, 77, 78, 79, 80, 81, 82, 83, 84, 85, 86, 87, 88, 89, 90, 91, 92, 93, 94, 95, 96, 97, 98, 99] (by decide +kernel) (by decide +kernel)
set_option maxRecDepth 20000 in
theorem gJ4_append_bf812_J5_append_c97b9_s53 : GoodIn wsJ4_append_bf812 (va_wsSU RJ4 53 yJ5_append_c97b9 wsJ5_append_c97b9) := goodIn_app (goodIn_of _ (by decide +kernel)) ggJ4_append_bf812_J5_append_c97b9
theorem dJ4_append_bf812_0 : decode cJ4_append_bf812 0 = .ok (.aload_n 0, 1) := by decide +kernel
theorem dJ4_append_bf812_1 : decode cJ4_append_bf812 1 = .ok (.iload_n 1, 1) := by decide +kernel
theorem dJ4_append_bf812_2 : decode cJ4_append_bf812 2 = .ok (.invokespecial 53, 3) := by decide +kernel
theorem dJ4_append_bf812_5 : decode cJ4_append_bf812 5 = .ok (.pop, 1) := by decide +kernel
theorem dJ4_append_bf812_6 : decode cJ4_append_bf812 6 = .ok (.aload_n 0, 1) := by decide +kernel
theorem dJ4_append_bf812_7 : decode cJ4_append_bf812 7 = .ok (.areturn, 1) := by decide +kernel
set_option maxRecDepth 20000 in
theorem ggJ4_toString_0e30d_J0_init_81219 : GoodIn wsJ4_toString_0e30d wsJ0_init_81219 := goodIn_r _ [6, 7, 8, 3, 9, 10, 11, 12, 13, 14, 15, 16, 17, 18, 19, 20, 21, 22, 23, 24, 25, 26, 27, 28, 29, 30, 31, 32, 33, 34, 35, 36, 37, 38, 39, 40, 41, 42, 43, 44, 45, 46, 47, 48, 49, 50, 51, 52, 53, 54, 55, 56, 57, 58, 59, 60, 61, 62, 63, 64, 65, 66, 67, 68, 69, 70, 71, 72, 73, 74, 75, 76, 77, 78, 79, 80, 81, 82, 83, 84, 85, 86, 87, 88, 89, 90, 91, 92, 93, 94, 95, 96, 97, 98, 99, 100, 101, 102, 103, 104, 105, 106, 107, 108, 109, 110] (by decide +kernel) (by decide +kernel)
set_option maxRecDepth 20000 in
theorem gJ4_toString_0e30d_J0_init_81219 : GoodIn wsJ4_toString_0e30d (wsJ0_init_81219) := ggJ4_toString_0e30d_J0_init_81219
theorem dJ4_toString_0e30d_0 : decode cJ4_toString_0e30d 0 = .ok (.new 18, 3) := by decide +kernel
theorem dJ4_toString_0e30d_3 : decode cJ4_toString_0e30d 3 = .ok (.dup, 1) := by decide +kernel
