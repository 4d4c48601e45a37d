theorem q128 : Cond.selects RX11 yX11_step yX11_step ∈ gw := gw_in (i := 128) (by decide +kernel) rfl
theorem q131 : Cond.selects RX11 yX11_formed yX11_formed ∈ gw := gw_in (i := 131) (by decide +kernel) rfl
theorem q143 : Cond.selects RX11 yX11_plain yX11_plain ∈ gw := gw_in (i := 143) (by decide +kernel) rfl
theorem q144 : Cond.selects RX11 yX11_push yX11_push ∈ gw := gw_in (i := 144) (by decide +kernel) rfl
theorem q145 : Cond.selects RX11 yX11_pop yX11_pop ∈ gw := gw_in (i := 145) (by decide +kernel) rfl
theorem q146 : Cond.selects RX11 yX11_control yX11_control ∈ gw := gw_in (i := 146) (by decide +kernel) rfl
theorem q147 : Cond.selects RX11 yX11_condition yX11_condition ∈ gw := gw_in (i := 147) (by decide +kernel) rfl
theorem q1694 : Cond.fieldLink RX11 260 "SegmentBenchModel" "trace" "[I" ∈ gw := gw_in (i := 1694) (by decide +kernel) rfl
theorem q2119 : Cond.methodLink RX11 613 yX11_step ∈ gw := gw_in (i := 2119) (by decide +kernel) rfl
theorem q2121 : Cond.instanceMethod yX11_step ∈ gw := gw_in (i := 2121) (by decide +kernel) rfl
theorem q2122 : Cond.code yX11_step cX11_step 3 (some .int) ∈ gw := gw_in (i := 2122) (by decide +kernel) rfl
theorem q2131 : Cond.methodLink RX11 601 yX11_hasForm ∈ gw := gw_in (i := 2131) (by decide +kernel) rfl
theorem q2132 : Cond.static yX11_hasForm ∈ gw := gw_in (i := 2132) (by decide +kernel) rfl
theorem q2133 : Cond.code yX11_hasForm cX11_hasForm 1 (some .boolean) ∈ gw := gw_in (i := 2133) (by decide +kernel) rfl
theorem q2137 : Cond.methodLink RX11 604 yX11_formed ∈ gw := gw_in (i := 2137) (by decide +kernel) rfl
theorem q2139 : Cond.instanceMethod yX11_formed ∈ gw := gw_in (i := 2139) (by decide +kernel) rfl
theorem q2140 : Cond.code yX11_formed cX11_formed 6 (some .int) ∈ gw := gw_in (i := 2140) (by decide +kernel) rfl
theorem q2186 : Cond.methodLink RX11 607 yX11_plain ∈ gw := gw_in (i := 2186) (by decide +kernel) rfl
theorem q2188 : Cond.instanceMethod yX11_plain ∈ gw := gw_in (i := 2188) (by decide +kernel) rfl
theorem q2189 : Cond.code yX11_plain cX11_plain 3 (some .int) ∈ gw := gw_in (i := 2189) (by decide +kernel) rfl
theorem q2190 : Cond.methodLink RX11 595 yX11_push ∈ gw := gw_in (i := 2190) (by decide +kernel) rfl
theorem q2192 : Cond.instanceMethod yX11_push ∈ gw := gw_in (i := 2192) (by decide +kernel) rfl
theorem q2193 : Cond.code yX11_push cX11_push 2 none ∈ gw := gw_in (i := 2193) (by decide +kernel) rfl
theorem q2194 : Cond.methodLink RX11 598 yX11_pop ∈ gw := gw_in (i := 2194) (by decide +kernel) rfl
theorem q2196 : Cond.instanceMethod yX11_pop ∈ gw := gw_in (i := 2196) (by decide +kernel) rfl
theorem q2197 : Cond.code yX11_pop cX11_pop 2 (some .int) ∈ gw := gw_in (i := 2197) (by decide +kernel) rfl
theorem q2198 : Cond.methodLink RX11 610 yX11_control ∈ gw := gw_in (i := 2198) (by decide +kernel) rfl
theorem q2200 : Cond.instanceMethod yX11_control ∈ gw := gw_in (i := 2200) (by decide +kernel) rfl
theorem q2201 : Cond.code yX11_control cX11_control 4 (some .int) ∈ gw := gw_in (i := 2201) (by decide +kernel) rfl
theorem q2202 : Cond.methodLink RX11 592 yX11_condition ∈ gw := gw_in (i := 2202) (by decide +kernel) rfl
theorem q2204 : Cond.instanceMethod yX11_condition ∈ gw := gw_in (i := 2204) (by decide +kernel) rfl
theorem q2205 : Cond.code yX11_condition cX11_condition 3 (some .boolean) ∈ gw := gw_in (i := 2205) (by decide +kernel) rfl
theorem dX11_condition_0 : decode cX11_condition 0 = .ok (.aload_n 0, 1) := by decide +kernel
theorem dX11_condition_1 : decode cX11_condition 1 = .ok (.getfield 253, 3) := by decide +kernel
theorem dX11_condition_4 : decode cX11_condition 4 = .ok (.iload_n 1, 1) := by decide +kernel
theorem dX11_condition_5 : decode cX11_condition 5 = .ok (.bipush 116, 2) := by decide +kernel
theorem dX11_condition_7 : decode cX11_condition 7 = .ok (.if_icmp .ge 8, 3) := by decide +kernel
theorem dX11_condition_15 : decode cX11_condition 15 = .ok (.iload_n 1, 1) := by decide +kernel
theorem dX11_condition_16 : decode cX11_condition 16 = .ok (.bipush 118, 2) := by decide +kernel
theorem dX11_condition_18 : decode cX11_condition 18 = .ok (.if_icmp .ge 8, 3) := by decide +kernel
theorem dX11_condition_26 : decode cX11_condition 26 = .ok (.bipush 15, 2) := by decide +kernel
theorem dX11_condition_21 : decode cX11_condition 21 = .ok (.bipush 14, 2) := by decide +kernel
theorem dX11_condition_23 : decode cX11_condition 23 = .ok (.goto 5, 3) := by decide +kernel
theorem dX11_condition_10 : decode cX11_condition 10 = .ok (.bipush 13, 2) := by decide +kernel
theorem dX11_condition_12 : decode cX11_condition 12 = .ok (.goto 16, 3) := by decide +kernel
theorem dX11_condition_28 : decode cX11_condition 28 = .ok (.iaload, 1) := by decide +kernel
theorem dX11_condition_29 : decode cX11_condition 29 = .ok (.ifCond .eq 7, 3) := by decide +kernel
theorem dX11_condition_36 : decode cX11_condition 36 = .ok (.iconst 0, 1) := by decide +kernel
theorem dX11_condition_32 : decode cX11_condition 32 = .ok (.iconst 1, 1) := by decide +kernel
theorem dX11_condition_33 : decode cX11_condition 33 = .ok (.goto 4, 3) := by decide +kernel
theorem dX11_condition_37 : decode cX11_condition 37 = .ok (.istore_n 2, 1) := by decide +kernel
theorem dX11_condition_38 : decode cX11_condition 38 = .ok (.iload_n 1, 1) := by decide +kernel
theorem dX11_condition_39 : decode cX11_condition 39 = .ok (.iconst 1, 1) := by decide +kernel
theorem dX11_condition_40 : decode cX11_condition 40 = .ok (.iand, 1) := by decide +kernel
theorem dX11_condition_41 : decode cX11_condition 41 = .ok (.ifCond .ne 7, 3) := by decide +kernel
theorem dX11_condition_48 : decode cX11_condition 48 = .ok (.iload_n 2, 1) := by decide +kernel
theorem dX11_condition_49 : decode cX11_condition 49 = .ok (.ifCond .ne 7, 3) := by decide +kernel
theorem dX11_condition_56 : decode cX11_condition 56 = .ok (.iconst 0, 1) := by decide +kernel
theorem dX11_condition_52 : decode cX11_condition 52 = .ok (.iconst 1, 1) := by decide +kernel
theorem dX11_condition_53 : decode cX11_condition 53 = .ok (.goto 4, 3) := by decide +kernel
theorem dX11_condition_44 : decode cX11_condition 44 = .ok (.iload_n 2, 1) := by decide +kernel
theorem dX11_condition_45 : decode cX11_condition 45 = .ok (.goto 12, 3) := by decide +kernel
theorem dX11_condition_57 : decode cX11_condition 57 = .ok (.ireturn, 1) := by decide +kernel
theorem dX11_control_0 : decode cX11_control 0 = .ok (.iload_n 1, 1) := by decide +kernel
theorem dX11_control_1 : decode cX11_control 1 = .ok (.lookupswitch 378 #[(114, 123), (115, 123), (116, 123), (117, 123), (120, 123), (121, 123), (154, 257), (195, 301), (203, 311), (205, 332), (226, 152), (232, 221), (233, 221), (235, 200)], 123) := by decide +kernel
theorem dX11_control_258 : decode cX11_control 258 = .ok (.aload_n 0, 1) := by decide +kernel
theorem dX11_control_259 : decode cX11_control 259 = .ok (.invokevirtual 548, 3) := by decide +kernel
theorem dX11_control_262 : decode cX11_control 262 = .ok (.istore_n 2, 1) := by decide +kernel
theorem dX11_control_263 : decode cX11_control 263 = .ok (.aload_n 0, 1) := by decide +kernel
theorem dX11_control_264 : decode cX11_control 264 = .ok (.invokevirtual 548, 3) := by decide +kernel
theorem dX11_control_267 : decode cX11_control 267 = .ok (.istore_n 3, 1) := by decide +kernel
theorem dX11_control_268 : decode cX11_control 268 = .ok (.aload_n 0, 1) := by decide +kernel
theorem dX11_control_269 : decode cX11_control 269 = .ok (.aload_n 0, 1) := by decide +kernel
theorem dX11_control_270 : decode cX11_control 270 = .ok (.getfield 253, 3) := by decide +kernel
theorem dX11_control_273 : decode cX11_control 273 = .ok (.bipush 9, 2) := by decide +kernel
theorem dX11_control_275 : decode cX11_control 275 = .ok (.iaload, 1) := by decide +kernel
theorem dX11_control_276 : decode cX11_control 276 = .ok (.invokevirtual 595, 3) := by decide +kernel
theorem dX11_control_279 : decode cX11_control 279 = .ok (.aload_n 0, 1) := by decide +kernel
theorem dX11_control_280 : decode cX11_control 280 = .ok (.aload_n 0, 1) := by decide +kernel
theorem dX11_control_281 : decode cX11_control 281 = .ok (.getfield 536, 3) := by decide +kernel
theorem dX11_control_284 : decode cX11_control 284 = .ok (.invokevirtual 595, 3) := by decide +kernel
theorem dX11_control_287 : decode cX11_control 287 = .ok (.aload_n 0, 1) := by decide +kernel
theorem dX11_control_288 : decode cX11_control 288 = .ok (.iload_n 2, 1) := by decide +kernel
theorem dX11_control_289 : decode cX11_control 289 = .ok (.putfield 536, 3) := by decide +kernel
theorem dX11_control_292 : decode cX11_control 292 = .ok (.aload_n 0, 1) := by decide +kernel
theorem dX11_control_293 : decode cX11_control 293 = .ok (.getfield 253, 3) := by decide +kernel
theorem dX11_control_296 : decode cX11_control 296 = .ok (.bipush 9, 2) := by decide +kernel
theorem dX11_control_298 : decode cX11_control 298 = .ok (.iload_n 3, 1) := by decide +kernel
theorem dX11_control_299 : decode cX11_control 299 = .ok (.iastore, 1) := by decide +kernel
theorem dX11_control_300 : decode cX11_control 300 = .ok (.iconst 0, 1) := by decide +kernel
theorem dX11_control_301 : decode cX11_control 301 = .ok (.ireturn, 1) := by decide +kernel
theorem dX11_control_302 : decode cX11_control 302 = .ok (.aload_n 0, 1) := by decide +kernel
theorem dX11_control_303 : decode cX11_control 303 = .ok (.aload_n 0, 1) := by decide +kernel
theorem dX11_control_304 : decode cX11_control 304 = .ok (.invokevirtual 598, 3) := by decide +kernel
theorem dX11_control_307 : decode cX11_control 307 = .ok (.putfield 536, 3) := by decide +kernel
theorem dX11_control_310 : decode cX11_control 310 = .ok (.iconst 0, 1) := by decide +kernel
theorem dX11_control_311 : decode cX11_control 311 = .ok (.ireturn, 1) := by decide +kernel
theorem dX11_control_312 : decode cX11_control 312 = .ok (.aload_n 0, 1) := by decide +kernel
theorem dX11_control_313 : decode cX11_control 313 = .ok (.aload_n 0, 1) := by decide +kernel
theorem dX11_control_314 : decode cX11_control 314 = .ok (.invokevirtual 598, 3) := by decide +kernel
theorem dX11_control_317 : decode cX11_control 317 = .ok (.putfield 536, 3) := by decide +kernel
theorem dX11_control_320 : decode cX11_control 320 = .ok (.aload_n 0, 1) := by decide +kernel
theorem dX11_control_321 : decode cX11_control 321 = .ok (.getfield 253, 3) := by decide +kernel
theorem dX11_control_324 : decode cX11_control 324 = .ok (.bipush 9, 2) := by decide +kernel
theorem dX11_control_326 : decode cX11_control 326 = .ok (.aload_n 0, 1) := by decide +kernel
theorem dX11_control_327 : decode cX11_control 327 = .ok (.invokevirtual 598, 3) := by decide +kernel
theorem dX11_control_330 : decode cX11_control 330 = .ok (.iastore, 1) := by decide +kernel
theorem dX11_control_331 : decode cX11_control 331 = .ok (.iconst 0, 1) := by decide +kernel
theorem dX11_control_332 : decode cX11_control 332 = .ok (.ireturn, 1) := by decide +kernel
theorem dX11_control_333 : decode cX11_control 333 = .ok (.aload_n 0, 1) := by decide +kernel
theorem dX11_control_334 : decode cX11_control 334 = .ok (.invokevirtual 539, 3) := by decide +kernel
theorem dX11_control_337 : decode cX11_control 337 = .ok (.istore_n 2, 1) := by decide +kernel
theorem dX11_control_338 : decode cX11_control 338 = .ok (.aload_n 0, 1) := by decide +kernel
theorem dX11_control_339 : decode cX11_control 339 = .ok (.getfield 530, 3) := by decide +kernel
theorem dX11_control_342 : decode cX11_control 342 = .ok (.bipush 30, 2) := by decide +kernel
theorem dX11_control_344 : decode cX11_control 344 = .ok (.if_icmp .ge 23, 3) := by decide +kernel
theorem dX11_control_347 : decode cX11_control 347 = .ok (.aload_n 0, 1) := by decide +kernel
theorem dX11_control_348 : decode cX11_control 348 = .ok (.getfield 260, 3) := by decide +kernel
theorem dX11_control_351 : decode cX11_control 351 = .ok (.aload_n 0, 1) := by decide +kernel
theorem dX11_control_352 : decode cX11_control 352 = .ok (.getfield 530, 3) := by decide +kernel
theorem dX11_control_355 : decode cX11_control 355 = .ok (.iload_n 2, 1) := by decide +kernel
theorem dX11_control_356 : decode cX11_control 356 = .ok (.bipush 16, 2) := by decide +kernel
theorem dX11_control_358 : decode cX11_control 358 = .ok (.ishl, 1) := by decide +kernel
theorem dX11_control_359 : decode cX11_control 359 = .ok (.aload_n 0, 1) := by decide +kernel
theorem dX11_control_360 : decode cX11_control 360 = .ok (.getfield 253, 3) := by decide +kernel
theorem dX11_control_363 : decode cX11_control 363 = .ok (.iconst 0, 1) := by decide +kernel
theorem dX11_control_364 : decode cX11_control 364 = .ok (.iaload, 1) := by decide +kernel
theorem dX11_control_365 : decode cX11_control 365 = .ok (.ior, 1) := by decide +kernel
theorem dX11_control_366 : decode cX11_control 366 = .ok (.iastore, 1) := by decide +kernel
theorem dX11_control_153 : decode cX11_control 153 = .ok (.aload_n 0, 1) := by decide +kernel
theorem dX11_control_154 : decode cX11_control 154 = .ok (.invokevirtual 551, 3) := by decide +kernel
theorem dX11_control_157 : decode cX11_control 157 = .ok (.istore_n 2, 1) := by decide +kernel
theorem dX11_control_158 : decode cX11_control 158 = .ok (.aload_n 0, 1) := by decide +kernel
theorem dX11_control_159 : decode cX11_control 159 = .ok (.getfield 253, 3) := by decide +kernel
theorem dX11_control_162 : decode cX11_control 162 = .ok (.iconst 1, 1) := by decide +kernel
theorem dX11_control_163 : decode cX11_control 163 = .ok (.aload_n 0, 1) := by decide +kernel
theorem dX11_control_164 : decode cX11_control 164 = .ok (.getfield 253, 3) := by decide +kernel
theorem dX11_control_167 : decode cX11_control 167 = .ok (.iconst 1, 1) := by decide +kernel
theorem dX11_control_168 : decode cX11_control 168 = .ok (.iaload, 1) := by decide +kernel
theorem dX11_control_169 : decode cX11_control 169 = .ok (.iconst 1, 1) := by decide +kernel
theorem dX11_control_170 : decode cX11_control 170 = .ok (.isub, 1) := by decide +kernel
theorem dX11_control_171 : decode cX11_control 171 = .ok (.ldc_w 300, 3) := by decide +kernel
theorem dX11_control_174 : decode cX11_control 174 = .ok (.iand, 1) := by decide +kernel
theorem dX11_control_175 : decode cX11_control 175 = .ok (.iastore, 1) := by decide +kernel
theorem dX11_control_176 : decode cX11_control 176 = .ok (.aload_n 0, 1) := by decide +kernel
theorem dX11_control_177 : decode cX11_control 177 = .ok (.getfield 253, 3) := by decide +kernel
theorem dX11_control_180 : decode cX11_control 180 = .ok (.iconst 1, 1) := by decide +kernel
theorem dX11_control_181 : decode cX11_control 181 = .ok (.iaload, 1) := by decide +kernel
theorem dX11_control_182 : decode cX11_control 182 = .ok (.ifCond .eq 17, 3) := by decide +kernel
theorem dX11_control_185 : decode cX11_control 185 = .ok (.aload_n 0, 1) := by decide +kernel
theorem dX11_control_186 : decode cX11_control 186 = .ok (.aload_n 0, 1) := by decide +kernel
theorem dX11_control_187 : decode cX11_control 187 = .ok (.getfield 536, 3) := by decide +kernel
theorem dX11_control_190 : decode cX11_control 190 = .ok (.iload_n 2, 1) := by decide +kernel
theorem dX11_control_191 : decode cX11_control 191 = .ok (.iadd, 1) := by decide +kernel
theorem dX11_control_192 : decode cX11_control 192 = .ok (.ldc_w 300, 3) := by decide +kernel
theorem dX11_control_195 : decode cX11_control 195 = .ok (.iand, 1) := by decide +kernel
theorem dX11_control_196 : decode cX11_control 196 = .ok (.putfield 536, 3) := by decide +kernel
theorem dX11_control_201 : decode cX11_control 201 = .ok (.aload_n 0, 1) := by decide +kernel
theorem dX11_control_202 : decode cX11_control 202 = .ok (.invokevirtual 551, 3) := by decide +kernel
theorem dX11_control_205 : decode cX11_control 205 = .ok (.istore_n 2, 1) := by decide +kernel
theorem dX11_control_206 : decode cX11_control 206 = .ok (.aload_n 0, 1) := by decide +kernel
theorem dX11_control_207 : decode cX11_control 207 = .ok (.aload_n 0, 1) := by decide +kernel
theorem dX11_control_208 : decode cX11_control 208 = .ok (.getfield 536, 3) := by decide +kernel
theorem dX11_control_211 : decode cX11_control 211 = .ok (.iload_n 2, 1) := by decide +kernel
theorem dX11_control_212 : decode cX11_control 212 = .ok (.iadd, 1) := by decide +kernel
theorem dX11_control_213 : decode cX11_control 213 = .ok (.ldc_w 300, 3) := by decide +kernel
theorem dX11_control_216 : decode cX11_control 216 = .ok (.iand, 1) := by decide +kernel
theorem dX11_control_217 : decode cX11_control 217 = .ok (.putfield 536, 3) := by decide +kernel
theorem dX11_control_220 : decode cX11_control 220 = .ok (.iconst 0, 1) := by decide +kernel
theorem dX11_control_221 : decode cX11_control 221 = .ok (.ireturn, 1) := by decide +kernel
theorem dX11_control_379 : decode cX11_control 379 = .ok (.iload_n 1, 1) := by decide +kernel
theorem dX11_control_380 : decode cX11_control 380 = .ok (.sipush 244, 3) := by decide +kernel
theorem dX11_control_383 : decode cX11_control 383 = .ok (.if_icmp .ne 7, 3) := by decide +kernel
theorem dX11_control_390 : decode cX11_control 390 = .ok (.iconst 2, 1) := by decide +kernel
theorem dX11_control_386 : decode cX11_control 386 = .ok (.iconst 3, 1) := by decide +kernel
theorem dX11_control_387 : decode cX11_control 387 = .ok (.goto 4, 3) := by decide +kernel
theorem dX11_control_124 : decode cX11_control 124 = .ok (.aload_n 0, 1) := by decide +kernel
theorem dX11_control_125 : decode cX11_control 125 = .ok (.invokevirtual 551, 3) := by decide +kernel
theorem dX11_control_128 : decode cX11_control 128 = .ok (.istore_n 2, 1) := by decide +kernel
theorem dX11_control_129 : decode cX11_control 129 = .ok (.aload_n 0, 1) := by decide +kernel
theorem dX11_control_130 : decode cX11_control 130 = .ok (.iload_n 1, 1) := by decide +kernel
theorem dX11_control_131 : decode cX11_control 131 = .ok (.invokevirtual 592, 3) := by decide +kernel
theorem dX11_control_134 : decode cX11_control 134 = .ok (.ifCond .eq 17, 3) := by decide +kernel
theorem dX11_control_137 : decode cX11_control 137 = .ok (.aload_n 0, 1) := by decide +kernel
theorem dX11_control_138 : decode cX11_control 138 = .ok (.aload_n 0, 1) := by decide +kernel
theorem dX11_control_139 : decode cX11_control 139 = .ok (.getfield 536, 3) := by decide +kernel
theorem dX11_control_142 : decode cX11_control 142 = .ok (.iload_n 2, 1) := by decide +kernel
theorem dX11_control_143 : decode cX11_control 143 = .ok (.iadd, 1) := by decide +kernel
theorem dX11_control_144 : decode cX11_control 144 = .ok (.ldc_w 300, 3) := by decide +kernel
theorem dX11_control_147 : decode cX11_control 147 = .ok (.iand, 1) := by decide +kernel
theorem dX11_control_148 : decode cX11_control 148 = .ok (.putfield 536, 3) := by decide +kernel
theorem dX11_control_367 : decode cX11_control 367 = .ok (.aload_n 0, 1) := by decide +kernel
theorem dX11_control_368 : decode cX11_control 368 = .ok (.dup, 1) := by decide +kernel
theorem dX11_control_369 : decode cX11_control 369 = .ok (.getfield 530, 3) := by decide +kernel
theorem dX11_control_372 : decode cX11_control 372 = .ok (.iconst 1, 1) := by decide +kernel
theorem dX11_control_373 : decode cX11_control 373 = .ok (.iadd, 1) := by decide +kernel
theorem dX11_control_374 : decode cX11_control 374 = .ok (.putfield 530, 3) := by decide +kernel
theorem dX11_control_377 : decode cX11_control 377 = .ok (.iconst 0, 1) := by decide +kernel
theorem dX11_control_378 : decode cX11_control 378 = .ok (.ireturn, 1) := by decide +kernel
theorem dX11_control_199 : decode cX11_control 199 = .ok (.iconst 0, 1) := by decide +kernel
theorem dX11_control_200 : decode cX11_control 200 = .ok (.ireturn, 1) := by decide +kernel
theorem dX11_control_222 : decode cX11_control 222 = .ok (.aload_n 0, 1) := by decide +kernel
theorem dX11_control_223 : decode cX11_control 223 = .ok (.invokevirtual 548, 3) := by decide +kernel
theorem dX11_control_226 : decode cX11_control 226 = .ok (.istore_n 2, 1) := by decide +kernel
theorem dX11_control_227 : decode cX11_control 227 = .ok (.iload_n 1, 1) := by decide +kernel
theorem dX11_control_228 : decode cX11_control 228 = .ok (.sipush 232, 3) := by decide +kernel
theorem dX11_control_231 : decode cX11_control 231 = .ok (.if_icmp .ne 11, 3) := by decide +kernel
theorem dX11_control_234 : decode cX11_control 234 = .ok (.aload_n 0, 1) := by decide +kernel
theorem dX11_control_235 : decode cX11_control 235 = .ok (.aload_n 0, 1) := by decide +kernel
theorem dX11_control_236 : decode cX11_control 236 = .ok (.getfield 536, 3) := by decide +kernel
theorem dX11_control_239 : decode cX11_control 239 = .ok (.invokevirtual 595, 3) := by decide +kernel
theorem dX11_control_391 : decode cX11_control 391 = .ok (.ireturn, 1) := by decide +kernel
theorem dX11_control_151 : decode cX11_control 151 = .ok (.iconst 0, 1) := by decide +kernel
theorem dX11_control_152 : decode cX11_control 152 = .ok (.ireturn, 1) := by decide +kernel
theorem dX11_control_242 : decode cX11_control 242 = .ok (.aload_n 0, 1) := by decide +kernel
theorem dX11_control_243 : decode cX11_control 243 = .ok (.aload_n 0, 1) := by decide +kernel
theorem dX11_control_244 : decode cX11_control 244 = .ok (.getfield 536, 3) := by decide +kernel
theorem dX11_control_247 : decode cX11_control 247 = .ok (.iload_n 2, 1) := by decide +kernel
theorem dX11_control_248 : decode cX11_control 248 = .ok (.iadd, 1) := by decide +kernel
theorem dX11_control_249 : decode cX11_control 249 = .ok (.ldc_w 300, 3) := by decide +kernel
theorem dX11_control_252 : decode cX11_control 252 = .ok (.iand, 1) := by decide +kernel
theorem dX11_control_253 : decode cX11_control 253 = .ok (.putfield 536, 3) := by decide +kernel
theorem dX11_control_256 : decode cX11_control 256 = .ok (.iconst 0, 1) := by decide +kernel
theorem dX11_control_257 : decode cX11_control 257 = .ok (.ireturn, 1) := by decide +kernel
theorem dX11_plain_0 : decode cX11_plain 0 = .ok (.iload_n 1, 1) := by decide +kernel
theorem dX11_plain_1 : decode cX11_plain 1 = .ok (.bipush 7, 2) := by decide +kernel
theorem dX11_plain_3 : decode cX11_plain 3 = .ok (.iand, 1) := by decide +kernel
theorem dX11_plain_4 : decode cX11_plain 4 = .ok (.istore_n 2, 1) := by decide +kernel
theorem dX11_plain_5 : decode cX11_plain 5 = .ok (.iload_n 1, 1) := by decide +kernel
theorem dX11_plain_6 : decode cX11_plain 6 = .ok (.sipush 184, 3) := by decide +kernel
theorem dX11_plain_9 : decode cX11_plain 9 = .ok (.if_icmp .lt 15, 3) := by decide +kernel
theorem dX11_plain_24 : decode cX11_plain 24 = .ok (.iload_n 1, 1) := by decide +kernel
theorem dX11_plain_25 : decode cX11_plain 25 = .ok (.bipush 80, 2) := by decide +kernel
theorem dX11_plain_27 : decode cX11_plain 27 = .ok (.if_icmp .ge 43, 3) := by decide +kernel
theorem dX11_plain_70 : decode cX11_plain 70 = .ok (.iload_n 1, 1) := by decide +kernel
theorem dX11_plain_71 : decode cX11_plain 71 = .ok (.bipush 88, 2) := by decide +kernel
theorem dX11_plain_73 : decode cX11_plain 73 = .ok (.if_icmp .ge 16, 3) := by decide +kernel
theorem dX11_plain_89 : decode cX11_plain 89 = .ok (.aload_n 0, 1) := by decide +kernel
theorem dX11_plain_90 : decode cX11_plain 90 = .ok (.getfield 253, 3) := by decide +kernel
theorem dX11_plain_93 : decode cX11_plain 93 = .ok (.iload_n 2, 1) := by decide +kernel
theorem dX11_plain_94 : decode cX11_plain 94 = .ok (.aload_n 0, 1) := by decide +kernel
theorem dX11_plain_95 : decode cX11_plain 95 = .ok (.invokevirtual 598, 3) := by decide +kernel
theorem dX11_plain_98 : decode cX11_plain 98 = .ok (.iastore, 1) := by decide +kernel
theorem dX11_plain_76 : decode cX11_plain 76 = .ok (.aload_n 0, 1) := by decide +kernel
theorem dX11_plain_77 : decode cX11_plain 77 = .ok (.aload_n 0, 1) := by decide +kernel
theorem dX11_plain_78 : decode cX11_plain 78 = .ok (.getfield 253, 3) := by decide +kernel
theorem dX11_plain_81 : decode cX11_plain 81 = .ok (.iload_n 2, 1) := by decide +kernel
theorem dX11_plain_82 : decode cX11_plain 82 = .ok (.iaload, 1) := by decide +kernel
theorem dX11_plain_83 : decode cX11_plain 83 = .ok (.invokevirtual 595, 3) := by decide +kernel
theorem dX11_plain_86 : decode cX11_plain 86 = .ok (.goto 13, 3) := by decide +kernel
theorem dX11_plain_30 : decode cX11_plain 30 = .ok (.aload_n 0, 1) := by decide +kernel
theorem dX11_plain_31 : decode cX11_plain 31 = .ok (.getfield 253, 3) := by decide +kernel
theorem dX11_plain_34 : decode cX11_plain 34 = .ok (.iload_n 2, 1) := by decide +kernel
theorem dX11_plain_35 : decode cX11_plain 35 = .ok (.aload_n 0, 1) := by decide +kernel
theorem dX11_plain_36 : decode cX11_plain 36 = .ok (.getfield 253, 3) := by decide +kernel
theorem dX11_plain_39 : decode cX11_plain 39 = .ok (.iload_n 2, 1) := by decide +kernel
theorem dX11_plain_40 : decode cX11_plain 40 = .ok (.iaload, 1) := by decide +kernel
theorem dX11_plain_41 : decode cX11_plain 41 = .ok (.iload_n 1, 1) := by decide +kernel
theorem dX11_plain_42 : decode cX11_plain 42 = .ok (.bipush 72, 2) := by decide +kernel
theorem dX11_plain_44 : decode cX11_plain 44 = .ok (.if_icmp .ge 7, 3) := by decide +kernel
theorem dX11_plain_51 : decode cX11_plain 51 = .ok (.iconst (-1), 1) := by decide +kernel
theorem dX11_plain_47 : decode cX11_plain 47 = .ok (.iconst 1, 1) := by decide +kernel
theorem dX11_plain_48 : decode cX11_plain 48 = .ok (.goto 4, 3) := by decide +kernel
theorem dX11_plain_12 : decode cX11_plain 12 = .ok (.aload_n 0, 1) := by decide +kernel
theorem dX11_plain_13 : decode cX11_plain 13 = .ok (.getfield 253, 3) := by decide +kernel
theorem dX11_plain_16 : decode cX11_plain 16 = .ok (.iload_n 2, 1) := by decide +kernel
theorem dX11_plain_17 : decode cX11_plain 17 = .ok (.aload_n 0, 1) := by decide +kernel
theorem dX11_plain_18 : decode cX11_plain 18 = .ok (.invokevirtual 548, 3) := by decide +kernel
theorem dX11_plain_21 : decode cX11_plain 21 = .ok (.iastore, 1) := by decide +kernel
theorem dX11_plain_22 : decode cX11_plain 22 = .ok (.iconst 0, 1) := by decide +kernel
theorem dX11_plain_23 : decode cX11_plain 23 = .ok (.ireturn, 1) := by decide +kernel
theorem dX11_plain_99 : decode cX11_plain 99 = .ok (.iconst 0, 1) := by decide +kernel
theorem dX11_plain_100 : decode cX11_plain 100 = .ok (.ireturn, 1) := by decide +kernel
theorem dX11_plain_52 : decode cX11_plain 52 = .ok (.iadd, 1) := by decide +kernel
theorem dX11_plain_53 : decode cX11_plain 53 = .ok (.ldc_w 300, 3) := by decide +kernel
theorem dX11_plain_56 : decode cX11_plain 56 = .ok (.iand, 1) := by decide +kernel
theorem dX11_plain_57 : decode cX11_plain 57 = .ok (.iastore, 1) := by decide +kernel
theorem dX11_plain_58 : decode cX11_plain 58 = .ok (.aload_n 0, 1) := by decide +kernel
theorem dX11_plain_59 : decode cX11_plain 59 = .ok (.aload_n 0, 1) := by decide +kernel
theorem dX11_plain_60 : decode cX11_plain 60 = .ok (.getfield 253, 3) := by decide +kernel
theorem dX11_plain_63 : decode cX11_plain 63 = .ok (.iload_n 2, 1) := by decide +kernel
theorem dX11_plain_64 : decode cX11_plain 64 = .ok (.iaload, 1) := by decide +kernel
theorem dX11_plain_65 : decode cX11_plain 65 = .ok (.invokevirtual 566, 3) := by decide +kernel
theorem dX11_plain_68 : decode cX11_plain 68 = .ok (.iconst 0, 1) := by decide +kernel
theorem dX11_plain_69 : decode cX11_plain 69 = .ok (.ireturn, 1) := by decide +kernel
theorem dX11_hasForm_0 : decode cX11_hasForm 0 = .ok (.iload_n 0, 1) := by decide +kernel
theorem dX11_hasForm_1 : decode cX11_hasForm 1 = .ok (.bipush 64, 2) := by decide +kernel
theorem dX11_hasForm_3 : decode cX11_hasForm 3 = .ok (.if_icmp .ge 34, 3) := by decide +kernel
theorem dX11_hasForm_37 : decode cX11_hasForm 37 = .ok (.iload_n 0, 1) := by decide +kernel
theorem dX11_hasForm_38 : decode cX11_hasForm 38 = .ok (.sipush 129, 3) := by decide +kernel
theorem dX11_hasForm_41 : decode cX11_hasForm 41 = .ok (.if_icmp .eq 52, 3) := by decide +kernel
theorem dX11_hasForm_44 : decode cX11_hasForm 44 = .ok (.iload_n 0, 1) := by decide +kernel
theorem dX11_hasForm_45 : decode cX11_hasForm 45 = .ok (.sipush 137, 3) := by decide +kernel
theorem dX11_hasForm_48 : decode cX11_hasForm 48 = .ok (.if_icmp .eq 45, 3) := by decide +kernel
theorem dX11_hasForm_51 : decode cX11_hasForm 51 = .ok (.iload_n 0, 1) := by decide +kernel
theorem dX11_hasForm_52 : decode cX11_hasForm 52 = .ok (.sipush 139, 3) := by decide +kernel
theorem dX11_hasForm_55 : decode cX11_hasForm 55 = .ok (.if_icmp .eq 38, 3) := by decide +kernel
theorem dX11_hasForm_58 : decode cX11_hasForm 58 = .ok (.iload_n 0, 1) := by decide +kernel
theorem dX11_hasForm_59 : decode cX11_hasForm 59 = .ok (.sipush 140, 3) := by decide +kernel
theorem dX11_hasForm_62 : decode cX11_hasForm 62 = .ok (.if_icmp .eq 31, 3) := by decide +kernel
theorem dX11_hasForm_65 : decode cX11_hasForm 65 = .ok (.iload_n 0, 1) := by decide +kernel
theorem dX11_hasForm_66 : decode cX11_hasForm 66 = .ok (.sipush 142, 3) := by decide +kernel
theorem dX11_hasForm_69 : decode cX11_hasForm 69 = .ok (.if_icmp .eq 24, 3) := by decide +kernel
theorem dX11_hasForm_72 : decode cX11_hasForm 72 = .ok (.iload_n 0, 1) := by decide +kernel
theorem dX11_hasForm_73 : decode cX11_hasForm 73 = .ok (.sipush 199, 3) := by decide +kernel
theorem dX11_hasForm_76 : decode cX11_hasForm 76 = .ok (.if_icmp .eq 17, 3) := by decide +kernel
theorem dX11_hasForm_79 : decode cX11_hasForm 79 = .ok (.iload_n 0, 1) := by decide +kernel
theorem dX11_hasForm_80 : decode cX11_hasForm 80 = .ok (.sipush 209, 3) := by decide +kernel
theorem dX11_hasForm_83 : decode cX11_hasForm 83 = .ok (.if_icmp .eq 10, 3) := by decide +kernel
theorem dX11_hasForm_86 : decode cX11_hasForm 86 = .ok (.iload_n 0, 1) := by decide +kernel
theorem dX11_hasForm_87 : decode cX11_hasForm 87 = .ok (.sipush 247, 3) := by decide +kernel
theorem dX11_hasForm_90 : decode cX11_hasForm 90 = .ok (.if_icmp .ne 7, 3) := by decide +kernel
theorem dX11_hasForm_97 : decode cX11_hasForm 97 = .ok (.iconst 0, 1) := by decide +kernel
theorem dX11_hasForm_6 : decode cX11_hasForm 6 = .ok (.iload_n 0, 1) := by decide +kernel
theorem dX11_hasForm_7 : decode cX11_hasForm 7 = .ok (.bipush 8, 2) := by decide +kernel
theorem dX11_hasForm_9 : decode cX11_hasForm 9 = .ok (.irem, 1) := by decide +kernel
theorem dX11_hasForm_10 : decode cX11_hasForm 10 = .ok (.iconst 1, 1) := by decide +kernel
theorem dX11_hasForm_11 : decode cX11_hasForm 11 = .ok (.if_icmp .eq 11, 3) := by decide +kernel
theorem dX11_hasForm_14 : decode cX11_hasForm 14 = .ok (.iload_n 0, 1) := by decide +kernel
theorem dX11_hasForm_15 : decode cX11_hasForm 15 = .ok (.bipush 8, 2) := by decide +kernel
theorem dX11_hasForm_17 : decode cX11_hasForm 17 = .ok (.irem, 1) := by decide +kernel
theorem dX11_hasForm_18 : decode cX11_hasForm 18 = .ok (.iconst 3, 1) := by decide +kernel
theorem dX11_hasForm_19 : decode cX11_hasForm 19 = .ok (.if_icmp .ne 16, 3) := by decide +kernel
theorem dX11_hasForm_93 : decode cX11_hasForm 93 = .ok (.iconst 1, 1) := by decide +kernel
theorem dX11_hasForm_94 : decode cX11_hasForm 94 = .ok (.goto 4, 3) := by decide +kernel
theorem dX11_hasForm_98 : decode cX11_hasForm 98 = .ok (.ireturn, 1) := by decide +kernel
theorem dX11_hasForm_22 : decode cX11_hasForm 22 = .ok (.iload_n 0, 1) := by decide +kernel
theorem dX11_hasForm_23 : decode cX11_hasForm 23 = .ok (.iconst 3, 1) := by decide +kernel
theorem dX11_hasForm_24 : decode cX11_hasForm 24 = .ok (.ishr, 1) := by decide +kernel
theorem dX11_hasForm_25 : decode cX11_hasForm 25 = .ok (.invokestatic 581, 3) := by decide +kernel
theorem dX11_hasForm_28 : decode cX11_hasForm 28 = .ok (.ifCond .eq 7, 3) := by decide +kernel
theorem dX11_hasForm_31 : decode cX11_hasForm 31 = .ok (.iconst 1, 1) := by decide +kernel
theorem dX11_hasForm_32 : decode cX11_hasForm 32 = .ok (.goto 4, 3) := by decide +kernel
theorem dX11_hasForm_35 : decode cX11_hasForm 35 = .ok (.iconst 0, 1) := by decide +kernel
theorem dX11_hasForm_36 : decode cX11_hasForm 36 = .ok (.ireturn, 1) := by decide +kernel
theorem dX11_step_0 : decode cX11_step 0 = .ok (.aload_n 0, 1) := by decide +kernel
theorem dX11_step_1 : decode cX11_step 1 = .ok (.aload_n 0, 1) := by decide +kernel
theorem dX11_step_2 : decode cX11_step 2 = .ok (.getfield 253, 3) := by decide +kernel
theorem dX11_step_5 : decode cX11_step 5 = .ok (.bipush 12, 2) := by decide +kernel
theorem dX11_step_7 : decode cX11_step 7 = .ok (.iaload, 1) := by decide +kernel
theorem dX11_step_8 : decode cX11_step 8 = .ok (.putfield 536, 3) := by decide +kernel
theorem dX11_step_11 : decode cX11_step 11 = .ok (.aload_n 0, 1) := by decide +kernel
theorem dX11_step_12 : decode cX11_step 12 = .ok (.invokevirtual 539, 3) := by decide +kernel
theorem dX11_step_15 : decode cX11_step 15 = .ok (.istore_n 1, 1) := by decide +kernel
theorem dX11_step_16 : decode cX11_step 16 = .ok (.iload_n 1, 1) := by decide +kernel
theorem dX11_step_17 : decode cX11_step 17 = .ok (.invokestatic 601, 3) := by decide +kernel
theorem dX11_step_20 : decode cX11_step 20 = .ok (.ifCond .eq 12, 3) := by decide +kernel
theorem dX11_step_32 : decode cX11_step 32 = .ok (.iload_n 1, 1) := by decide +kernel
theorem dX11_step_33 : decode cX11_step 33 = .ok (.bipush 64, 2) := by decide +kernel
theorem dX11_step_35 : decode cX11_step 35 = .ok (.if_icmp .lt 9, 3) := by decide +kernel
theorem dX11_step_38 : decode cX11_step 38 = .ok (.iload_n 1, 1) := by decide +kernel
theorem dX11_step_39 : decode cX11_step 39 = .ok (.bipush 96, 2) := by decide +kernel
theorem dX11_step_41 : decode cX11_step 41 = .ok (.if_icmp .lt 17, 3) := by decide +kernel
theorem dX11_step_23 : decode cX11_step 23 = .ok (.aload_n 0, 1) := by decide +kernel
theorem dX11_step_24 : decode cX11_step 24 = .ok (.iload_n 1, 1) := by decide +kernel
theorem dX11_step_25 : decode cX11_step 25 = .ok (.invokevirtual 604, 3) := by decide +kernel
theorem dX11_step_28 : decode cX11_step 28 = .ok (.istore_n 2, 1) := by decide +kernel
theorem dX11_step_29 : decode cX11_step 29 = .ok (.goto 122, 3) := by decide +kernel
theorem dX11_step_44 : decode cX11_step 44 = .ok (.iload_n 1, 1) := by decide +kernel
theorem dX11_step_45 : decode cX11_step 45 = .ok (.sipush 184, 3) := by decide +kernel
theorem dX11_step_48 : decode cX11_step 48 = .ok (.if_icmp .lt 19, 3) := by decide +kernel
theorem dX11_step_51 : decode cX11_step 51 = .ok (.iload_n 1, 1) := by decide +kernel
theorem dX11_step_52 : decode cX11_step 52 = .ok (.sipush 192, 3) := by decide +kernel
theorem dX11_step_55 : decode cX11_step 55 = .ok (.if_icmp .ge 12, 3) := by decide +kernel
theorem dX11_step_58 : decode cX11_step 58 = .ok (.aload_n 0, 1) := by decide +kernel
theorem dX11_step_59 : decode cX11_step 59 = .ok (.iload_n 1, 1) := by decide +kernel
theorem dX11_step_60 : decode cX11_step 60 = .ok (.invokevirtual 607, 3) := by decide +kernel
theorem dX11_step_63 : decode cX11_step 63 = .ok (.istore_n 2, 1) := by decide +kernel
theorem dX11_step_64 : decode cX11_step 64 = .ok (.goto 87, 3) := by decide +kernel
theorem dX11_step_151 : decode cX11_step 151 = .ok (.iload_n 2, 1) := by decide +kernel
theorem dX11_step_152 : decode cX11_step 152 = .ok (.iconst 1, 1) := by decide +kernel
theorem dX11_step_153 : decode cX11_step 153 = .ok (.if_icmp .eq 8, 3) := by decide +kernel
theorem dX11_step_156 : decode cX11_step 156 = .ok (.iload_n 2, 1) := by decide +kernel
theorem dX11_step_157 : decode cX11_step 157 = .ok (.iconst 2, 1) := by decide +kernel
theorem dX11_step_158 : decode cX11_step 158 = .ok (.if_icmp .ne 5, 3) := by decide +kernel
theorem dX11_step_163 : decode cX11_step 163 = .ok (.aload_n 0, 1) := by decide +kernel
theorem dX11_step_164 : decode cX11_step 164 = .ok (.getfield 253, 3) := by decide +kernel
theorem dX11_step_167 : decode cX11_step 167 = .ok (.bipush 12, 2) := by decide +kernel
theorem dX11_step_169 : decode cX11_step 169 = .ok (.aload_n 0, 1) := by decide +kernel
theorem dX11_step_170 : decode cX11_step 170 = .ok (.getfield 536, 3) := by decide +kernel
theorem dX11_step_173 : decode cX11_step 173 = .ok (.iastore, 1) := by decide +kernel
theorem dX11_step_174 : decode cX11_step 174 = .ok (.aload_n 0, 1) := by decide +kernel
theorem dX11_step_175 : decode cX11_step 175 = .ok (.dup, 1) := by decide +kernel
theorem dX11_step_176 : decode cX11_step 176 = .ok (.getfield 527, 3) := by decide +kernel
theorem dX11_step_179 : decode cX11_step 179 = .ok (.iconst 1, 1) := by decide +kernel
theorem dX11_step_180 : decode cX11_step 180 = .ok (.iadd, 1) := by decide +kernel
theorem dX11_step_181 : decode cX11_step 181 = .ok (.putfield 527, 3) := by decide +kernel
theorem dX11_step_184 : decode cX11_step 184 = .ok (.iload_n 2, 1) := by decide +kernel
theorem dX11_step_185 : decode cX11_step 185 = .ok (.ireturn, 1) := by decide +kernel
theorem dX11_step_67 : decode cX11_step 67 = .ok (.iload_n 1, 1) := by decide +kernel
theorem dX11_step_68 : decode cX11_step 68 = .ok (.bipush 32, 2) := by decide +kernel
theorem dX11_step_70 : decode cX11_step 70 = .ok (.if_icmp .ge 33, 3) := by decide +kernel
theorem dX11_step_73 : decode cX11_step 73 = .ok (.iload_n 1, 1) := by decide +kernel
theorem dX11_step_74 : decode cX11_step 74 = .ok (.bipush 8, 2) := by decide +kernel
theorem dX11_step_76 : decode cX11_step 76 = .ok (.irem, 1) := by decide +kernel
theorem dX11_step_77 : decode cX11_step 77 = .ok (.bipush 6, 2) := by decide +kernel
theorem dX11_step_79 : decode cX11_step 79 = .ok (.if_icmp .ne 24, 3) := by decide +kernel
theorem dX11_step_82 : decode cX11_step 82 = .ok (.aload_n 0, 1) := by decide +kernel
theorem dX11_step_83 : decode cX11_step 83 = .ok (.aload_n 0, 1) := by decide +kernel
theorem dX11_step_84 : decode cX11_step 84 = .ok (.getfield 253, 3) := by decide +kernel
theorem dX11_step_87 : decode cX11_step 87 = .ok (.bipush 8, 2) := by decide +kernel
theorem dX11_step_89 : decode cX11_step 89 = .ok (.iload_n 1, 1) := by decide +kernel
theorem dX11_step_90 : decode cX11_step 90 = .ok (.bipush 8, 2) := by decide +kernel
theorem dX11_step_92 : decode cX11_step 92 = .ok (.idiv, 1) := by decide +kernel
theorem dX11_step_93 : decode cX11_step 93 = .ok (.iadd, 1) := by decide +kernel
theorem dX11_step_94 : decode cX11_step 94 = .ok (.iaload, 1) := by decide +kernel
theorem dX11_step_95 : decode cX11_step 95 = .ok (.invokevirtual 595, 3) := by decide +kernel
theorem dX11_step_98 : decode cX11_step 98 = .ok (.iconst 0, 1) := by decide +kernel
theorem dX11_step_99 : decode cX11_step 99 = .ok (.istore_n 2, 1) := by decide +kernel
theorem dX11_step_100 : decode cX11_step 100 = .ok (.goto 51, 3) := by decide +kernel
theorem dX11_step_161 : decode cX11_step 161 = .ok (.iload_n 2, 1) := by decide +kernel
theorem dX11_step_162 : decode cX11_step 162 = .ok (.ireturn, 1) := by decide +kernel
theorem dX11_step_103 : decode cX11_step 103 = .ok (.iload_n 1, 1) := by decide +kernel
theorem dX11_step_104 : decode cX11_step 104 = .ok (.bipush 32, 2) := by decide +kernel
theorem dX11_step_106 : decode cX11_step 106 = .ok (.if_icmp .ge 39, 3) := by decide +kernel
theorem dX11_step_109 : decode cX11_step 109 = .ok (.iload_n 1, 1) := by decide +kernel
theorem dX11_step_110 : decode cX11_step 110 = .ok (.bipush 8, 2) := by decide +kernel
theorem dX11_step_112 : decode cX11_step 112 = .ok (.irem, 1) := by decide +kernel
theorem dX11_step_113 : decode cX11_step 113 = .ok (.bipush 7, 2) := by decide +kernel
theorem dX11_step_115 : decode cX11_step 115 = .ok (.if_icmp .ne 30, 3) := by decide +kernel
theorem dX11_step_118 : decode cX11_step 118 = .ok (.iload_n 1, 1) := by decide +kernel
theorem dX11_step_119 : decode cX11_step 119 = .ok (.bipush 15, 2) := by decide +kernel
theorem dX11_step_121 : decode cX11_step 121 = .ok (.if_icmp .eq 24, 3) := by decide +kernel
theorem dX11_step_124 : decode cX11_step 124 = .ok (.aload_n 0, 1) := by decide +kernel
theorem dX11_step_125 : decode cX11_step 125 = .ok (.getfield 253, 3) := by decide +kernel
theorem dX11_step_128 : decode cX11_step 128 = .ok (.bipush 8, 2) := by decide +kernel
theorem dX11_step_130 : decode cX11_step 130 = .ok (.iload_n 1, 1) := by decide +kernel
theorem dX11_step_131 : decode cX11_step 131 = .ok (.bipush 8, 2) := by decide +kernel
theorem dX11_step_133 : decode cX11_step 133 = .ok (.idiv, 1) := by decide +kernel
theorem dX11_step_134 : decode cX11_step 134 = .ok (.iadd, 1) := by decide +kernel
theorem dX11_step_135 : decode cX11_step 135 = .ok (.aload_n 0, 1) := by decide +kernel
theorem dX11_step_136 : decode cX11_step 136 = .ok (.invokevirtual 598, 3) := by decide +kernel
theorem dX11_step_139 : decode cX11_step 139 = .ok (.iastore, 1) := by decide +kernel
theorem dX11_step_140 : decode cX11_step 140 = .ok (.iconst 0, 1) := by decide +kernel
theorem dX11_step_141 : decode cX11_step 141 = .ok (.istore_n 2, 1) := by decide +kernel
theorem dX11_step_142 : decode cX11_step 142 = .ok (.goto 9, 3) := by decide +kernel
theorem dX11_step_145 : decode cX11_step 145 = .ok (.aload_n 0, 1) := by decide +kernel
theorem dX11_step_146 : decode cX11_step 146 = .ok (.iload_n 1, 1) := by decide +kernel
theorem dX11_step_147 : decode cX11_step 147 = .ok (.invokevirtual 610, 3) := by decide +kernel
theorem dX11_step_150 : decode cX11_step 150 = .ok (.istore_n 2, 1) := by decide +kernel
theorem dX11_run_0 : decode cX11_run 0 = .ok (.aload_n 0, 1) := by decide +kernel
theorem dX11_run_1 : decode cX11_run 1 = .ok (.iconst 0, 1) := by decide +kernel
theorem dX11_run_2 : decode cX11_run 2 = .ok (.putfield 263, 3) := by decide +kernel
theorem dX11_run_5 : decode cX11_run 5 = .ok (.iload_n 1, 1) := by decide +kernel
theorem dX11_run_6 : decode cX11_run 6 = .ok (.iconst 1, 1) := by decide +kernel
theorem dX11_run_7 : decode cX11_run 7 = .ok (.if_icmp .lt 10, 3) := by decide +kernel
theorem dX11_run_10 : decode cX11_run 10 = .ok (.iload_n 1, 1) := by decide +kernel
theorem dX11_run_11 : decode cX11_run 11 = .ok (.sipush 400, 3) := by decide +kernel
theorem dX11_run_14 : decode cX11_run 14 = .ok (.if_icmp .le 9, 3) := by decide +kernel
theorem dX11_run_23 : decode cX11_run 23 = .ok (.aload_n 0, 1) := by decide +kernel
theorem dX11_run_24 : decode cX11_run 24 = .ok (.getfield 256, 3) := by decide +kernel
theorem dX11_run_27 : decode cX11_run 27 = .ok (.ifCond .eq 9, 3) := by decide +kernel
theorem dX11_run_36 : decode cX11_run 36 = .ok (.iconst 0, 1) := by decide +kernel
theorem dX11_run_37 : decode cX11_run 37 = .ok (.istore_n 2, 1) := by decide +kernel
theorem dX11_run_30 : decode cX11_run 30 = .ok (.aload_n 0, 1) := by decide +kernel
theorem dX11_run_31 : decode cX11_run 31 = .ok (.iconst 2, 1) := by decide +kernel
theorem dX11_run_32 : decode cX11_run 32 = .ok (.invokevirtual 448, 3) := by decide +kernel
theorem dX11_run_35 : decode cX11_run 35 = .ok (.ireturn, 1) := by decide +kernel
theorem dX11_run_17 : decode cX11_run 17 = .ok (.aload_n 0, 1) := by decide +kernel
theorem dX11_run_18 : decode cX11_run 18 = .ok (.iconst 1, 1) := by decide +kernel
theorem dX11_run_19 : decode cX11_run 19 = .ok (.invokevirtual 448, 3) := by decide +kernel
theorem dX11_run_22 : decode cX11_run 22 = .ok (.ireturn, 1) := by decide +kernel
theorem dX11_run_38 : decode cX11_run 38 = .ok (.iload_n 2, 1) := by decide +kernel
theorem dX11_run_39 : decode cX11_run 39 = .ok (.iload_n 1, 1) := by decide +kernel
theorem dX11_run_40 : decode cX11_run 40 = .ok (.if_icmp .ge 37, 3) := by decide +kernel
theorem dX11_run_77 : decode cX11_run 77 = .ok (.iconst 3, 1) := by decide +kernel
theorem dX11_run_78 : decode cX11_run 78 = .ok (.ireturn, 1) := by decide +kernel
theorem dX11_run_43 : decode cX11_run 43 = .ok (.aload_n 0, 1) := by decide +kernel
theorem dX11_run_44 : decode cX11_run 44 = .ok (.invokevirtual 613, 3) := by decide +kernel
theorem dX11_run_47 : decode cX11_run 47 = .ok (.istore_n 3, 1) := by decide +kernel
theorem dX11_run_48 : decode cX11_run 48 = .ok (.iload_n 3, 1) := by decide +kernel
theorem dX11_run_49 : decode cX11_run 49 = .ok (.ifCond .ne 6, 3) := by decide +kernel
theorem dX11_run_55 : decode cX11_run 55 = .ok (.aload_n 0, 1) := by decide +kernel
theorem dX11_run_56 : decode cX11_run 56 = .ok (.iconst 1, 1) := by decide +kernel
theorem dX11_run_57 : decode cX11_run 57 = .ok (.putfield 256, 3) := by decide +kernel
theorem dX11_run_60 : decode cX11_run 60 = .ok (.iload_n 3, 1) := by decide +kernel
theorem dX11_run_61 : decode cX11_run 61 = .ok (.iconst 3, 1) := by decide +kernel
theorem dX11_run_62 : decode cX11_run 62 = .ok (.if_icmp .ne 7, 3) := by decide +kernel
theorem dX11_run_69 : decode cX11_run 69 = .ok (.iload_n 3, 1) := by decide +kernel
theorem dX11_run_65 : decode cX11_run 65 = .ok (.iconst 0, 1) := by decide +kernel
theorem dX11_run_66 : decode cX11_run 66 = .ok (.goto 4, 3) := by decide +kernel
theorem dX11_run_52 : decode cX11_run 52 = .ok (.goto 19, 3) := by decide +kernel
theorem dX11_run_71 : decode cX11_run 71 = .ok (.iinc 2 1, 3) := by decide +kernel
theorem dX11_run_74 : decode cX11_run 74 = .ok (.goto (-36), 3) := by decide +kernel
theorem dX11_run_70 : decode cX11_run 70 = .ok (.ireturn, 1) := by decide +kernel
theorem dX11_code_0 : decode cX11_code 0 = .ok (.aload_n 0, 1) := by decide +kernel
theorem dX11_code_1 : decode cX11_code 1 = .ok (.iconst 0, 1) := by decide +kernel
theorem dX11_code_2 : decode cX11_code 2 = .ok (.putfield 263, 3) := by decide +kernel
theorem dX11_code_5 : decode cX11_code 5 = .ok (.iload_n 1, 1) := by decide +kernel
theorem dX11_code_6 : decode cX11_code 6 = .ok (.ifCond .lt 31, 3) := by decide +kernel
theorem dX11_code_9 : decode cX11_code 9 = .ok (.iload_n 1, 1) := by decide +kernel
theorem dX11_code_10 : decode cX11_code 10 = .ok (.iconst 2, 1) := by decide +kernel
theorem dX11_code_11 : decode cX11_code 11 = .ok (.if_icmp .gt 26, 3) := by decide +kernel
theorem dX11_code_14 : decode cX11_code 14 = .ok (.aload_n 0, 1) := by decide +kernel
theorem dX11_code_15 : decode cX11_code 15 = .ok (.getfield 175, 3) := by decide +kernel
theorem dX11_code_18 : decode cX11_code 18 = .ok (.iload_n 1, 1) := by decide +kernel
theorem dX11_code_19 : decode cX11_code 19 = .ok (.baload, 1) := by decide +kernel
theorem dX11_code_20 : decode cX11_code 20 = .ok (.ifCond .eq 17, 3) := by decide +kernel
theorem dX11_code_23 : decode cX11_code 23 = .ok (.iload_n 2, 1) := by decide +kernel
theorem dX11_code_24 : decode cX11_code 24 = .ok (.ifCond .lt 13, 3) := by decide +kernel
theorem dX11_code_27 : decode cX11_code 27 = .ok (.iload_n 2, 1) := by decide +kernel
theorem dX11_code_28 : decode cX11_code 28 = .ok (.aload_n 0, 1) := by decide +kernel
theorem dX11_code_29 : decode cX11_code 29 = .ok (.getfield 178, 3) := by decide +kernel
theorem dX11_code_32 : decode cX11_code 32 = .ok (.iload_n 1, 1) := by decide +kernel
theorem dX11_code_33 : decode cX11_code 33 = .ok (.iaload, 1) := by decide +kernel
theorem dX11_code_34 : decode cX11_code 34 = .ok (.if_icmp .lt 9, 3) := by decide +kernel
theorem dX11_code_43 : decode cX11_code 43 = .ok (.bipush 24, 2) := by decide +kernel
theorem dX11_code_45 : decode cX11_code 45 = .ok (.iload_n 1, 1) := by decide +kernel
theorem dX11_code_46 : decode cX11_code 46 = .ok (.imul, 1) := by decide +kernel
theorem dX11_code_47 : decode cX11_code 47 = .ok (.iload_n 2, 1) := by decide +kernel
theorem dX11_code_48 : decode cX11_code 48 = .ok (.iadd, 1) := by decide +kernel
theorem dX11_code_49 : decode cX11_code 49 = .ok (.istore 4, 2) := by decide +kernel
theorem dX11_code_51 : decode cX11_code 51 = .ok (.iload_n 3, 1) := by decide +kernel
theorem dX11_code_52 : decode cX11_code 52 = .ok (.ifCond .lt 14, 3) := by decide +kernel
theorem dX11_code_55 : decode cX11_code 55 = .ok (.iload_n 3, 1) := by decide +kernel
theorem dX11_code_56 : decode cX11_code 56 = .ok (.aload_n 0, 1) := by decide +kernel
theorem dX11_code_57 : decode cX11_code 57 = .ok (.getfield 190, 3) := by decide +kernel
theorem dX11_code_60 : decode cX11_code 60 = .ok (.iload 4, 2) := by decide +kernel
theorem dX11_code_62 : decode cX11_code 62 = .ok (.iaload, 1) := by decide +kernel
theorem dX11_code_63 : decode cX11_code 63 = .ok (.if_icmp .lt 9, 3) := by decide +kernel
theorem dX11_code_72 : decode cX11_code 72 = .ok (.aload_n 0, 1) := by decide +kernel
theorem dX11_code_73 : decode cX11_code 73 = .ok (.getfield 193, 3) := by decide +kernel
theorem dX11_code_76 : decode cX11_code 76 = .ok (.sipush 400, 3) := by decide +kernel
theorem dX11_code_79 : decode cX11_code 79 = .ok (.iload_n 1, 1) := by decide +kernel
theorem dX11_code_80 : decode cX11_code 80 = .ok (.imul, 1) := by decide +kernel
theorem dX11_code_81 : decode cX11_code 81 = .ok (.aload_n 0, 1) := by decide +kernel
theorem dX11_code_82 : decode cX11_code 82 = .ok (.getfield 187, 3) := by decide +kernel
theorem dX11_code_85 : decode cX11_code 85 = .ok (.iload 4, 2) := by decide +kernel
theorem dX11_code_87 : decode cX11_code 87 = .ok (.iaload, 1) := by decide +kernel
theorem dX11_code_88 : decode cX11_code 88 = .ok (.iadd, 1) := by decide +kernel
theorem dX11_code_89 : decode cX11_code 89 = .ok (.iload_n 3, 1) := by decide +kernel
theorem dX11_code_90 : decode cX11_code 90 = .ok (.iadd, 1) := by decide +kernel
theorem dX11_code_91 : decode cX11_code 91 = .ok (.iaload, 1) := by decide +kernel
theorem dX11_code_92 : decode cX11_code 92 = .ok (.ireturn, 1) := by decide +kernel
theorem dX11_code_37 : decode cX11_code 37 = .ok (.aload_n 0, 1) := by decide +kernel
theorem dX11_code_38 : decode cX11_code 38 = .ok (.iconst 1, 1) := by decide +kernel
theorem dX11_code_39 : decode cX11_code 39 = .ok (.invokevirtual 448, 3) := by decide +kernel
theorem dX11_code_42 : decode cX11_code 42 = .ok (.ireturn, 1) := by decide +kernel
theorem dX11_code_66 : decode cX11_code 66 = .ok (.aload_n 0, 1) := by decide +kernel
theorem dX11_code_67 : decode cX11_code 67 = .ok (.iconst 1, 1) := by decide +kernel
theorem dX11_code_68 : decode cX11_code 68 = .ok (.invokevirtual 448, 3) := by decide +kernel
theorem dX11_code_71 : decode cX11_code 71 = .ok (.ireturn, 1) := by decide +kernel
def wpX11_condition_57 (s0 : Int) (σ : ZS) (Q : Int → ZS → Prop) : Prop := (0 ≤ s0 ∧ s0 ≤ 1) ∧ Q s0 σ
def wpX11_condition_37 (v1 s0 : Int) (σ : ZS) (Q : Int → ZS → Prop) : Prop := (¬ (v1 % 2) = 0 → (-2147483648 ≤ s0 ∧ s0 ≤ 2147483647) ∧ (¬ s0 = 0 → wpX11_condition_57 0 σ Q) ∧ (s0 = 0 → wpX11_condition_57 1 σ Q)) ∧ ((v1 % 2) = 0 → wpX11_condition_57 s0 σ Q)
def wpX11_condition_28 (v1 s1 : Int) (σ : ZS) (Q : Int → ZS → Prop) : Prop := (0 ≤ s1 ∧ s1 < 16) ∧ (-2147483648 ≤ (zA σ 0 75 s1) ∧ (zA σ 0 75 s1) ≤ 2147483647) ∧ ((zA σ 0 75 s1) = 0 → wpX11_condition_37 v1 0 σ Q) ∧ (¬ (zA σ 0 75 s1) = 0 → wpX11_condition_37 v1 1 σ Q)
def wpX11_condition (a1 : Int) (σ : ZS) (Q : Int → ZS → Prop) : Prop := (-2147483648 ≤ a1 ∧ a1 ≤ 2147483647) ∧ (116 ≤ a1 → (118 ≤ a1 → wpX11_condition_28 a1 15 σ Q) ∧ (¬ 118 ≤ a1 → wpX11_condition_28 a1 14 σ Q)) ∧ (¬ 116 ≤ a1 → wpX11_condition_28 a1 13 σ Q)
set_option maxHeartbeats 4000000 in
set_option maxRecDepth 100000 in
theorem kX11_condition (l : Launch) (D : va_G) (dA : Nat → ClassId) (ad : Int → Nat → Nat) (a1 : Int) (σ : ZS) (Q : Int → ZS → Prop) (sz : Nat) (hw : wpX11_condition a1 σ Q) : Met l yX11_condition (gws yX11_condition cX11_condition 3 (some .boolean)) (gR 1 0 0) (gPre D dA [.ref (ad 0 1000), .int (Int32.ofInt a1)] (zR dA ad σ) sz) (va_Qi (zQi Q) (gAt D dA (va_A (zR dA ad σ) sz) (zR dA ad)) (va_A (zR dA ad σ) sz)) 0 0 (va_A (zR dA ad σ) sz) := by
  refine Met.ofW (cc := cX11_condition) (maxL := 3) (ret := (some .boolean)) (by decide) rfl ?_
  intro p e s m args below meth c s₁ B hml hv
  obtain ⟨rfl, hsz, hP, hK, hD0⟩ := hv
  have hx := B.exec
  have hb := B.bytes
  have hr := B.returns
  have hts := atoms_spec (ws := gws yX11_condition cX11_condition 3 (some .boolean)) B.pre
  have hg : ∀ w ∈ gw, w.before _ s = true := fun w h => hts w (List.mem_cons_of_mem _ h)
  have hown : s.vm.findClass RX11 = some m.cls := findClass_of_methodNamed B.named
  have hlocks := B.notSynchronized
  subst hsz
  have hD := hD0.self (sz := s.heap.size)
  generalize hAe : va_A (zR dA ad σ) s.heap.size = A at hD ⊢
  have hA : ∀ q : Nat, s.heap.size ≤ q → A q := fun q h => by rw [← hAe]; exact Or.inr h
  have hS : va_S A s.heap s.heap [] := va_S.rf
  have hl := lv_entry ([.ref (ad 0 1000), .int (Int32.ofInt a1)]) (n := 3) (Nat.le_of_ble_eq_true rfl)
  rw [lg_entry_eq]
  generalize (lg_sl ([.ref (ad 0 1000), .int (Int32.ofInt a1)]) ++ List.replicate (3 - (lg_sl ([.ref (ad 0 1000), .int (Int32.ofInt a1)])).length) Slot.unset).toArray = ls at hl ⊢
  have hl : lv_has ls 3 [(0, .ref (ad 0 1000)), (1, .int (Int32.ofInt a1))] := hl
  have hret : ∀ (v : Int) (σ : ZS) (H : Heap) (locs : List Loc) (ls : Array Slot) (pc : Nat), (0 ≤ v ∧ v ≤ 1) → Q v σ → va_P D vwC (zR dA ad σ) H → va_D A (zR dA ad σ) → va_S A s.heap H locs → decode cX11_condition pc = .ok (.ireturn, 1) → W p l e (gR 1 0 0) s m #[.ref (ad 0 1000), .int (Int32.ofInt a1)] below meth c H locs 0 0 (MQ below (va_Qi (zQi Q) (gAt D dA A (zR dA ad)) A) #[.ref (ad 0 1000), .int (Int32.ofInt a1)] s 0 0 A) (F0 m pc ls [.int (Int32.ofInt v)]) := fun v σ H locs ls pc hv hw hP hD hS hd => g_iret hx hb hr (z_nb hv) hlocks hK σ hP hD hS ⟨v, rfl, hw⟩ (Nat.le_of_ble_eq_true rfl) (Nat.le_of_ble_eq_true rfl) hd
  generalize MQ below (va_Qi (zQi Q) (gAt D dA A (zR dA ad)) A) #[.ref (ad 0 1000), .int (Int32.ofInt a1)] s 0 0 A = QQ at hret ⊢
  have j57 : ∀ (s0 : Int) (σ : ZS), ∀ (H : Heap) (locs : List Loc) (ls : Array Slot), va_P D vwC (zR dA ad σ) H → va_D A (zR dA ad σ) → va_S A s.heap H locs → lv_has ls 3 [] → wpX11_condition_57 s0 σ Q → W p l e (gR 1 0 0) s m #[.ref (ad 0 1000), .int (Int32.ofInt a1)] below meth c H locs 0 0 QQ (F0 m 57 ls [.int (Int32.ofInt s0)]) := by
    intro s0 σ H locs ls hP hD hS hl hw
    unfold wpX11_condition_57 at hw
    obtain ⟨o1, hw⟩ := hw
    exact hret s0 σ _ _ _ _ o1 hw hP hD hS dX11_condition_57
  have j37 : ∀ (v1 s0 : Int) (σ : ZS), ∀ (H : Heap) (locs : List Loc) (ls : Array Slot), va_P D vwC (zR dA ad σ) H → va_D A (zR dA ad σ) → va_S A s.heap H locs → lv_has ls 3 [(1, .int (Int32.ofInt v1))] → wpX11_condition_37 v1 s0 σ Q → W p l e (gR 1 0 0) s m #[.ref (ad 0 1000), .int (Int32.ofInt a1)] below meth c H locs 0 0 QQ (F0 m 37 ls [.int (Int32.ofInt s0)]) := by
    intro v1 s0 σ H locs ls hP hD hS hl hw
    unfold wpX11_condition_37 at hw
    refine lv_istore_n (lv' := [(2, .int (Int32.ofInt s0)), (1, .int (Int32.ofInt v1))]) hx hb dX11_condition_37 rfl hl (by decide) rfl (fun ls hl => ?_)
    refine lv_iload_n hx hb dX11_condition_38 rfl (lv_at hl 1 rfl) ?_
    refine lv_iconst (v := Int32.ofInt 1) hx hb dX11_condition_39 (by decide) ?_
    refine z_iandK (M := 2) hx hb 1 (by decide) (by decide) (by decide) dX11_condition_40 ?_
    refine z_if_ne (tgt := 48) hx hb (by clear hw; omega) dX11_condition_41 (by decide) (fun k2 => ?_) (fun k2 => ?_)
    · replace hw := hw.1 k2
      refine lv_iload_n hx hb dX11_condition_48 rfl (lv_at hl 0 rfl) ?_
      obtain ⟨o3, hw⟩ := hw
      refine z_if_ne (tgt := 56) hx hb o3 dX11_condition_49 (by decide) (fun k4 => ?_) (fun k4 => ?_)
      · replace hw := hw.1 k4
        refine lv_iconst (v := Int32.ofInt 0) hx hb dX11_condition_56 (by decide) ?_
        exact j57 0 σ _ _ _ hP hD hS (lv_sub hl [] rfl) hw
      · replace hw := hw.2 k4
        refine lv_iconst (v := Int32.ofInt 1) hx hb dX11_condition_52 (by decide) ?_
        refine lv_goto (tgt := 57) hx hb dX11_condition_53 (by decide) ?_
        exact j57 1 σ _ _ _ hP hD hS (lv_sub hl [] rfl) hw
    · replace hw := hw.2 k2
      refine lv_iload_n hx hb dX11_condition_44 rfl (lv_at hl 0 rfl) ?_
      refine lv_goto (tgt := 57) hx hb dX11_condition_45 (by decide) ?_
      exact j57 s0 σ _ _ _ hP hD hS (lv_sub hl [] rfl) hw
  have j28 : ∀ (v1 s1 : Int) (σ : ZS), ∀ (H : Heap) (locs : List Loc) (ls : Array Slot), va_P D vwC (zR dA ad σ) H → va_D A (zR dA ad σ) → va_S A s.heap H locs → lv_has ls 3 [(1, .int (Int32.ofInt v1))] → wpX11_condition_28 v1 s1 σ Q → W p l e (gR 1 0 0) s m #[.ref (ad 0 1000), .int (Int32.ofInt a1)] below meth c H locs 0 0 QQ (F0 m 28 ls [.int (Int32.ofInt s1), .ref (ad 0 75)]) := by
    intro v1 s1 σ H locs ls hP hD hS hl hw
    unfold wpX11_condition_28 at hw
    obtain ⟨o5, hw⟩ := hw
    refine zlR0_75 hx hb o5 hK hP dX11_condition_28 ?_
    obtain ⟨o6, hw⟩ := hw
    refine z_if_eq (tgt := 36) hx hb o6 dX11_condition_29 (by decide) (fun k7 => ?_) (fun k7 => ?_)
    · replace hw := hw.1 k7
      refine lv_iconst (v := Int32.ofInt 0) hx hb dX11_condition_36 (by decide) ?_
      exact j37 v1 0 σ _ _ _ hP hD hS (lv_sub hl [0] rfl) hw
    · replace hw := hw.2 k7
      refine lv_iconst (v := Int32.ofInt 1) hx hb dX11_condition_32 (by decide) ?_
      refine lv_goto (tgt := 37) hx hb dX11_condition_33 (by decide) ?_
      exact j37 v1 1 σ _ _ _ hP hD hS (lv_sub hl [0] rfl) hw
  unfold wpX11_condition at hw
  refine lv_aload_n hx hb dX11_condition_0 rfl (lv_at hl 0 rfl) ?_
  refine zgR0_75 hx hb hg hown hK hP q1690 dX11_condition_1 ?_
  refine lv_iload_n hx hb dX11_condition_4 rfl (lv_at hl 1 rfl) ?_
  refine lv_bipush (v := Int32.ofInt 116) hx hb dX11_condition_5 (by decide) ?_
  obtain ⟨o8, hw⟩ := hw
  refine z_icmp_ge (tgt := 15) hx hb o8 (by decide) dX11_condition_7 (by decide) (fun k9 => ?_) (fun k9 => ?_)
  · replace hw := hw.1 k9
    refine lv_iload_n hx hb dX11_condition_15 rfl (lv_at hl 1 rfl) ?_
    refine lv_bipush (v := Int32.ofInt 118) hx hb dX11_condition_16 (by decide) ?_
    refine z_icmp_ge (tgt := 26) hx hb o8 (by decide) dX11_condition_18 (by decide) (fun k10 => ?_) (fun k10 => ?_)
    · replace hw := hw.1 k10
      refine lv_bipush (v := Int32.ofInt 15) hx hb dX11_condition_26 (by decide) ?_
      exact j28 a1 15 σ _ _ _ hP hD hS (lv_sub hl [1] rfl) hw
    · replace hw := hw.2 k10
      refine lv_bipush (v := Int32.ofInt 14) hx hb dX11_condition_21 (by decide) ?_
      refine lv_goto (tgt := 28) hx hb dX11_condition_23 (by decide) ?_
      exact j28 a1 14 σ _ _ _ hP hD hS (lv_sub hl [1] rfl) hw
  · replace hw := hw.2 k9
    refine lv_bipush (v := Int32.ofInt 13) hx hb dX11_condition_10 (by decide) ?_
    refine lv_goto (tgt := 28) hx hb dX11_condition_12 (by decide) ?_
    exact j28 a1 13 σ _ _ _ hP hD hS (lv_sub hl [1] rfl) hw
def wpX11_control_391 (s0 : Int) (σ : ZS) (Q : Int → ZS → Prop) : Prop := Q s0 σ
def wpX11_control_367 (σ : ZS) (Q : Int → ZS → Prop) : Prop := Q 0 (zsI σ 0 78 ((zI σ 0 78) + 1))
def wpX11_control_242 (v2 : Int) (σ : ZS) (Q : Int → ZS → Prop) : Prop := Q 0 (zsI σ 0 80 (((zI σ 0 80) + v2) % 65536))
def wpX11_control_222 (v1 : Int) (σ : ZS) (Q : Int → ZS → Prop) : Prop := wpX11_fetchTwo σ (fun (x1 : Int) (σ2 : ZS) => (-2147483648 ≤ v1 ∧ v1 ≤ 2147483647) ∧ (¬ v1 = 232 → wpX11_control_242 x1 σ2 Q) ∧ (v1 = 232 → wpX11_push (zI σ2 0 80) σ2 (fun (σ6 : ZS) => wpX11_control_242 x1 σ6 Q)))
def wpX11_control_199 (σ : ZS) (Q : Int → ZS → Prop) : Prop := Q 0 σ
def wpX11_control_151 (σ : ZS) (Q : Int → ZS → Prop) : Prop := Q 0 σ
def wpX11_control_124 (v1 : Int) (σ : ZS) (Q : Int → ZS → Prop) : Prop := wpX11_fetchSigned σ (fun (x7 : Int) (σ8 : ZS) => wpX11_condition v1 σ8 (fun (x9 : Int) (σ10 : ZS) => (-2147483648 ≤ x9 ∧ x9 ≤ 2147483647) ∧ (x9 = 0 → wpX11_control_151 σ10 Q) ∧ (¬ x9 = 0 → wpX11_control_151 (zsI σ10 0 80 (((zI σ10 0 80) + x7) % 65536)) Q)))
def wpX11_control (a1 : Int) (σ : ZS) (Q : Int → ZS → Prop) : Prop := (-2147483648 ≤ a1 ∧ a1 ≤ 2147483647) ∧ (a1 = 114 → wpX11_control_124 a1 σ Q) ∧ (¬ a1 = 114 → (a1 = 115 → wpX11_control_124 a1 σ Q) ∧ (¬ a1 = 115 → (a1 = 116 → wpX11_control_124 a1 σ Q) ∧ (¬ a1 = 116 → (a1 = 117 → wpX11_control_124 a1 σ Q) ∧ (¬ a1 = 117 → (a1 = 120 → wpX11_control_124 a1 σ Q) ∧ (¬ a1 = 120 → (a1 = 121 → wpX11_control_124 a1 σ Q) ∧ (¬ a1 = 121 → (a1 = 154 → wpX11_fetchTwo σ (fun (x22 : Int) (σ23 : ZS) => wpX11_fetchTwo σ23 (fun (x24 : Int) (σ25 : ZS) => wpX11_push (zA σ25 0 75 9) σ25 (fun (σ27 : ZS) => wpX11_push (zI σ27 0 80) σ27 (fun (σ29 : ZS) => Q 0 (zsA (zsI σ29 0 80 x22) 0 75 9 x24)))))) ∧ (¬ a1 = 154 → (a1 = 195 → wpX11_pop σ (fun (x31 : Int) (σ32 : ZS) => Q 0 (zsI σ32 0 80 x31))) ∧ (¬ a1 = 195 → (a1 = 203 → wpX11_pop σ (fun (x34 : Int) (σ35 : ZS) => wpX11_pop (zsI σ35 0 80 x34) (fun (x36 : Int) (σ37 : ZS) => Q 0 (zsA σ37 0 75 9 x36)))) ∧ (¬ a1 = 203 → (a1 = 205 → wpX11_fetch σ (fun (x39 : Int) (σ40 : ZS) => (-2147483648 ≤ (zI σ40 0 78) ∧ (zI σ40 0 78) ≤ 2147483647) ∧ (30 ≤ (zI σ40 0 78) → wpX11_control_367 σ40 Q) ∧ (¬ 30 ≤ (zI σ40 0 78) → (0 ≤ (zI σ40 0 78) ∧ (zI σ40 0 78) < 30) ∧ wpX11_control_367 (zsA σ40 0 79 (zI σ40 0 78) (zor (x39 * 65536) (zA σ40 0 75 0))) Q))) ∧ (¬ a1 = 205 → (a1 = 226 → wpX11_fetchSigned σ (fun (x45 : Int) (σ46 : ZS) => (-2147483648 ≤ (zA (zsA σ46 0 75 1 (((zA σ46 0 75 1) - 1) % 65536)) 0 75 1) ∧ (zA (zsA σ46 0 75 1 (((zA σ46 0 75 1) - 1) % 65536)) 0 75 1) ≤ 2147483647) ∧ ((zA (zsA σ46 0 75 1 (((zA σ46 0 75 1) - 1) % 65536)) 0 75 1) = 0 → wpX11_control_199 (zsA σ46 0 75 1 (((zA σ46 0 75 1) - 1) % 65536)) Q) ∧ (¬ (zA (zsA σ46 0 75 1 (((zA σ46 0 75 1) - 1) % 65536)) 0 75 1) = 0 → wpX11_control_199 (zsI (zsA σ46 0 75 1 (((zA σ46 0 75 1) - 1) % 65536)) 0 80 (((zI σ46 0 80) + x45) % 65536)) Q))) ∧ (¬ a1 = 226 → (a1 = 232 → wpX11_control_222 a1 σ Q) ∧ (¬ a1 = 232 → (a1 = 233 → wpX11_control_222 a1 σ Q) ∧ (¬ a1 = 233 → (a1 = 235 → wpX11_fetchSigned σ (fun (x52 : Int) (σ53 : ZS) => Q 0 (zsI σ53 0 80 (((zI σ53 0 80) + x52) % 65536)))) ∧ (¬ a1 = 235 → (¬ a1 = 244 → wpX11_control_391 2 σ Q) ∧ (a1 = 244 → wpX11_control_391 3 σ Q)))))))))))))))
set_option maxHeartbeats 4000000 in
set_option maxRecDepth 100000 in
theorem kX11_control (l : Launch) (D : va_G) (dA : Nat → ClassId) (ad : Int → Nat → Nat) (a1 : Int) (σ : ZS) (Q : Int → ZS → Prop) (sz : Nat) (hw : wpX11_control a1 σ Q) : Met l yX11_control (gws yX11_control cX11_control 4 (some .int)) (gR 4 0 0) (gPre D dA [.ref (ad 0 1000), .int (Int32.ofInt a1)] (zR dA ad σ) sz) (va_Qi (zQi Q) (gAt D dA (va_A (zR dA ad σ) sz) (zR dA ad)) (va_A (zR dA ad σ) sz)) 0 0 (va_A (zR dA ad σ) sz) := by
  refine Met.ofW (cc := cX11_control) (maxL := 4) (ret := (some .int)) (by decide) rfl ?_
  intro p e s m args below meth c s₁ B hml hv
  obtain ⟨rfl, hsz, hP, hK, hD0⟩ := hv
  have hx := B.exec
  have hb := B.bytes
  have hr := B.returns
  have hts := atoms_spec (ws := gws yX11_control cX11_control 4 (some .int)) B.pre
  have hg : ∀ w ∈ gw, w.before _ s = true := fun w h => hts w (List.mem_cons_of_mem _ h)
  have hown : s.vm.findClass RX11 = some m.cls := findClass_of_methodNamed B.named
  have hlocks := B.notSynchronized
  subst hsz
  have hD := hD0.self (sz := s.heap.size)
  generalize hAe : va_A (zR dA ad σ) s.heap.size = A at hD ⊢
  have hA : ∀ q : Nat, s.heap.size ≤ q → A q := fun q h => by rw [← hAe]; exact Or.inr h
  have hS : va_S A s.heap s.heap [] := va_S.rf
  have hl := lv_entry ([.ref (ad 0 1000), .int (Int32.ofInt a1)]) (n := 4) (Nat.le_of_ble_eq_true rfl)
  rw [lg_entry_eq]
  generalize (lg_sl ([.ref (ad 0 1000), .int (Int32.ofInt a1)]) ++ List.replicate (4 - (lg_sl ([.ref (ad 0 1000), .int (Int32.ofInt a1)])).length) Slot.unset).toArray = ls at hl ⊢
  have hl : lv_has ls 4 [(0, .ref (ad 0 1000)), (1, .int (Int32.ofInt a1))] := hl
  have hret : ∀ (v : Int) (σ : ZS) (H : Heap) (locs : List Loc) (ls : Array Slot) (pc : Nat), Q v σ → va_P D vwC (zR dA ad σ) H → va_D A (zR dA ad σ) → va_S A s.heap H locs → decode cX11_control pc = .ok (.ireturn, 1) → W p l e (gR 4 0 0) s m #[.ref (ad 0 1000), .int (Int32.ofInt a1)] below meth c H locs 0 0 (MQ below (va_Qi (zQi Q) (gAt D dA A (zR dA ad)) A) #[.ref (ad 0 1000), .int (Int32.ofInt a1)] s 0 0 A) (F0 m pc ls [.int (Int32.ofInt v)]) := fun v σ H locs ls pc hw hP hD hS hd => g_iret hx hb hr rfl hlocks hK σ hP hD hS ⟨v, rfl, hw⟩ (Nat.le_of_ble_eq_true rfl) (Nat.le_of_ble_eq_true rfl) hd
  generalize MQ below (va_Qi (zQi Q) (gAt D dA A (zR dA ad)) A) #[.ref (ad 0 1000), .int (Int32.ofInt a1)] s 0 0 A = QQ at hret ⊢
  have j391 : ∀ (s0 : Int) (σ : ZS), ∀ (H : Heap) (locs : List Loc) (ls : Array Slot), va_P D vwC (zR dA ad σ) H → va_D A (zR dA ad σ) → va_S A s.heap H locs → lv_has ls 4 [] → wpX11_control_391 s0 σ Q → W p l e (gR 4 0 0) s m #[.ref (ad 0 1000), .int (Int32.ofInt a1)] below meth c H locs 0 0 QQ (F0 m 391 ls [.int (Int32.ofInt s0)]) := by
    intro s0 σ H locs ls hP hD hS hl hw
    unfold wpX11_control_391 at hw
    exact hret s0 σ _ _ _ _ hw hP hD hS dX11_control_391
  have j367 : ∀ (σ : ZS), ∀ (H : Heap) (locs : List Loc) (ls : Array Slot), va_P D vwC (zR dA ad σ) H → va_D A (zR dA ad σ) → va_S A s.heap H locs → lv_has ls 4 [(0, .ref (ad 0 1000))] → wpX11_control_367 σ Q → W p l e (gR 4 0 0) s m #[.ref (ad 0 1000), .int (Int32.ofInt a1)] below meth c H locs 0 0 QQ (F0 m 367 ls []) := by
    intro σ H locs ls hP hD hS hl hw
    unfold wpX11_control_367 at hw
    refine lv_aload_n hx hb dX11_control_367 rfl (lv_at hl 0 rfl) ?_
    refine lv_dup hx hb dX11_control_368 rfl ?_
    refine zgR0_78 hx hb hg hown hK hP q1693 dX11_control_369 ?_
    refine lv_iconst (v := Int32.ofInt 1) hx hb dX11_control_372 (by decide) ?_
    refine z_iadd hx hb dX11_control_373 ?_
    refine zpR0_78 (v := ((zI σ 0 78) + 1)) hx hb hg hown hK hP hD hS q1693 dX11_control_374 (fun H locs hP hD hS => ?_)
    refine lv_iconst (v := Int32.ofInt 0) hx hb dX11_control_377 (by decide) ?_
    exact hret 0 (zsI σ 0 78 ((zI σ 0 78) + 1)) _ _ _ _ hw hP hD hS dX11_control_378
  have j242 : ∀ (v2 : Int) (σ : ZS), ∀ (H : Heap) (locs : List Loc) (ls : Array Slot), va_P D vwC (zR dA ad σ) H → va_D A (zR dA ad σ) → va_S A s.heap H locs → lv_has ls 4 [(0, .ref (ad 0 1000)), (2, .int (Int32.ofInt v2))] → wpX11_control_242 v2 σ Q → W p l e (gR 4 0 0) s m #[.ref (ad 0 1000), .int (Int32.ofInt a1)] below meth c H locs 0 0 QQ (F0 m 242 ls []) := by
    intro v2 σ H locs ls hP hD hS hl hw
    unfold wpX11_control_242 at hw
    refine lv_aload_n hx hb dX11_control_242 rfl (lv_at hl 0 rfl) ?_
    refine lv_aload_n hx hb dX11_control_243 rfl (lv_at hl 0 rfl) ?_
    refine zgR0_80 hx hb hg hown hK hP q1695 dX11_control_244 ?_
    refine lv_iload_n hx hb dX11_control_247 rfl (lv_at hl 1 rfl) ?_
    refine z_iadd hx hb dX11_control_248 ?_
    refine lv_ldcw hx hb hown (hg _ q1907) dX11_control_249 ?_
    refine g_nrm (y := Int32.ofInt 65535) (by decide) ?_
    refine z_iandK (M := 65536) hx hb 16 (by decide) (by decide) (by decide) dX11_control_252 ?_
    refine zpR0_80 (v := (((zI σ 0 80) + v2) % 65536)) hx hb hg hown hK hP hD hS q1695 dX11_control_253 (fun H locs hP hD hS => ?_)
    refine lv_iconst (v := Int32.ofInt 0) hx hb dX11_control_256 (by decide) ?_
    exact hret 0 (zsI σ 0 80 (((zI σ 0 80) + v2) % 65536)) _ _ _ _ hw hP hD hS dX11_control_257
  have j222 : ∀ (v1 : Int) (σ : ZS), ∀ (H : Heap) (locs : List Loc) (ls : Array Slot), va_P D vwC (zR dA ad σ) H → va_D A (zR dA ad σ) → va_S A s.heap H locs → lv_has ls 4 [(0, .ref (ad 0 1000)), (1, .int (Int32.ofInt v1))] → wpX11_control_222 v1 σ Q → W p l e (gR 4 0 0) s m #[.ref (ad 0 1000), .int (Int32.ofInt a1)] below meth c H locs 0 0 QQ (F0 m 222 ls []) := by
    intro v1 σ H locs ls hP hD hS hl hw
    unfold wpX11_control_222 at hw
    refine lv_aload_n hx hb dX11_control_222 rfl (lv_at hl 0 rfl) ?_
    refine z_Vi (n := 0) (As := []) (rest := []) hx hb hml hg hown hK hP hD hS hA (kX11_fetchTwo l D dA ad σ _ _ hw) (zoR0) rfl q2148 q160 q2145 q2147 q133 (by decide +kernel) ⟨(Nat.le_of_ble_eq_true rfl), (Nat.le_of_ble_eq_true rfl)⟩ rfl hl.1 rfl (Nat.le_of_ble_eq_true rfl) dX11_control_223 ⟨(Nat.le_of_ble_eq_true rfl), (Nat.le_of_ble_eq_true rfl)⟩ (fun x1 σ2 H locs hw hP hD hS => ?_)
    refine lv_istore_n (lv' := [(2, .int (Int32.ofInt x1)), (0, .ref (ad 0 1000)), (1, .int (Int32.ofInt v1))]) hx hb dX11_control_226 rfl hl (by decide) rfl (fun ls hl => ?_)
    refine lv_iload_n hx hb dX11_control_227 rfl (lv_at hl 2 rfl) ?_
    refine lv_sipush (v := Int32.ofInt 232) hx hb dX11_control_228 (by decide) ?_
    obtain ⟨o3, hw⟩ := hw
    refine z_icmp_ne (tgt := 242) hx hb o3 (by decide) dX11_control_231 (by decide) (fun k4 => ?_) (fun k4 => ?_)
    · replace hw := hw.1 k4
      exact j242 x1 σ2 _ _ _ hP hD hS (lv_sub hl [1, 0] rfl) hw
    · replace hw := hw.2 k4
      refine lv_aload_n hx hb dX11_control_234 rfl (lv_at hl 1 rfl) ?_
      refine lv_aload_n hx hb dX11_control_235 rfl (lv_at hl 1 rfl) ?_
      refine zgR0_80 hx hb hg hown hK hP q1695 dX11_control_236 ?_
      refine z_Vv (n := 1) (As := [.int (Int32.ofInt (zI σ2 0 80))]) (rest := []) hx hb hml hg hown hK hP hD hS hA (kX11_push l D dA ad (zI σ2 0 80) σ2 _ _ hw) (zoR0) rfl q2193 q160 q2190 q2192 q144 (by decide +kernel) ⟨(Nat.le_of_ble_eq_true rfl), (Nat.le_of_ble_eq_true rfl)⟩ rfl hl.1 rfl (Nat.le_of_ble_eq_true rfl) dX11_control_239 ⟨(Nat.le_of_ble_eq_true rfl), (Nat.le_of_ble_eq_true rfl)⟩ (fun σ6 H locs hw hP hD hS => ?_)
      exact j242 x1 σ6 _ _ _ hP hD hS (lv_sub hl [1, 0] rfl) hw
  have j199 : ∀ (σ : ZS), ∀ (H : Heap) (locs : List Loc) (ls : Array Slot), va_P D vwC (zR dA ad σ) H → va_D A (zR dA ad σ) → va_S A s.heap H locs → lv_has ls 4 [] → wpX11_control_199 σ Q → W p l e (gR 4 0 0) s m #[.ref (ad 0 1000), .int (Int32.ofInt a1)] below meth c H locs 0 0 QQ (F0 m 199 ls []) := by
    intro σ H locs ls hP hD hS hl hw
    unfold wpX11_control_199 at hw
    refine lv_iconst (v := Int32.ofInt 0) hx hb dX11_control_199 (by decide) ?_
    exact hret 0 σ _ _ _ _ hw hP hD hS dX11_control_200
  have j151 : ∀ (σ : ZS), ∀ (H : Heap) (locs : List Loc) (ls : Array Slot), va_P D vwC (zR dA ad σ) H → va_D A (zR dA ad σ) → va_S A s.heap H locs → lv_has ls 4 [] → wpX11_control_151 σ Q → W p l e (gR 4 0 0) s m #[.ref (ad 0 1000), .int (Int32.ofInt a1)] below meth c H locs 0 0 QQ (F0 m 151 ls []) := by
    intro σ H locs ls hP hD hS hl hw
    unfold wpX11_control_151 at hw
    refine lv_iconst (v := Int32.ofInt 0) hx hb dX11_control_151 (by decide) ?_
    exact hret 0 σ _ _ _ _ hw hP hD hS dX11_control_152
  have j124 : ∀ (v1 : Int) (σ : ZS), ∀ (H : Heap) (locs : List Loc) (ls : Array Slot), va_P D vwC (zR dA ad σ) H → va_D A (zR dA ad σ) → va_S A s.heap H locs → lv_has ls 4 [(0, .ref (ad 0 1000)), (1, .int (Int32.ofInt v1))] → wpX11_control_124 v1 σ Q → W p l e (gR 4 0 0) s m #[.ref (ad 0 1000), .int (Int32.ofInt a1)] below meth c H locs 0 0 QQ (F0 m 124 ls []) := by
    intro v1 σ H locs ls hP hD hS hl hw
    unfold wpX11_control_124 at hw
    refine lv_aload_n hx hb dX11_control_124 rfl (lv_at hl 0 rfl) ?_
    refine z_Vi (n := 0) (As := []) (rest := []) hx hb hml hg hown hK hP hD hS hA (kX11_fetchSigned l D dA ad σ _ _ hw) (zoR0) rfl q2152 q160 q2149 q2151 q134 (by decide +kernel) ⟨(Nat.le_of_ble_eq_true rfl), (Nat.le_of_ble_eq_true rfl)⟩ rfl hl.1 rfl (Nat.le_of_ble_eq_true rfl) dX11_control_125 ⟨(Nat.le_of_ble_eq_true rfl), (Nat.le_of_ble_eq_true rfl)⟩ (fun x7 σ8 H locs hw hP hD hS => ?_)
    refine lv_istore_n (lv' := [(2, .int (Int32.ofInt x7)), (0, .ref (ad 0 1000)), (1, .int (Int32.ofInt v1))]) hx hb dX11_control_128 rfl hl (by decide) rfl (fun ls hl => ?_)
    refine lv_aload_n hx hb dX11_control_129 rfl (lv_at hl 1 rfl) ?_
    refine lv_iload_n hx hb dX11_control_130 rfl (lv_at hl 2 rfl) ?_
    refine z_Vi (n := 1) (As := [.int (Int32.ofInt v1)]) (rest := []) hx hb hml hg hown hK hP hD hS hA (kX11_condition l D dA ad v1 σ8 _ _ hw) (zoR0) rfl q2205 q160 q2202 q2204 q147 (by decide +kernel) ⟨(Nat.le_of_ble_eq_true rfl), (Nat.le_of_ble_eq_true rfl)⟩ rfl hl.1 rfl (Nat.le_of_ble_eq_true rfl) dX11_control_131 ⟨(Nat.le_of_ble_eq_true rfl), (Nat.le_of_ble_eq_true rfl)⟩ (fun x9 σ10 H locs hw hP hD hS => ?_)
    obtain ⟨o11, hw⟩ := hw
    refine z_if_eq (tgt := 151) hx hb o11 dX11_control_134 (by decide) (fun k12 => ?_) (fun k12 => ?_)
    · replace hw := hw.1 k12
      exact j151 σ10 _ _ _ hP hD hS (lv_sub hl [] rfl) hw
    · replace hw := hw.2 k12
      refine lv_aload_n hx hb dX11_control_137 rfl (lv_at hl 1 rfl) ?_
      refine lv_aload_n hx hb dX11_control_138 rfl (lv_at hl 1 rfl) ?_
      refine zgR0_80 hx hb hg hown hK hP q1695 dX11_control_139 ?_
      refine lv_iload_n hx hb dX11_control_142 rfl (lv_at hl 0 rfl) ?_
      refine z_iadd hx hb dX11_control_143 ?_
      refine lv_ldcw hx hb hown (hg _ q1907) dX11_control_144 ?_
      refine g_nrm (y := Int32.ofInt 65535) (by decide) ?_
      refine z_iandK (M := 65536) hx hb 16 (by decide) (by decide) (by decide) dX11_control_147 ?_
      refine zpR0_80 (v := (((zI σ10 0 80) + x7) % 65536)) hx hb hg hown hK hP hD hS q1695 dX11_control_148 (fun H locs hP hD hS => ?_)
      exact j151 (zsI σ10 0 80 (((zI σ10 0 80) + x7) % 65536)) _ _ _ hP hD hS (lv_sub hl [] rfl) hw
  unfold wpX11_control at hw
  refine lv_iload_n hx hb dX11_control_0 rfl (lv_at hl 1 rfl) ?_
  obtain ⟨o13, hw⟩ := hw
  have t14 := z_ti o13
  by_cases s15 : a1 = 114
  · replace hw := hw.1 s15
    refine lv_lookup (off := 123) (tgt := 124) hx hb dX11_control_1 (by decide) (by rw [t14, s15]; rfl) (by decide) ?_
    exact j124 a1 σ _ _ _ hP hD hS (lv_sub hl [0, 1] rfl) hw
  replace hw := hw.2 s15
  by_cases s16 : a1 = 115
  · replace hw := hw.1 s16
    refine lv_lookup (off := 123) (tgt := 124) hx hb dX11_control_1 (by decide) (by rw [t14, s16]; rfl) (by decide) ?_
    exact j124 a1 σ _ _ _ hP hD hS (lv_sub hl [0, 1] rfl) hw
  replace hw := hw.2 s16
  by_cases s17 : a1 = 116
  · replace hw := hw.1 s17
    refine lv_lookup (off := 123) (tgt := 124) hx hb dX11_control_1 (by decide) (by rw [t14, s17]; rfl) (by decide) ?_
    exact j124 a1 σ _ _ _ hP hD hS (lv_sub hl [0, 1] rfl) hw
  replace hw := hw.2 s17
  by_cases s18 : a1 = 117
  · replace hw := hw.1 s18
    refine lv_lookup (off := 123) (tgt := 124) hx hb dX11_control_1 (by decide) (by rw [t14, s18]; rfl) (by decide) ?_
    exact j124 a1 σ _ _ _ hP hD hS (lv_sub hl [0, 1] rfl) hw
  replace hw := hw.2 s18
  by_cases s19 : a1 = 120
  · replace hw := hw.1 s19
    refine lv_lookup (off := 123) (tgt := 124) hx hb dX11_control_1 (by decide) (by rw [t14, s19]; rfl) (by decide) ?_
    exact j124 a1 σ _ _ _ hP hD hS (lv_sub hl [0, 1] rfl) hw
  replace hw := hw.2 s19
  by_cases s20 : a1 = 121
  · replace hw := hw.1 s20
    refine lv_lookup (off := 123) (tgt := 124) hx hb dX11_control_1 (by decide) (by rw [t14, s20]; rfl) (by decide) ?_
    exact j124 a1 σ _ _ _ hP hD hS (lv_sub hl [0, 1] rfl) hw
  replace hw := hw.2 s20
  by_cases s21 : a1 = 154
  · replace hw := hw.1 s21
    refine lv_lookup (off := 257) (tgt := 258) hx hb dX11_control_1 (by decide) (by rw [t14, s21]; rfl) (by decide) ?_
    refine lv_aload_n hx hb dX11_control_258 rfl (lv_at hl 0 rfl) ?_
    refine z_Vi (n := 0) (As := []) (rest := []) hx hb hml hg hown hK hP hD hS hA (kX11_fetchTwo l D dA ad σ _ _ hw) (zoR0) rfl q2148 q160 q2145 q2147 q133 (by decide +kernel) ⟨(Nat.le_of_ble_eq_true rfl), (Nat.le_of_ble_eq_true rfl)⟩ rfl hl.1 rfl (Nat.le_of_ble_eq_true rfl) dX11_control_259 ⟨(Nat.le_of_ble_eq_true rfl), (Nat.le_of_ble_eq_true rfl)⟩ (fun x22 σ23 H locs hw hP hD hS => ?_)
    refine lv_istore_n (lv' := [(2, .int (Int32.ofInt x22)), (0, .ref (ad 0 1000)), (1, .int (Int32.ofInt a1))]) hx hb dX11_control_262 rfl hl (by decide) rfl (fun ls hl => ?_)
    refine lv_aload_n hx hb dX11_control_263 rfl (lv_at hl 1 rfl) ?_
    refine z_Vi (n := 0) (As := []) (rest := []) hx hb hml hg hown hK hP hD hS hA (kX11_fetchTwo l D dA ad σ23 _ _ hw) (zoR0) rfl q2148 q160 q2145 q2147 q133 (by decide +kernel) ⟨(Nat.le_of_ble_eq_true rfl), (Nat.le_of_ble_eq_true rfl)⟩ rfl hl.1 rfl (Nat.le_of_ble_eq_true rfl) dX11_control_264 ⟨(Nat.le_of_ble_eq_true rfl), (Nat.le_of_ble_eq_true rfl)⟩ (fun x24 σ25 H locs hw hP hD hS => ?_)
    refine lv_istore_n (lv' := [(3, .int (Int32.ofInt x24)), (2, .int (Int32.ofInt x22)), (0, .ref (ad 0 1000)), (1, .int (Int32.ofInt a1))]) hx hb dX11_control_267 rfl hl (by decide) rfl (fun ls hl => ?_)
    refine lv_aload_n hx hb dX11_control_268 rfl (lv_at hl 2 rfl) ?_
    refine lv_aload_n hx hb dX11_control_269 rfl (lv_at hl 2 rfl) ?_
    refine zgR0_75 hx hb hg hown hK hP q1690 dX11_control_270 ?_
    refine lv_bipush (v := Int32.ofInt 9) hx hb dX11_control_273 (by decide) ?_
    refine zlR0_75 hx hb (by decide) hK hP dX11_control_275 ?_
    refine z_Vv (n := 1) (As := [.int (Int32.ofInt (zA σ25 0 75 9))]) (rest := []) hx hb hml hg hown hK hP hD hS hA (kX11_push l D dA ad (zA σ25 0 75 9) σ25 _ _ hw) (zoR0) rfl q2193 q160 q2190 q2192 q144 (by decide +kernel) ⟨(Nat.le_of_ble_eq_true rfl), (Nat.le_of_ble_eq_true rfl)⟩ rfl hl.1 rfl (Nat.le_of_ble_eq_true rfl) dX11_control_276 ⟨(Nat.le_of_ble_eq_true rfl), (Nat.le_of_ble_eq_true rfl)⟩ (fun σ27 H locs hw hP hD hS => ?_)
    refine lv_aload_n hx hb dX11_control_279 rfl (lv_at hl 2 rfl) ?_
    refine lv_aload_n hx hb dX11_control_280 rfl (lv_at hl 2 rfl) ?_
    refine zgR0_80 hx hb hg hown hK hP q1695 dX11_control_281 ?_
    refine z_Vv (n := 1) (As := [.int (Int32.ofInt (zI σ27 0 80))]) (rest := []) hx hb hml hg hown hK hP hD hS hA (kX11_push l D dA ad (zI σ27 0 80) σ27 _ _ hw) (zoR0) rfl q2193 q160 q2190 q2192 q144 (by decide +kernel) ⟨(Nat.le_of_ble_eq_true rfl), (Nat.le_of_ble_eq_true rfl)⟩ rfl hl.1 rfl (Nat.le_of_ble_eq_true rfl) dX11_control_284 ⟨(Nat.le_of_ble_eq_true rfl), (Nat.le_of_ble_eq_true rfl)⟩ (fun σ29 H locs hw hP hD hS => ?_)
    refine lv_aload_n hx hb dX11_control_287 rfl (lv_at hl 2 rfl) ?_
    refine lv_iload_n hx hb dX11_control_288 rfl (lv_at hl 1 rfl) ?_
    refine zpR0_80 (v := x22) hx hb hg hown hK hP hD hS q1695 dX11_control_289 (fun H locs hP hD hS => ?_)
    refine lv_aload_n hx hb dX11_control_292 rfl (lv_at hl 2 rfl) ?_
    refine zgR0_75 hx hb hg hown hK hP q1690 dX11_control_293 ?_
    refine lv_bipush (v := Int32.ofInt 9) hx hb dX11_control_296 (by decide) ?_
    refine lv_iload_n hx hb dX11_control_298 rfl (lv_at hl 0 rfl) ?_
    refine zsR0_75 (v := x24) hx hb (by decide) hK hP hD hS dX11_control_299 (fun H locs hP hD hS => ?_)
    refine lv_iconst (v := Int32.ofInt 0) hx hb dX11_control_300 (by decide) ?_
    exact hret 0 (zsA (zsI σ29 0 80 x22) 0 75 9 x24) _ _ _ _ hw hP hD hS dX11_control_301
  replace hw := hw.2 s21
  by_cases s30 : a1 = 195
  · replace hw := hw.1 s30
    refine lv_lookup (off := 301) (tgt := 302) hx hb dX11_control_1 (by decide) (by rw [t14, s30]; rfl) (by decide) ?_
    refine lv_aload_n hx hb dX11_control_302 rfl (lv_at hl 0 rfl) ?_
    refine lv_aload_n hx hb dX11_control_303 rfl (lv_at hl 0 rfl) ?_
    refine z_Vi (n := 0) (As := []) (rest := [.ref (ad 0 1000)]) hx hb hml hg hown hK hP hD hS hA (kX11_pop l D dA ad σ _ _ hw) (zoR0) rfl q2197 q160 q2194 q2196 q145 (by decide +kernel) ⟨(Nat.le_of_ble_eq_true rfl), (Nat.le_of_ble_eq_true rfl)⟩ rfl hl.1 rfl (Nat.le_of_ble_eq_true rfl) dX11_control_304 ⟨(Nat.le_of_ble_eq_true rfl), (Nat.le_of_ble_eq_true rfl)⟩ (fun x31 σ32 H locs hw hP hD hS => ?_)
    refine zpR0_80 (v := x31) hx hb hg hown hK hP hD hS q1695 dX11_control_307 (fun H locs hP hD hS => ?_)
    refine lv_iconst (v := Int32.ofInt 0) hx hb dX11_control_310 (by decide) ?_
    exact hret 0 (zsI σ32 0 80 x31) _ _ _ _ hw hP hD hS dX11_control_311
  replace hw := hw.2 s30
  by_cases s33 : a1 = 203
  · replace hw := hw.1 s33
    refine lv_lookup (off := 311) (tgt := 312) hx hb dX11_control_1 (by decide) (by rw [t14, s33]; rfl) (by decide) ?_
    refine lv_aload_n hx hb dX11_control_312 rfl (lv_at hl 0 rfl) ?_
    refine lv_aload_n hx hb dX11_control_313 rfl (lv_at hl 0 rfl) ?_
    refine z_Vi (n := 0) (As := []) (rest := [.ref (ad 0 1000)]) hx hb hml hg hown hK hP hD hS hA (kX11_pop l D dA ad σ _ _ hw) (zoR0) rfl q2197 q160 q2194 q2196 q145 (by decide +kernel) ⟨(Nat.le_of_ble_eq_true rfl), (Nat.le_of_ble_eq_true rfl)⟩ rfl hl.1 rfl (Nat.le_of_ble_eq_true rfl) dX11_control_314 ⟨(Nat.le_of_ble_eq_true rfl), (Nat.le_of_ble_eq_true rfl)⟩ (fun x34 σ35 H locs hw hP hD hS => ?_)
    refine zpR0_80 (v := x34) hx hb hg hown hK hP hD hS q1695 dX11_control_317 (fun H locs hP hD hS => ?_)
    refine lv_aload_n hx hb dX11_control_320 rfl (lv_at hl 0 rfl) ?_
    refine zgR0_75 hx hb hg hown hK hP q1690 dX11_control_321 ?_
    refine lv_bipush (v := Int32.ofInt 9) hx hb dX11_control_324 (by decide) ?_
    refine lv_aload_n hx hb dX11_control_326 rfl (lv_at hl 0 rfl) ?_
    refine z_Vi (n := 0) (As := []) (rest := [.int (Int32.ofInt 9), .ref (ad 0 75)]) hx hb hml hg hown hK hP hD hS hA (kX11_pop l D dA ad (zsI σ35 0 80 x34) _ _ hw) (zoR0) rfl q2197 q160 q2194 q2196 q145 (by decide +kernel) ⟨(Nat.le_of_ble_eq_true rfl), (Nat.le_of_ble_eq_true rfl)⟩ rfl hl.1 rfl (Nat.le_of_ble_eq_true rfl) dX11_control_327 ⟨(Nat.le_of_ble_eq_true rfl), (Nat.le_of_ble_eq_true rfl)⟩ (fun x36 σ37 H locs hw hP hD hS => ?_)
    refine zsR0_75 (v := x36) hx hb (by decide) hK hP hD hS dX11_control_330 (fun H locs hP hD hS => ?_)
    refine lv_iconst (v := Int32.ofInt 0) hx hb dX11_control_331 (by decide) ?_
    exact hret 0 (zsA σ37 0 75 9 x36) _ _ _ _ hw hP hD hS dX11_control_332
  replace hw := hw.2 s33
  by_cases s38 : a1 = 205
  · replace hw := hw.1 s38
    refine lv_lookup (off := 332) (tgt := 333) hx hb dX11_control_1 (by decide) (by rw [t14, s38]; rfl) (by decide) ?_
    refine lv_aload_n hx hb dX11_control_333 rfl (lv_at hl 0 rfl) ?_
    refine z_Vi (n := 0) (As := []) (rest := []) hx hb hml hg hown hK hP hD hS hA (kX11_fetch l D dA ad σ _ _ hw) (zoR0) rfl q2126 q160 q2123 q2125 q129 (by decide +kernel) ⟨(Nat.le_of_ble_eq_true rfl), (Nat.le_of_ble_eq_true rfl)⟩ rfl hl.1 rfl (Nat.le_of_ble_eq_true rfl) dX11_control_334 ⟨(Nat.le_of_ble_eq_true rfl), (Nat.le_of_ble_eq_true rfl)⟩ (fun x39 σ40 H locs hw hP hD hS => ?_)
    refine lv_istore_n (lv' := [(2, .int (Int32.ofInt x39)), (0, .ref (ad 0 1000)), (1, .int (Int32.ofInt a1))]) hx hb dX11_control_337 rfl hl (by decide) rfl (fun ls hl => ?_)
    refine lv_aload_n hx hb dX11_control_338 rfl (lv_at hl 1 rfl) ?_
    refine zgR0_78 hx hb hg hown hK hP q1693 dX11_control_339 ?_
    refine lv_bipush (v := Int32.ofInt 30) hx hb dX11_control_342 (by decide) ?_
    obtain ⟨o41, hw⟩ := hw
    refine z_icmp_ge (tgt := 367) hx hb o41 (by decide) dX11_control_344 (by decide) (fun k42 => ?_) (fun k42 => ?_)
    · replace hw := hw.1 k42
      exact j367 σ40 _ _ _ hP hD hS (lv_sub hl [1] rfl) hw
    · replace hw := hw.2 k42
      refine lv_aload_n hx hb dX11_control_347 rfl (lv_at hl 1 rfl) ?_
      refine zgR0_79 hx hb hg hown hK hP q1694 dX11_control_348 ?_
      refine lv_aload_n hx hb dX11_control_351 rfl (lv_at hl 1 rfl) ?_
      refine zgR0_78 hx hb hg hown hK hP q1693 dX11_control_352 ?_
      refine lv_iload_n hx hb dX11_control_355 rfl (lv_at hl 0 rfl) ?_
      refine lv_bipush (v := Int32.ofInt 16) hx hb dX11_control_356 (by decide) ?_
      refine z_ishlK (M := 65536) hx hb 16 (by decide) (by decide) dX11_control_358 ?_
      refine lv_aload_n hx hb dX11_control_359 rfl (lv_at hl 1 rfl) ?_
      refine zgR0_75 hx hb hg hown hK hP q1690 dX11_control_360 ?_
      refine lv_iconst (v := Int32.ofInt 0) hx hb dX11_control_363 (by decide) ?_
      refine zlR0_75 hx hb (by decide) hK hP dX11_control_364 ?_
      refine z_ior hx hb dX11_control_365 ?_
      obtain ⟨o43, hw⟩ := hw
      refine zsR0_79 (v := (zor (x39 * 65536) (zA σ40 0 75 0))) hx hb o43 hK hP hD hS dX11_control_366 (fun H locs hP hD hS => ?_)
      exact j367 (zsA σ40 0 79 (zI σ40 0 78) (zor (x39 * 65536) (zA σ40 0 75 0))) _ _ _ hP hD hS (lv_sub hl [1] rfl) hw
  replace hw := hw.2 s38
  by_cases s44 : a1 = 226
  · replace hw := hw.1 s44
    refine lv_lookup (off := 152) (tgt := 153) hx hb dX11_control_1 (by decide) (by rw [t14, s44]; rfl) (by decide) ?_
    refine lv_aload_n hx hb dX11_control_153 rfl (lv_at hl 0 rfl) ?_
    refine z_Vi (n := 0) (As := []) (rest := []) hx hb hml hg hown hK hP hD hS hA (kX11_fetchSigned l D dA ad σ _ _ hw) (zoR0) rfl q2152 q160 q2149 q2151 q134 (by decide +kernel) ⟨(Nat.le_of_ble_eq_true rfl), (Nat.le_of_ble_eq_true rfl)⟩ rfl hl.1 rfl (Nat.le_of_ble_eq_true rfl) dX11_control_154 ⟨(Nat.le_of_ble_eq_true rfl), (Nat.le_of_ble_eq_true rfl)⟩ (fun x45 σ46 H locs hw hP hD hS => ?_)
    refine lv_istore_n (lv' := [(2, .int (Int32.ofInt x45)), (0, .ref (ad 0 1000)), (1, .int (Int32.ofInt a1))]) hx hb dX11_control_157 rfl hl (by decide) rfl (fun ls hl => ?_)
    refine lv_aload_n hx hb dX11_control_158 rfl (lv_at hl 1 rfl) ?_
    refine zgR0_75 hx hb hg hown hK hP q1690 dX11_control_159 ?_
    refine lv_iconst (v := Int32.ofInt 1) hx hb dX11_control_162 (by decide) ?_
    refine lv_aload_n hx hb dX11_control_163 rfl (lv_at hl 1 rfl) ?_
    refine zgR0_75 hx hb hg hown hK hP q1690 dX11_control_164 ?_
    refine lv_iconst (v := Int32.ofInt 1) hx hb dX11_control_167 (by decide) ?_
    refine zlR0_75 hx hb (by decide) hK hP dX11_control_168 ?_
    refine lv_iconst (v := Int32.ofInt 1) hx hb dX11_control_169 (by decide) ?_
    refine z_isub hx hb dX11_control_170 ?_
    refine lv_ldcw hx hb hown (hg _ q1907) dX11_control_171 ?_
    refine g_nrm (y := Int32.ofInt 65535) (by decide) ?_
    refine z_iandK (M := 65536) hx hb 16 (by decide) (by decide) (by decide) dX11_control_174 ?_
    refine zsR0_75 (v := (((zA σ46 0 75 1) - 1) % 65536)) hx hb (by decide) hK hP hD hS dX11_control_175 (fun H locs hP hD hS => ?_)
    refine lv_aload_n hx hb dX11_control_176 rfl (lv_at hl 1 rfl) ?_
    refine zgR0_75 hx hb hg hown hK hP q1690 dX11_control_177 ?_
    refine lv_iconst (v := Int32.ofInt 1) hx hb dX11_control_180 (by decide) ?_
    refine zlR0_75 hx hb (by decide) hK hP dX11_control_181 ?_
    obtain ⟨o47, hw⟩ := hw
    refine z_if_eq (tgt := 199) hx hb o47 dX11_control_182 (by decide) (fun k48 => ?_) (fun k48 => ?_)
    · replace hw := hw.1 k48
      exact j199 (zsA σ46 0 75 1 (((zA σ46 0 75 1) - 1) % 65536)) _ _ _ hP hD hS (lv_sub hl [] rfl) hw
    · replace hw := hw.2 k48
      refine lv_aload_n hx hb dX11_control_185 rfl (lv_at hl 1 rfl) ?_
      refine lv_aload_n hx hb dX11_control_186 rfl (lv_at hl 1 rfl) ?_
      refine zgR0_80 hx hb hg hown hK hP q1695 dX11_control_187 ?_
      refine g_nrm (y := Int32.ofInt (zI σ46 0 80)) rfl ?_
      refine lv_iload_n hx hb dX11_control_190 rfl (lv_at hl 0 rfl) ?_
      refine z_iadd hx hb dX11_control_191 ?_
      refine lv_ldcw hx hb hown (hg _ q1907) dX11_control_192 ?_
      refine g_nrm (y := Int32.ofInt 65535) (by decide) ?_
      refine z_iandK (M := 65536) hx hb 16 (by decide) (by decide) (by decide) dX11_control_195 ?_
      refine zpR0_80 (v := (((zI σ46 0 80) + x45) % 65536)) hx hb hg hown hK hP hD hS q1695 dX11_control_196 (fun H locs hP hD hS => ?_)
      exact j199 (zsI (zsA σ46 0 75 1 (((zA σ46 0 75 1) - 1) % 65536)) 0 80 (((zI σ46 0 80) + x45) % 65536)) _ _ _ hP hD hS (lv_sub hl [] rfl) hw
  replace hw := hw.2 s44
  by_cases s49 : a1 = 232
  · replace hw := hw.1 s49
    refine lv_lookup (off := 221) (tgt := 222) hx hb dX11_control_1 (by decide) (by rw [t14, s49]; rfl) (by decide) ?_
    exact j222 a1 σ _ _ _ hP hD hS (lv_sub hl [0, 1] rfl) hw
  replace hw := hw.2 s49
  by_cases s50 : a1 = 233
  · replace hw := hw.1 s50
    refine lv_lookup (off := 221) (tgt := 222) hx hb dX11_control_1 (by decide) (by rw [t14, s50]; rfl) (by decide) ?_
    exact j222 a1 σ _ _ _ hP hD hS (lv_sub hl [0, 1] rfl) hw
  replace hw := hw.2 s50
  by_cases s51 : a1 = 235
  · replace hw := hw.1 s51
    refine lv_lookup (off := 200) (tgt := 201) hx hb dX11_control_1 (by decide) (by rw [t14, s51]; rfl) (by decide) ?_
    refine lv_aload_n hx hb dX11_control_201 rfl (lv_at hl 0 rfl) ?_
    refine z_Vi (n := 0) (As := []) (rest := []) hx hb hml hg hown hK hP hD hS hA (kX11_fetchSigned l D dA ad σ _ _ hw) (zoR0) rfl q2152 q160 q2149 q2151 q134 (by decide +kernel) ⟨(Nat.le_of_ble_eq_true rfl), (Nat.le_of_ble_eq_true rfl)⟩ rfl hl.1 rfl (Nat.le_of_ble_eq_true rfl) dX11_control_202 ⟨(Nat.le_of_ble_eq_true rfl), (Nat.le_of_ble_eq_true rfl)⟩ (fun x52 σ53 H locs hw hP hD hS => ?_)
    refine lv_istore_n (lv' := [(2, .int (Int32.ofInt x52)), (0, .ref (ad 0 1000)), (1, .int (Int32.ofInt a1))]) hx hb dX11_control_205 rfl hl (by decide) rfl (fun ls hl => ?_)
    refine lv_aload_n hx hb dX11_control_206 rfl (lv_at hl 1 rfl) ?_
    refine lv_aload_n hx hb dX11_control_207 rfl (lv_at hl 1 rfl) ?_
    refine zgR0_80 hx hb hg hown hK hP q1695 dX11_control_208 ?_
    refine lv_iload_n hx hb dX11_control_211 rfl (lv_at hl 0 rfl) ?_
    refine z_iadd hx hb dX11_control_212 ?_
    refine lv_ldcw hx hb hown (hg _ q1907) dX11_control_213 ?_
    refine g_nrm (y := Int32.ofInt 65535) (by decide) ?_
    refine z_iandK (M := 65536) hx hb 16 (by decide) (by decide) (by decide) dX11_control_216 ?_
    refine zpR0_80 (v := (((zI σ53 0 80) + x52) % 65536)) hx hb hg hown hK hP hD hS q1695 dX11_control_217 (fun H locs hP hD hS => ?_)
    refine lv_iconst (v := Int32.ofInt 0) hx hb dX11_control_220 (by decide) ?_
    exact hret 0 (zsI σ53 0 80 (((zI σ53 0 80) + x52) % 65536)) _ _ _ _ hw hP hD hS dX11_control_221
  replace hw := hw.2 s51
  refine lv_lookup (off := 378) (tgt := 379) hx hb dX11_control_1 (by decide) (by rw [t14]; exact (z_osw s15).trans ((z_osw s16).trans ((z_osw s17).trans ((z_osw s18).trans ((z_osw s19).trans ((z_osw s20).trans ((z_osw s21).trans ((z_osw s30).trans ((z_osw s33).trans ((z_osw s38).trans ((z_osw s44).trans ((z_osw s49).trans ((z_osw s50).trans ((z_osw s51).trans (rfl))))))))))))))) (by decide) ?_
  refine lv_iload_n hx hb dX11_control_379 rfl (lv_at hl 1 rfl) ?_
  refine lv_sipush (v := Int32.ofInt 244) hx hb dX11_control_380 (by decide) ?_
  refine z_icmp_ne (tgt := 390) hx hb o13 (by decide) dX11_control_383 (by decide) (fun k54 => ?_) (fun k54 => ?_)
  · replace hw := hw.1 k54
    refine lv_iconst (v := Int32.ofInt 2) hx hb dX11_control_390 (by decide) ?_
    exact j391 2 σ _ _ _ hP hD hS (lv_sub hl [] rfl) hw
  · replace hw := hw.2 k54
    refine lv_iconst (v := Int32.ofInt 3) hx hb dX11_control_386 (by decide) ?_
    refine lv_goto (tgt := 391) hx hb dX11_control_387 (by decide) ?_
    exact j391 3 σ _ _ _ hP hD hS (lv_sub hl [] rfl) hw
def wpX11_plain_99 (σ : ZS) (Q : Int → ZS → Prop) : Prop := Q 0 σ
def wpX11_plain_52 (v2 s3 s2 s1 : Int) (σ : ZS) (Q : Int → ZS → Prop) : Prop := (0 ≤ s1 ∧ s1 < 16) ∧ (0 ≤ v2 ∧ v2 < 16) ∧ wpX11_flags (zA (zsA σ 0 75 s1 ((s2 + s3) % 65536)) 0 75 v2) (zsA σ 0 75 s1 ((s2 + s3) % 65536)) (fun (σ4 : ZS) => Q 0 σ4)
def wpX11_plain (a1 : Int) (σ : ZS) (Q : Int → ZS → Prop) : Prop := (-2147483648 ≤ a1 ∧ a1 ≤ 2147483647) ∧ (a1 < 184 → (80 ≤ a1 → (88 ≤ a1 → wpX11_pop σ (fun (x9 : Int) (σ10 : ZS) => wpX11_plain_99 (zsA σ10 0 75 (a1 % 8) x9) Q)) ∧ (¬ 88 ≤ a1 → wpX11_push (zA σ 0 75 (a1 % 8)) σ (fun (σ12 : ZS) => wpX11_plain_99 σ12 Q))) ∧ (¬ 80 ≤ a1 → (72 ≤ a1 → wpX11_plain_52 (a1 % 8) (-1) (zA σ 0 75 (a1 % 8)) (a1 % 8) σ Q) ∧ (¬ 72 ≤ a1 → wpX11_plain_52 (a1 % 8) 1 (zA σ 0 75 (a1 % 8)) (a1 % 8) σ Q))) ∧ (¬ a1 < 184 → wpX11_fetchTwo σ (fun (x14 : Int) (σ15 : ZS) => Q 0 (zsA σ15 0 75 (a1 % 8) x14)))
set_option maxHeartbeats 4000000 in
set_option maxRecDepth 100000 in
theorem kX11_plain (l : Launch) (D : va_G) (dA : Nat → ClassId) (ad : Int → Nat → Nat) (a1 : Int) (σ : ZS) (Q : Int → ZS → Prop) (sz : Nat) (hw : wpX11_plain a1 σ Q) : Met l yX11_plain (gws yX11_plain cX11_plain 3 (some .int)) (gR 4 0 0) (gPre D dA [.ref (ad 0 1000), .int (Int32.ofInt a1)] (zR dA ad σ) sz) (va_Qi (zQi Q) (gAt D dA (va_A (zR dA ad σ) sz) (zR dA ad)) (va_A (zR dA ad σ) sz)) 0 0 (va_A (zR dA ad σ) sz) := by
  refine Met.ofW (cc := cX11_plain) (maxL := 3) (ret := (some .int)) (by decide) rfl ?_
  intro p e s m args below meth c s₁ B hml hv
  obtain ⟨rfl, hsz, hP, hK, hD0⟩ := hv
  have hx := B.exec
  have hb := B.bytes
  have hr := B.returns
  have hts := atoms_spec (ws := gws yX11_plain cX11_plain 3 (some .int)) B.pre
  have hg : ∀ w ∈ gw, w.before _ s = true := fun w h => hts w (List.mem_cons_of_mem _ h)
  have hown : s.vm.findClass RX11 = some m.cls := findClass_of_methodNamed B.named
  have hlocks := B.notSynchronized
  subst hsz
  have hD := hD0.self (sz := s.heap.size)
  generalize hAe : va_A (zR dA ad σ) s.heap.size = A at hD ⊢
  have hA : ∀ q : Nat, s.heap.size ≤ q → A q := fun q h => by rw [← hAe]; exact Or.inr h
  have hS : va_S A s.heap s.heap [] := va_S.rf
  have hl := lv_entry ([.ref (ad 0 1000), .int (Int32.ofInt a1)]) (n := 3) (Nat.le_of_ble_eq_true rfl)
  rw [lg_entry_eq]
  generalize (lg_sl ([.ref (ad 0 1000), .int (Int32.ofInt a1)]) ++ List.replicate (3 - (lg_sl ([.ref (ad 0 1000), .int (Int32.ofInt a1)])).length) Slot.unset).toArray = ls at hl ⊢
  have hl : lv_has ls 3 [(0, .ref (ad 0 1000)), (1, .int (Int32.ofInt a1))] := hl
  have hret : ∀ (v : Int) (σ : ZS) (H : Heap) (locs : List Loc) (ls : Array Slot) (pc : Nat), Q v σ → va_P D vwC (zR dA ad σ) H → va_D A (zR dA ad σ) → va_S A s.heap H locs → decode cX11_plain pc = .ok (.ireturn, 1) → W p l e (gR 4 0 0) s m #[.ref (ad 0 1000), .int (Int32.ofInt a1)] below meth c H locs 0 0 (MQ below (va_Qi (zQi Q) (gAt D dA A (zR dA ad)) A) #[.ref (ad 0 1000), .int (Int32.ofInt a1)] s 0 0 A) (F0 m pc ls [.int (Int32.ofInt v)]) := fun v σ H locs ls pc hw hP hD hS hd => g_iret hx hb hr rfl hlocks hK σ hP hD hS ⟨v, rfl, hw⟩ (Nat.le_of_ble_eq_true rfl) (Nat.le_of_ble_eq_true rfl) hd
  generalize MQ below (va_Qi (zQi Q) (gAt D dA A (zR dA ad)) A) #[.ref (ad 0 1000), .int (Int32.ofInt a1)] s 0 0 A = QQ at hret ⊢
  have j99 : ∀ (σ : ZS), ∀ (H : Heap) (locs : List Loc) (ls : Array Slot), va_P D vwC (zR dA ad σ) H → va_D A (zR dA ad σ) → va_S A s.heap H locs → lv_has ls 3 [] → wpX11_plain_99 σ Q → W p l e (gR 4 0 0) s m #[.ref (ad 0 1000), .int (Int32.ofInt a1)] below meth c H locs 0 0 QQ (F0 m 99 ls []) := by
    intro σ H locs ls hP hD hS hl hw
    unfold wpX11_plain_99 at hw
    refine lv_iconst (v := Int32.ofInt 0) hx hb dX11_plain_99 (by decide) ?_
    exact hret 0 σ _ _ _ _ hw hP hD hS dX11_plain_100
  have j52 : ∀ (v2 s3 s2 s1 : Int) (σ : ZS), ∀ (H : Heap) (locs : List Loc) (ls : Array Slot), va_P D vwC (zR dA ad σ) H → va_D A (zR dA ad σ) → va_S A s.heap H locs → lv_has ls 3 [(0, .ref (ad 0 1000)), (2, .int (Int32.ofInt v2))] → wpX11_plain_52 v2 s3 s2 s1 σ Q → W p l e (gR 4 0 0) s m #[.ref (ad 0 1000), .int (Int32.ofInt a1)] below meth c H locs 0 0 QQ (F0 m 52 ls [.int (Int32.ofInt s3), .int (Int32.ofInt s2), .int (Int32.ofInt s1), .ref (ad 0 75)]) := by
    intro v2 s3 s2 s1 σ H locs ls hP hD hS hl hw
    unfold wpX11_plain_52 at hw
    refine z_iadd hx hb dX11_plain_52 ?_
    refine lv_ldcw hx hb hown (hg _ q1907) dX11_plain_53 ?_
    refine g_nrm (y := Int32.ofInt 65535) (by decide) ?_
    refine z_iandK (M := 65536) hx hb 16 (by decide) (by decide) (by decide) dX11_plain_56 ?_
    obtain ⟨o1, hw⟩ := hw
    refine zsR0_75 (v := ((s2 + s3) % 65536)) hx hb o1 hK hP hD hS dX11_plain_57 (fun H locs hP hD hS => ?_)
    refine lv_aload_n hx hb dX11_plain_58 rfl (lv_at hl 0 rfl) ?_
    refine lv_aload_n hx hb dX11_plain_59 rfl (lv_at hl 0 rfl) ?_
    refine zgR0_75 hx hb hg hown hK hP q1690 dX11_plain_60 ?_
    refine lv_iload_n hx hb dX11_plain_63 rfl (lv_at hl 1 rfl) ?_
    obtain ⟨o2, hw⟩ := hw
    refine zlR0_75 hx hb o2 hK hP dX11_plain_64 ?_
    refine z_Vv (n := 1) (As := [.int (Int32.ofInt (zA (zsA σ 0 75 s1 ((s2 + s3) % 65536)) 0 75 v2))]) (rest := []) hx hb hml hg hown hK hP hD hS hA (kX11_flags l D dA ad (zA (zsA σ 0 75 s1 ((s2 + s3) % 65536)) 0 75 v2) (zsA σ 0 75 s1 ((s2 + s3) % 65536)) _ _ hw) (zoR0) rfl q2168 q160 q2165 q2167 q138 (by decide +kernel) ⟨(Nat.le_of_ble_eq_true rfl), (Nat.le_of_ble_eq_true rfl)⟩ rfl hl.1 rfl (Nat.le_of_ble_eq_true rfl) dX11_plain_65 ⟨(Nat.le_of_ble_eq_true rfl), (Nat.le_of_ble_eq_true rfl)⟩ (fun σ4 H locs hw hP hD hS => ?_)
    refine lv_iconst (v := Int32.ofInt 0) hx hb dX11_plain_68 (by decide) ?_
    exact hret 0 σ4 _ _ _ _ hw hP hD hS dX11_plain_69
  unfold wpX11_plain at hw
  refine lv_iload_n hx hb dX11_plain_0 rfl (lv_at hl 1 rfl) ?_
  refine lv_bipush (v := Int32.ofInt 7) hx hb dX11_plain_1 (by decide) ?_
  refine z_iandK (M := 8) hx hb 3 (by decide) (by decide) (by decide) dX11_plain_3 ?_
  refine lv_istore_n (lv' := [(2, .int (Int32.ofInt (a1 % 8))), (0, .ref (ad 0 1000)), (1, .int (Int32.ofInt a1))]) hx hb dX11_plain_4 rfl hl (by decide) rfl (fun ls hl => ?_)
  refine lv_iload_n hx hb dX11_plain_5 rfl (lv_at hl 2 rfl) ?_
  refine lv_sipush (v := Int32.ofInt 184) hx hb dX11_plain_6 (by decide) ?_
  obtain ⟨o5, hw⟩ := hw
  refine z_icmp_lt (tgt := 24) hx hb o5 (by decide) dX11_plain_9 (by decide) (fun k6 => ?_) (fun k6 => ?_)
  · replace hw := hw.1 k6
    refine lv_iload_n hx hb dX11_plain_24 rfl (lv_at hl 2 rfl) ?_
    refine lv_bipush (v := Int32.ofInt 80) hx hb dX11_plain_25 (by decide) ?_
    refine z_icmp_ge (tgt := 70) hx hb o5 (by decide) dX11_plain_27 (by decide) (fun k7 => ?_) (fun k7 => ?_)
    · replace hw := hw.1 k7
      refine lv_iload_n hx hb dX11_plain_70 rfl (lv_at hl 2 rfl) ?_
      refine lv_bipush (v := Int32.ofInt 88) hx hb dX11_plain_71 (by decide) ?_
      refine z_icmp_ge (tgt := 89) hx hb o5 (by decide) dX11_plain_73 (by decide) (fun k8 => ?_) (fun k8 => ?_)
      · replace hw := hw.1 k8
        refine lv_aload_n hx hb dX11_plain_89 rfl (lv_at hl 1 rfl) ?_
        refine zgR0_75 hx hb hg hown hK hP q1690 dX11_plain_90 ?_
        refine lv_iload_n hx hb dX11_plain_93 rfl (lv_at hl 0 rfl) ?_
        refine lv_aload_n hx hb dX11_plain_94 rfl (lv_at hl 1 rfl) ?_
        refine z_Vi (n := 0) (As := []) (rest := [.int (Int32.ofInt (a1 % 8)), .ref (ad 0 75)]) hx hb hml hg hown hK hP hD hS hA (kX11_pop l D dA ad σ _ _ hw) (zoR0) rfl q2197 q160 q2194 q2196 q145 (by decide +kernel) ⟨(Nat.le_of_ble_eq_true rfl), (Nat.le_of_ble_eq_true rfl)⟩ rfl hl.1 rfl (Nat.le_of_ble_eq_true rfl) dX11_plain_95 ⟨(Nat.le_of_ble_eq_true rfl), (Nat.le_of_ble_eq_true rfl)⟩ (fun x9 σ10 H locs hw hP hD hS => ?_)
        refine zsR0_75 (v := x9) hx hb (by clear hw; omega) hK hP hD hS dX11_plain_98 (fun H locs hP hD hS => ?_)
        exact j99 (zsA σ10 0 75 (a1 % 8) x9) _ _ _ hP hD hS (lv_sub hl [] rfl) hw
      · replace hw := hw.2 k8
        refine lv_aload_n hx hb dX11_plain_76 rfl (lv_at hl 1 rfl) ?_
        refine lv_aload_n hx hb dX11_plain_77 rfl (lv_at hl 1 rfl) ?_
        refine zgR0_75 hx hb hg hown hK hP q1690 dX11_plain_78 ?_
        refine lv_iload_n hx hb dX11_plain_81 rfl (lv_at hl 0 rfl) ?_
        refine zlR0_75 hx hb (by clear hw; omega) hK hP dX11_plain_82 ?_
        refine z_Vv (n := 1) (As := [.int (Int32.ofInt (zA σ 0 75 (a1 % 8)))]) (rest := []) hx hb hml hg hown hK hP hD hS hA (kX11_push l D dA ad (zA σ 0 75 (a1 % 8)) σ _ _ hw) (zoR0) rfl q2193 q160 q2190 q2192 q144 (by decide +kernel) ⟨(Nat.le_of_ble_eq_true rfl), (Nat.le_of_ble_eq_true rfl)⟩ rfl hl.1 rfl (Nat.le_of_ble_eq_true rfl) dX11_plain_83 ⟨(Nat.le_of_ble_eq_true rfl), (Nat.le_of_ble_eq_true rfl)⟩ (fun σ12 H locs hw hP hD hS => ?_)
        refine lv_goto (tgt := 99) hx hb dX11_plain_86 (by decide) ?_
        exact j99 σ12 _ _ _ hP hD hS (lv_sub hl [] rfl) hw
    · replace hw := hw.2 k7
      refine lv_aload_n hx hb dX11_plain_30 rfl (lv_at hl 1 rfl) ?_
      refine zgR0_75 hx hb hg hown hK hP q1690 dX11_plain_31 ?_
      refine lv_iload_n hx hb dX11_plain_34 rfl (lv_at hl 0 rfl) ?_
      refine lv_aload_n hx hb dX11_plain_35 rfl (lv_at hl 1 rfl) ?_
      refine zgR0_75 hx hb hg hown hK hP q1690 dX11_plain_36 ?_
      refine lv_iload_n hx hb dX11_plain_39 rfl (lv_at hl 0 rfl) ?_
      refine zlR0_75 hx hb (by clear hw; omega) hK hP dX11_plain_40 ?_
      refine lv_iload_n hx hb dX11_plain_41 rfl (lv_at hl 2 rfl) ?_
      refine lv_bipush (v := Int32.ofInt 72) hx hb dX11_plain_42 (by decide) ?_
      refine z_icmp_ge (tgt := 51) hx hb o5 (by decide) dX11_plain_44 (by decide) (fun k13 => ?_) (fun k13 => ?_)
      · replace hw := hw.1 k13
        refine lv_iconst (v := Int32.ofInt (-1)) hx hb dX11_plain_51 (by decide) ?_
        exact j52 (a1 % 8) (-1) (zA σ 0 75 (a1 % 8)) (a1 % 8) σ _ _ _ hP hD hS (lv_sub hl [1, 0] rfl) hw
      · replace hw := hw.2 k13
        refine lv_iconst (v := Int32.ofInt 1) hx hb dX11_plain_47 (by decide) ?_
        refine lv_goto (tgt := 52) hx hb dX11_plain_48 (by decide) ?_
        exact j52 (a1 % 8) 1 (zA σ 0 75 (a1 % 8)) (a1 % 8) σ _ _ _ hP hD hS (lv_sub hl [1, 0] rfl) hw
  · replace hw := hw.2 k6
    refine lv_aload_n hx hb dX11_plain_12 rfl (lv_at hl 1 rfl) ?_
    refine zgR0_75 hx hb hg hown hK hP q1690 dX11_plain_13 ?_
    refine lv_iload_n hx hb dX11_plain_16 rfl (lv_at hl 0 rfl) ?_
    refine lv_aload_n hx hb dX11_plain_17 rfl (lv_at hl 1 rfl) ?_
    refine z_Vi (n := 0) (As := []) (rest := [.int (Int32.ofInt (a1 % 8)), .ref (ad 0 75)]) hx hb hml hg hown hK hP hD hS hA (kX11_fetchTwo l D dA ad σ _ _ hw) (zoR0) rfl q2148 q160 q2145 q2147 q133 (by decide +kernel) ⟨(Nat.le_of_ble_eq_true rfl), (Nat.le_of_ble_eq_true rfl)⟩ rfl hl.1 rfl (Nat.le_of_ble_eq_true rfl) dX11_plain_18 ⟨(Nat.le_of_ble_eq_true rfl), (Nat.le_of_ble_eq_true rfl)⟩ (fun x14 σ15 H locs hw hP hD hS => ?_)
    refine zsR0_75 (v := x14) hx hb (by clear hw; omega) hK hP hD hS dX11_plain_21 (fun H locs hP hD hS => ?_)
    refine lv_iconst (v := Int32.ofInt 0) hx hb dX11_plain_22 (by decide) ?_
    exact hret 0 (zsA σ15 0 75 (a1 % 8) x14) _ _ _ _ hw hP hD hS dX11_plain_23
def wpX11_hasForm_98 (s0 : Int) (σ : ZS) (Q : Int → ZS → Prop) : Prop := (0 ≤ s0 ∧ s0 ≤ 1) ∧ Q s0 σ
def wpX11_hasForm_93 (σ : ZS) (Q : Int → ZS → Prop) : Prop := wpX11_hasForm_98 1 σ Q
def wpX11_hasForm_36 (s0 : Int) (σ : ZS) (Q : Int → ZS → Prop) : Prop := (0 ≤ s0 ∧ s0 ≤ 1) ∧ Q s0 σ
def wpX11_hasForm_35 (σ : ZS) (Q : Int → ZS → Prop) : Prop := wpX11_hasForm_36 0 σ Q
def wpX11_hasForm_22 (v0 : Int) (σ : ZS) (Q : Int → ZS → Prop) : Prop := (-2147483648 ≤ v0 ∧ v0 ≤ 2147483647) ∧ wpX11_operation (v0 / 8) σ (fun (x4 : Int) (σ5 : ZS) => (-2147483648 ≤ x4 ∧ x4 ≤ 2147483647) ∧ (x4 = 0 → wpX11_hasForm_35 σ5 Q) ∧ (¬ x4 = 0 → wpX11_hasForm_36 1 σ5 Q))
def wpX11_hasForm (a0 : Int) (σ : ZS) (Q : Int → ZS → Prop) : Prop := (-2147483648 ≤ a0 ∧ a0 ≤ 2147483647) ∧ (64 ≤ a0 → (a0 = 129 → wpX11_hasForm_93 σ Q) ∧ (¬ a0 = 129 → (a0 = 137 → wpX11_hasForm_93 σ Q) ∧ (¬ a0 = 137 → (a0 = 139 → wpX11_hasForm_93 σ Q) ∧ (¬ a0 = 139 → (a0 = 140 → wpX11_hasForm_93 σ Q) ∧ (¬ a0 = 140 → (a0 = 142 → wpX11_hasForm_93 σ Q) ∧ (¬ a0 = 142 → (a0 = 199 → wpX11_hasForm_93 σ Q) ∧ (¬ a0 = 199 → (a0 = 209 → wpX11_hasForm_93 σ Q) ∧ (¬ a0 = 209 → (¬ a0 = 247 → wpX11_hasForm_98 0 σ Q) ∧ (a0 = 247 → wpX11_hasForm_93 σ Q))))))))) ∧ (¬ 64 ≤ a0 → (0 ≤ a0 ∧ a0 ≤ 2147483647) ∧ ((a0 % 8) = 1 → wpX11_hasForm_22 a0 σ Q) ∧ (¬ (a0 % 8) = 1 → (¬ (a0 % 8) = 3 → wpX11_hasForm_35 σ Q) ∧ ((a0 % 8) = 3 → wpX11_hasForm_22 a0 σ Q)))
set_option maxHeartbeats 4000000 in
set_option maxRecDepth 100000 in
theorem kX11_hasForm (l : Launch) (D : va_G) (dA : Nat → ClassId) (ad : Int → Nat → Nat) (a0 : Int) (σ : ZS) (Q : Int → ZS → Prop) (sz : Nat) (hw : wpX11_hasForm a0 σ Q) : Met l yX11_hasForm (gws yX11_hasForm cX11_hasForm 1 (some .boolean)) (gR 2 0 0) (gPre D dA [.int (Int32.ofInt a0)] (zR dA ad σ) sz) (va_Qi (zQi Q) (gAt D dA (va_A (zR dA ad σ) sz) (zR dA ad)) (va_A (zR dA ad σ) sz)) 0 0 (va_A (zR dA ad σ) sz) := by
  refine Met.ofW (cc := cX11_hasForm) (maxL := 1) (ret := (some .boolean)) (by decide) rfl ?_
  intro p e s m args below meth c s₁ B hml hv
  obtain ⟨rfl, hsz, hP, hK, hD0⟩ := hv
  have hx := B.exec
  have hb := B.bytes
  have hr := B.returns
  have hts := atoms_spec (ws := gws yX11_hasForm cX11_hasForm 1 (some .boolean)) B.pre
  have hg : ∀ w ∈ gw, w.before _ s = true := fun w h => hts w (List.mem_cons_of_mem _ h)
  have hown : s.vm.findClass RX11 = some m.cls := findClass_of_methodNamed B.named
  have hlocks := B.notSynchronized
  subst hsz
  have hD := hD0.self (sz := s.heap.size)
  generalize hAe : va_A (zR dA ad σ) s.heap.size = A at hD ⊢
  have hA : ∀ q : Nat, s.heap.size ≤ q → A q := fun q h => by rw [← hAe]; exact Or.inr h
  have hS : va_S A s.heap s.heap [] := va_S.rf
  have hl := lv_entry ([.int (Int32.ofInt a0)]) (n := 1) (Nat.le_of_ble_eq_true rfl)
  rw [lg_entry_eq]
  generalize (lg_sl ([.int (Int32.ofInt a0)]) ++ List.replicate (1 - (lg_sl ([.int (Int32.ofInt a0)])).length) Slot.unset).toArray = ls at hl ⊢
  have hl : lv_has ls 1 [(0, .int (Int32.ofInt a0))] := hl
  have hret : ∀ (v : Int) (σ : ZS) (H : Heap) (locs : List Loc) (ls : Array Slot) (pc : Nat), (0 ≤ v ∧ v ≤ 1) → Q v σ → va_P D vwC (zR dA ad σ) H → va_D A (zR dA ad σ) → va_S A s.heap H locs → decode cX11_hasForm pc = .ok (.ireturn, 1) → W p l e (gR 2 0 0) s m #[.int (Int32.ofInt a0)] below meth c H locs 0 0 (MQ below (va_Qi (zQi Q) (gAt D dA A (zR dA ad)) A) #[.int (Int32.ofInt a0)] s 0 0 A) (F0 m pc ls [.int (Int32.ofInt v)]) := fun v σ H locs ls pc hv hw hP hD hS hd => g_iret hx hb hr (z_nb hv) hlocks hK σ hP hD hS ⟨v, rfl, hw⟩ (Nat.le_of_ble_eq_true rfl) (Nat.le_of_ble_eq_true rfl) hd
  generalize MQ below (va_Qi (zQi Q) (gAt D dA A (zR dA ad)) A) #[.int (Int32.ofInt a0)] s 0 0 A = QQ at hret ⊢
  have j98 : ∀ (s0 : Int) (σ : ZS), ∀ (H : Heap) (locs : List Loc) (ls : Array Slot), va_P D vwC (zR dA ad σ) H → va_D A (zR dA ad σ) → va_S A s.heap H locs → lv_has ls 1 [] → wpX11_hasForm_98 s0 σ Q → W p l e (gR 2 0 0) s m #[.int (Int32.ofInt a0)] below meth c H locs 0 0 QQ (F0 m 98 ls [.int (Int32.ofInt s0)]) := by
    intro s0 σ H locs ls hP hD hS hl hw
    unfold wpX11_hasForm_98 at hw
    obtain ⟨o1, hw⟩ := hw
    exact hret s0 σ _ _ _ _ o1 hw hP hD hS dX11_hasForm_98
  have j93 : ∀ (σ : ZS), ∀ (H : Heap) (locs : List Loc) (ls : Array Slot), va_P D vwC (zR dA ad σ) H → va_D A (zR dA ad σ) → va_S A s.heap H locs → lv_has ls 1 [] → wpX11_hasForm_93 σ Q → W p l e (gR 2 0 0) s m #[.int (Int32.ofInt a0)] below meth c H locs 0 0 QQ (F0 m 93 ls []) := by
    intro σ H locs ls hP hD hS hl hw
    unfold wpX11_hasForm_93 at hw
    refine lv_iconst (v := Int32.ofInt 1) hx hb dX11_hasForm_93 (by decide) ?_
    refine lv_goto (tgt := 98) hx hb dX11_hasForm_94 (by decide) ?_
    exact j98 1 σ _ _ _ hP hD hS (lv_sub hl [] rfl) hw
  have j36 : ∀ (s0 : Int) (σ : ZS), ∀ (H : Heap) (locs : List Loc) (ls : Array Slot), va_P D vwC (zR dA ad σ) H → va_D A (zR dA ad σ) → va_S A s.heap H locs → lv_has ls 1 [] → wpX11_hasForm_36 s0 σ Q → W p l e (gR 2 0 0) s m #[.int (Int32.ofInt a0)] below meth c H locs 0 0 QQ (F0 m 36 ls [.int (Int32.ofInt s0)]) := by
    intro s0 σ H locs ls hP hD hS hl hw
    unfold wpX11_hasForm_36 at hw
    obtain ⟨o2, hw⟩ := hw
    exact hret s0 σ _ _ _ _ o2 hw hP hD hS dX11_hasForm_36
  have j35 : ∀ (σ : ZS), ∀ (H : Heap) (locs : List Loc) (ls : Array Slot), va_P D vwC (zR dA ad σ) H → va_D A (zR dA ad σ) → va_S A s.heap H locs → lv_has ls 1 [] → wpX11_hasForm_35 σ Q → W p l e (gR 2 0 0) s m #[.int (Int32.ofInt a0)] below meth c H locs 0 0 QQ (F0 m 35 ls []) := by
    intro σ H locs ls hP hD hS hl hw
    unfold wpX11_hasForm_35 at hw
    refine lv_iconst (v := Int32.ofInt 0) hx hb dX11_hasForm_35 (by decide) ?_
    exact j36 0 σ _ _ _ hP hD hS (lv_sub hl [] rfl) hw
  have j22 : ∀ (v0 : Int) (σ : ZS), ∀ (H : Heap) (locs : List Loc) (ls : Array Slot), va_P D vwC (zR dA ad σ) H → va_D A (zR dA ad σ) → va_S A s.heap H locs → lv_has ls 1 [(0, .int (Int32.ofInt v0))] → wpX11_hasForm_22 v0 σ Q → W p l e (gR 2 0 0) s m #[.int (Int32.ofInt a0)] below meth c H locs 0 0 QQ (F0 m 22 ls []) := by
    intro v0 σ H locs ls hP hD hS hl hw
    unfold wpX11_hasForm_22 at hw
    refine lv_iload_n hx hb dX11_hasForm_22 rfl (lv_at hl 0 rfl) ?_
    refine lv_iconst (v := Int32.ofInt 3) hx hb dX11_hasForm_23 (by decide) ?_
    obtain ⟨o3, hw⟩ := hw
    refine z_ishrK (M := 8) hx hb 3 (by decide) (by decide) (by decide) o3 dX11_hasForm_24 ?_
    refine z_Si (n := 1) (As := [.int (Int32.ofInt (v0 / 8))]) (rest := []) hx hb hml hg hown hK hP hD hS hA (kX11_operation l D dA ad (v0 / 8) σ _ _ hw) q2136 q160 q2134 q2135 (by decide +kernel) ⟨(Nat.le_of_ble_eq_true rfl), (Nat.le_of_ble_eq_true rfl)⟩ rfl hl.1 rfl (Nat.le_of_ble_eq_true rfl) dX11_hasForm_25 ⟨(Nat.le_of_ble_eq_true rfl), (Nat.le_of_ble_eq_true rfl)⟩ (fun x4 σ5 H locs hw hP hD hS => ?_)
    obtain ⟨o6, hw⟩ := hw
    refine z_if_eq (tgt := 35) hx hb o6 dX11_hasForm_28 (by decide) (fun k7 => ?_) (fun k7 => ?_)
    · replace hw := hw.1 k7
      exact j35 σ5 _ _ _ hP hD hS (lv_sub hl [] rfl) hw
    · replace hw := hw.2 k7
      refine lv_iconst (v := Int32.ofInt 1) hx hb dX11_hasForm_31 (by decide) ?_
      refine lv_goto (tgt := 36) hx hb dX11_hasForm_32 (by decide) ?_
      exact j36 1 σ5 _ _ _ hP hD hS (lv_sub hl [] rfl) hw
  unfold wpX11_hasForm at hw
  refine lv_iload_n hx hb dX11_hasForm_0 rfl (lv_at hl 0 rfl) ?_
  refine lv_bipush (v := Int32.ofInt 64) hx hb dX11_hasForm_1 (by decide) ?_
  obtain ⟨o8, hw⟩ := hw
  refine z_icmp_ge (tgt := 37) hx hb o8 (by decide) dX11_hasForm_3 (by decide) (fun k9 => ?_) (fun k9 => ?_)
  · replace hw := hw.1 k9
    refine lv_iload_n hx hb dX11_hasForm_37 rfl (lv_at hl 0 rfl) ?_
    refine lv_sipush (v := Int32.ofInt 129) hx hb dX11_hasForm_38 (by decide) ?_
    refine z_icmp_eq (tgt := 93) hx hb o8 (by decide) dX11_hasForm_41 (by decide) (fun k10 => ?_) (fun k10 => ?_)
    · replace hw := hw.1 k10
      exact j93 σ _ _ _ hP hD hS (lv_sub hl [] rfl) hw
    · replace hw := hw.2 k10
      refine lv_iload_n hx hb dX11_hasForm_44 rfl (lv_at hl 0 rfl) ?_
      refine lv_sipush (v := Int32.ofInt 137) hx hb dX11_hasForm_45 (by decide) ?_
      refine z_icmp_eq (tgt := 93) hx hb o8 (by decide) dX11_hasForm_48 (by decide) (fun k11 => ?_) (fun k11 => ?_)
      · replace hw := hw.1 k11
        exact j93 σ _ _ _ hP hD hS (lv_sub hl [] rfl) hw
      · replace hw := hw.2 k11
        refine lv_iload_n hx hb dX11_hasForm_51 rfl (lv_at hl 0 rfl) ?_
        refine lv_sipush (v := Int32.ofInt 139) hx hb dX11_hasForm_52 (by decide) ?_
        refine z_icmp_eq (tgt := 93) hx hb o8 (by decide) dX11_hasForm_55 (by decide) (fun k12 => ?_) (fun k12 => ?_)
        · replace hw := hw.1 k12
          exact j93 σ _ _ _ hP hD hS (lv_sub hl [] rfl) hw
        · replace hw := hw.2 k12
          refine lv_iload_n hx hb dX11_hasForm_58 rfl (lv_at hl 0 rfl) ?_
          refine lv_sipush (v := Int32.ofInt 140) hx hb dX11_hasForm_59 (by decide) ?_
          refine z_icmp_eq (tgt := 93) hx hb o8 (by decide) dX11_hasForm_62 (by decide) (fun k13 => ?_) (fun k13 => ?_)
          · replace hw := hw.1 k13
            exact j93 σ _ _ _ hP hD hS (lv_sub hl [] rfl) hw
          · replace hw := hw.2 k13
            refine lv_iload_n hx hb dX11_hasForm_65 rfl (lv_at hl 0 rfl) ?_
            refine lv_sipush (v := Int32.ofInt 142) hx hb dX11_hasForm_66 (by decide) ?_
            refine z_icmp_eq (tgt := 93) hx hb o8 (by decide) dX11_hasForm_69 (by decide) (fun k14 => ?_) (fun k14 => ?_)
            · replace hw := hw.1 k14
              exact j93 σ _ _ _ hP hD hS (lv_sub hl [] rfl) hw
            · replace hw := hw.2 k14
              refine lv_iload_n hx hb dX11_hasForm_72 rfl (lv_at hl 0 rfl) ?_
              refine lv_sipush (v := Int32.ofInt 199) hx hb dX11_hasForm_73 (by decide) ?_
              refine z_icmp_eq (tgt := 93) hx hb o8 (by decide) dX11_hasForm_76 (by decide) (fun k15 => ?_) (fun k15 => ?_)
              · replace hw := hw.1 k15
                exact j93 σ _ _ _ hP hD hS (lv_sub hl [] rfl) hw
              · replace hw := hw.2 k15
                refine lv_iload_n hx hb dX11_hasForm_79 rfl (lv_at hl 0 rfl) ?_
                refine lv_sipush (v := Int32.ofInt 209) hx hb dX11_hasForm_80 (by decide) ?_
                refine z_icmp_eq (tgt := 93) hx hb o8 (by decide) dX11_hasForm_83 (by decide) (fun k16 => ?_) (fun k16 => ?_)
                · replace hw := hw.1 k16
                  exact j93 σ _ _ _ hP hD hS (lv_sub hl [] rfl) hw
                · replace hw := hw.2 k16
                  refine lv_iload_n hx hb dX11_hasForm_86 rfl (lv_at hl 0 rfl) ?_
                  refine lv_sipush (v := Int32.ofInt 247) hx hb dX11_hasForm_87 (by decide) ?_
                  refine z_icmp_ne (tgt := 97) hx hb o8 (by decide) dX11_hasForm_90 (by decide) (fun k17 => ?_) (fun k17 => ?_)
                  · replace hw := hw.1 k17
                    refine lv_iconst (v := Int32.ofInt 0) hx hb dX11_hasForm_97 (by decide) ?_
                    exact j98 0 σ _ _ _ hP hD hS (lv_sub hl [] rfl) hw
                  · replace hw := hw.2 k17
                    exact j93 σ _ _ _ hP hD hS (lv_sub hl [] rfl) hw
  · replace hw := hw.2 k9
    refine lv_iload_n hx hb dX11_hasForm_6 rfl (lv_at hl 0 rfl) ?_
    refine lv_bipush (v := Int32.ofInt 8) hx hb dX11_hasForm_7 (by decide) ?_
    obtain ⟨o18, hw⟩ := hw
    refine z_irem hx hb o18 (by decide) dX11_hasForm_9 ?_
    refine lv_iconst (v := Int32.ofInt 1) hx hb dX11_hasForm_10 (by decide) ?_
    refine z_icmp_eq (tgt := 22) hx hb (by clear hw; omega) (by decide) dX11_hasForm_11 (by decide) (fun k19 => ?_) (fun k19 => ?_)
    · replace hw := hw.1 k19
      exact j22 a0 σ _ _ _ hP hD hS (lv_sub hl [0] rfl) hw
    · replace hw := hw.2 k19
      refine lv_iload_n hx hb dX11_hasForm_14 rfl (lv_at hl 0 rfl) ?_
      refine lv_bipush (v := Int32.ofInt 8) hx hb dX11_hasForm_15 (by decide) ?_
      refine z_irem hx hb o18 (by decide) dX11_hasForm_17 ?_
      refine lv_iconst (v := Int32.ofInt 3) hx hb dX11_hasForm_18 (by decide) ?_
      refine z_icmp_ne (tgt := 35) hx hb (by clear hw; omega) (by decide) dX11_hasForm_19 (by decide) (fun k20 => ?_) (fun k20 => ?_)
      · replace hw := hw.1 k20
        exact j35 σ _ _ _ hP hD hS (lv_sub hl [] rfl) hw
      · replace hw := hw.2 k20
        exact j22 a0 σ _ _ _ hP hD hS (lv_sub hl [0] rfl) hw
def wpX11_step_161 (v2 : Int) (σ : ZS) (Q : Int → ZS → Prop) : Prop := Q v2 σ
def wpX11_step_151 (v2 : Int) (σ : ZS) (Q : Int → ZS → Prop) : Prop := (-2147483648 ≤ v2 ∧ v2 ≤ 2147483647) ∧ (v2 = 1 → wpX11_step_161 v2 σ Q) ∧ (¬ v2 = 1 → (¬ v2 = 2 → Q v2 (zsI (zsA σ 0 75 12 (zI σ 0 80)) 0 77 ((zI σ 0 77) + 1))) ∧ (v2 = 2 → wpX11_step_161 v2 σ Q))
def wpX11_step_145 (v1 : Int) (σ : ZS) (Q : Int → ZS → Prop) : Prop := wpX11_control v1 σ (fun (x4 : Int) (σ5 : ZS) => wpX11_step_151 x4 σ5 Q)
def wpX11_step_103 (v1 : Int) (σ : ZS) (Q : Int → ZS → Prop) : Prop := (-2147483648 ≤ v1 ∧ v1 ≤ 2147483647) ∧ (32 ≤ v1 → wpX11_step_145 v1 σ Q) ∧ (¬ 32 ≤ v1 → (0 ≤ v1 ∧ v1 ≤ 2147483647) ∧ (¬ (v1 % 8) = 7 → wpX11_step_145 v1 σ Q) ∧ ((v1 % 8) = 7 → (v1 = 15 → wpX11_step_145 v1 σ Q) ∧ (¬ v1 = 15 → wpX11_pop σ (fun (x11 : Int) (σ12 : ZS) => (0 ≤ (8 + (v1 / 8)) ∧ (8 + (v1 / 8)) < 16) ∧ wpX11_step_151 0 (zsA σ12 0 75 (8 + (v1 / 8)) x11) Q))))
def wpX11_step_67 (v1 : Int) (σ : ZS) (Q : Int → ZS → Prop) : Prop := (-2147483648 ≤ v1 ∧ v1 ≤ 2147483647) ∧ (32 ≤ v1 → wpX11_step_103 v1 σ Q) ∧ (¬ 32 ≤ v1 → (0 ≤ v1 ∧ v1 ≤ 2147483647) ∧ (¬ (v1 % 8) = 6 → wpX11_step_103 v1 σ Q) ∧ ((v1 % 8) = 6 → (0 ≤ (8 + (v1 / 8)) ∧ (8 + (v1 / 8)) < 16) ∧ wpX11_push (zA σ 0 75 (8 + (v1 / 8))) σ (fun (σ20 : ZS) => wpX11_step_151 0 σ20 Q)))
def wpX11_step_58 (v1 : Int) (σ : ZS) (Q : Int → ZS → Prop) : Prop := wpX11_plain v1 σ (fun (x21 : Int) (σ22 : ZS) => wpX11_step_151 x21 σ22 Q)
def wpX11_step_44 (v1 : Int) (σ : ZS) (Q : Int → ZS → Prop) : Prop := (-2147483648 ≤ v1 ∧ v1 ≤ 2147483647) ∧ (v1 < 184 → wpX11_step_67 v1 σ Q) ∧ (¬ v1 < 184 → (192 ≤ v1 → wpX11_step_67 v1 σ Q) ∧ (¬ 192 ≤ v1 → wpX11_step_58 v1 σ Q))
def wpX11_step (σ : ZS) (Q : Int → ZS → Prop) : Prop := wpX11_fetch (zsI σ 0 80 (zA σ 0 75 12)) (fun (x26 : Int) (σ27 : ZS) => wpX11_hasForm x26 σ27 (fun (x28 : Int) (σ29 : ZS) => (-2147483648 ≤ x28 ∧ x28 ≤ 2147483647) ∧ (x28 = 0 → (-2147483648 ≤ x26 ∧ x26 ≤ 2147483647) ∧ (x26 < 64 → wpX11_step_44 x26 σ29 Q) ∧ (¬ x26 < 64 → (x26 < 96 → wpX11_step_58 x26 σ29 Q) ∧ (¬ x26 < 96 → wpX11_step_44 x26 σ29 Q))) ∧ (¬ x28 = 0 → wpX11_formed x26 σ29 (fun (x35 : Int) (σ36 : ZS) => wpX11_step_151 x35 σ36 Q))))
set_option maxHeartbeats 4000000 in
set_option maxRecDepth 100000 in
theorem kX11_step (l : Launch) (D : va_G) (dA : Nat → ClassId) (ad : Int → Nat → Nat) (σ : ZS) (Q : Int → ZS → Prop) (sz : Nat) (hw : wpX11_step σ Q) : Met l yX11_step (gws yX11_step cX11_step 3 (some .int)) (gR 6 0 0) (gPre D dA [.ref (ad 0 1000)] (zR dA ad σ) sz) (va_Qi (zQi Q) (gAt D dA (va_A (zR dA ad σ) sz) (zR dA ad)) (va_A (zR dA ad σ) sz)) 0 0 (va_A (zR dA ad σ) sz) := by
  refine Met.ofW (cc := cX11_step) (maxL := 3) (ret := (some .int)) (by decide) rfl ?_
  intro p e s m args below meth c s₁ B hml hv
  obtain ⟨rfl, hsz, hP, hK, hD0⟩ := hv
  have hx := B.exec
  have hb := B.bytes
  have hr := B.returns
  have hts := atoms_spec (ws := gws yX11_step cX11_step 3 (some .int)) B.pre
  have hg : ∀ w ∈ gw, w.before _ s = true := fun w h => hts w (List.mem_cons_of_mem _ h)
  have hown : s.vm.findClass RX11 = some m.cls := findClass_of_methodNamed B.named
  have hlocks := B.notSynchronized
  subst hsz
  have hD := hD0.self (sz := s.heap.size)
  generalize hAe : va_A (zR dA ad σ) s.heap.size = A at hD ⊢
  have hA : ∀ q : Nat, s.heap.size ≤ q → A q := fun q h => by rw [← hAe]; exact Or.inr h
  have hS : va_S A s.heap s.heap [] := va_S.rf
  have hl := lv_entry ([.ref (ad 0 1000)]) (n := 3) (Nat.le_of_ble_eq_true rfl)
  rw [lg_entry_eq]
  generalize (lg_sl ([.ref (ad 0 1000)]) ++ List.replicate (3 - (lg_sl ([.ref (ad 0 1000)])).length) Slot.unset).toArray = ls at hl ⊢
  have hl : lv_has ls 3 [(0, .ref (ad 0 1000))] := hl
  have hret : ∀ (v : Int) (σ : ZS) (H : Heap) (locs : List Loc) (ls : Array Slot) (pc : Nat), Q v σ → va_P D vwC (zR dA ad σ) H → va_D A (zR dA ad σ) → va_S A s.heap H locs → decode cX11_step pc = .ok (.ireturn, 1) → W p l e (gR 6 0 0) s m #[.ref (ad 0 1000)] below meth c H locs 0 0 (MQ below (va_Qi (zQi Q) (gAt D dA A (zR dA ad)) A) #[.ref (ad 0 1000)] s 0 0 A) (F0 m pc ls [.int (Int32.ofInt v)]) := fun v σ H locs ls pc hw hP hD hS hd => g_iret hx hb hr rfl hlocks hK σ hP hD hS ⟨v, rfl, hw⟩ (Nat.le_of_ble_eq_true rfl) (Nat.le_of_ble_eq_true rfl) hd
  generalize MQ below (va_Qi (zQi Q) (gAt D dA A (zR dA ad)) A) #[.ref (ad 0 1000)] s 0 0 A = QQ at hret ⊢
  have j161 : ∀ (v2 : Int) (σ : ZS), ∀ (H : Heap) (locs : List Loc) (ls : Array Slot), va_P D vwC (zR dA ad σ) H → va_D A (zR dA ad σ) → va_S A s.heap H locs → lv_has ls 3 [(2, .int (Int32.ofInt v2))] → wpX11_step_161 v2 σ Q → W p l e (gR 6 0 0) s m #[.ref (ad 0 1000)] below meth c H locs 0 0 QQ (F0 m 161 ls []) := by
    intro v2 σ H locs ls hP hD hS hl hw
    unfold wpX11_step_161 at hw
    refine lv_iload_n hx hb dX11_step_161 rfl (lv_at hl 0 rfl) ?_
    exact hret v2 σ _ _ _ _ hw hP hD hS dX11_step_162
  have j151 : ∀ (v2 : Int) (σ : ZS), ∀ (H : Heap) (locs : List Loc) (ls : Array Slot), va_P D vwC (zR dA ad σ) H → va_D A (zR dA ad σ) → va_S A s.heap H locs → lv_has ls 3 [(0, .ref (ad 0 1000)), (2, .int (Int32.ofInt v2))] → wpX11_step_151 v2 σ Q → W p l e (gR 6 0 0) s m #[.ref (ad 0 1000)] below meth c H locs 0 0 QQ (F0 m 151 ls []) := by
    intro v2 σ H locs ls hP hD hS hl hw
    unfold wpX11_step_151 at hw
    refine lv_iload_n hx hb dX11_step_151 rfl (lv_at hl 1 rfl) ?_
    refine lv_iconst (v := Int32.ofInt 1) hx hb dX11_step_152 (by decide) ?_
    obtain ⟨o1, hw⟩ := hw
    refine z_icmp_eq (tgt := 161) hx hb o1 (by decide) dX11_step_153 (by decide) (fun k2 => ?_) (fun k2 => ?_)
    · replace hw := hw.1 k2
      exact j161 v2 σ _ _ _ hP hD hS (lv_sub hl [1] rfl) hw
    · replace hw := hw.2 k2
      refine lv_iload_n hx hb dX11_step_156 rfl (lv_at hl 1 rfl) ?_
      refine lv_iconst (v := Int32.ofInt 2) hx hb dX11_step_157 (by decide) ?_
      refine z_icmp_ne (tgt := 163) hx hb o1 (by decide) dX11_step_158 (by decide) (fun k3 => ?_) (fun k3 => ?_)
      · replace hw := hw.1 k3
        refine lv_aload_n hx hb dX11_step_163 rfl (lv_at hl 0 rfl) ?_
        refine zgR0_75 hx hb hg hown hK hP q1690 dX11_step_164 ?_
        refine lv_bipush (v := Int32.ofInt 12) hx hb dX11_step_167 (by decide) ?_
        refine lv_aload_n hx hb dX11_step_169 rfl (lv_at hl 0 rfl) ?_
        refine zgR0_80 hx hb hg hown hK hP q1695 dX11_step_170 ?_
        refine zsR0_75 (v := (zI σ 0 80)) hx hb (by decide) hK hP hD hS dX11_step_173 (fun H locs hP hD hS => ?_)
        refine lv_aload_n hx hb dX11_step_174 rfl (lv_at hl 0 rfl) ?_
        refine lv_dup hx hb dX11_step_175 rfl ?_
        refine zgR0_77 hx hb hg hown hK hP q1692 dX11_step_176 ?_
        refine g_nrm (y := Int32.ofInt (zI σ 0 77)) rfl ?_
        refine lv_iconst (v := Int32.ofInt 1) hx hb dX11_step_179 (by decide) ?_
        refine z_iadd hx hb dX11_step_180 ?_
        refine zpR0_77 (v := ((zI σ 0 77) + 1)) hx hb hg hown hK hP hD hS q1692 dX11_step_181 (fun H locs hP hD hS => ?_)
        refine lv_iload_n hx hb dX11_step_184 rfl (lv_at hl 1 rfl) ?_
        exact hret v2 (zsI (zsA σ 0 75 12 (zI σ 0 80)) 0 77 ((zI σ 0 77) + 1)) _ _ _ _ hw hP hD hS dX11_step_185
      · replace hw := hw.2 k3
        exact j161 v2 σ _ _ _ hP hD hS (lv_sub hl [1] rfl) hw
  have j145 : ∀ (v1 : Int) (σ : ZS), ∀ (H : Heap) (locs : List Loc) (ls : Array Slot), va_P D vwC (zR dA ad σ) H → va_D A (zR dA ad σ) → va_S A s.heap H locs → lv_has ls 3 [(0, .ref (ad 0 1000)), (1, .int (Int32.ofInt v1))] → wpX11_step_145 v1 σ Q → W p l e (gR 6 0 0) s m #[.ref (ad 0 1000)] below meth c H locs 0 0 QQ (F0 m 145 ls []) := by
    intro v1 σ H locs ls hP hD hS hl hw
    unfold wpX11_step_145 at hw
    refine lv_aload_n hx hb dX11_step_145 rfl (lv_at hl 0 rfl) ?_
    refine lv_iload_n hx hb dX11_step_146 rfl (lv_at hl 1 rfl) ?_
    refine z_Vi (n := 1) (As := [.int (Int32.ofInt v1)]) (rest := []) hx hb hml hg hown hK hP hD hS hA (kX11_control l D dA ad v1 σ _ _ hw) (zoR0) rfl q2201 q160 q2198 q2200 q146 (by decide +kernel) ⟨(Nat.le_of_ble_eq_true rfl), (Nat.le_of_ble_eq_true rfl)⟩ rfl hl.1 rfl (Nat.le_of_ble_eq_true rfl) dX11_step_147 ⟨(Nat.le_of_ble_eq_true rfl), (Nat.le_of_ble_eq_true rfl)⟩ (fun x4 σ5 H locs hw hP hD hS => ?_)
    refine lv_istore_n (lv' := [(2, .int (Int32.ofInt x4)), (0, .ref (ad 0 1000)), (1, .int (Int32.ofInt v1))]) hx hb dX11_step_150 rfl hl (by decide) rfl (fun ls hl => ?_)
    exact j151 x4 σ5 _ _ _ hP hD hS (lv_sub hl [1, 0] rfl) hw
  have j103 : ∀ (v1 : Int) (σ : ZS), ∀ (H : Heap) (locs : List Loc) (ls : Array Slot), va_P D vwC (zR dA ad σ) H → va_D A (zR dA ad σ) → va_S A s.heap H locs → lv_has ls 3 [(0, .ref (ad 0 1000)), (1, .int (Int32.ofInt v1))] → wpX11_step_103 v1 σ Q → W p l e (gR 6 0 0) s m #[.ref (ad 0 1000)] below meth c H locs 0 0 QQ (F0 m 103 ls []) := by
    intro v1 σ H locs ls hP hD hS hl hw
    unfold wpX11_step_103 at hw
    refine lv_iload_n hx hb dX11_step_103 rfl (lv_at hl 1 rfl) ?_
    refine lv_bipush (v := Int32.ofInt 32) hx hb dX11_step_104 (by decide) ?_
    obtain ⟨o6, hw⟩ := hw
    refine z_icmp_ge (tgt := 145) hx hb o6 (by decide) dX11_step_106 (by decide) (fun k7 => ?_) (fun k7 => ?_)
    · replace hw := hw.1 k7
      exact j145 v1 σ _ _ _ hP hD hS (lv_sub hl [0, 1] rfl) hw
    · replace hw := hw.2 k7
      refine lv_iload_n hx hb dX11_step_109 rfl (lv_at hl 1 rfl) ?_
      refine lv_bipush (v := Int32.ofInt 8) hx hb dX11_step_110 (by decide) ?_
      obtain ⟨o8, hw⟩ := hw
      refine z_irem hx hb o8 (by decide) dX11_step_112 ?_
      refine lv_bipush (v := Int32.ofInt 7) hx hb dX11_step_113 (by decide) ?_
      refine z_icmp_ne (tgt := 145) hx hb (by clear hw; omega) (by decide) dX11_step_115 (by decide) (fun k9 => ?_) (fun k9 => ?_)
      · replace hw := hw.1 k9
        exact j145 v1 σ _ _ _ hP hD hS (lv_sub hl [0, 1] rfl) hw
      · replace hw := hw.2 k9
        refine lv_iload_n hx hb dX11_step_118 rfl (lv_at hl 1 rfl) ?_
        refine lv_bipush (v := Int32.ofInt 15) hx hb dX11_step_119 (by decide) ?_
        refine z_icmp_eq (tgt := 145) hx hb o6 (by decide) dX11_step_121 (by decide) (fun k10 => ?_) (fun k10 => ?_)
        · replace hw := hw.1 k10
          exact j145 v1 σ _ _ _ hP hD hS (lv_sub hl [0, 1] rfl) hw
        · replace hw := hw.2 k10
          refine lv_aload_n hx hb dX11_step_124 rfl (lv_at hl 0 rfl) ?_
          refine zgR0_75 hx hb hg hown hK hP q1690 dX11_step_125 ?_
          refine lv_bipush (v := Int32.ofInt 8) hx hb dX11_step_128 (by decide) ?_
          refine lv_iload_n hx hb dX11_step_130 rfl (lv_at hl 1 rfl) ?_
          refine lv_bipush (v := Int32.ofInt 8) hx hb dX11_step_131 (by decide) ?_
          refine z_idiv hx hb o8 (by decide) dX11_step_133 ?_
          refine z_iadd hx hb dX11_step_134 ?_
          refine lv_aload_n hx hb dX11_step_135 rfl (lv_at hl 0 rfl) ?_
          refine z_Vi (n := 0) (As := []) (rest := [.int (Int32.ofInt (8 + (v1 / 8))), .ref (ad 0 75)]) hx hb hml hg hown hK hP hD hS hA (kX11_pop l D dA ad σ _ _ hw) (zoR0) rfl q2197 q160 q2194 q2196 q145 (by decide +kernel) ⟨(Nat.le_of_ble_eq_true rfl), (Nat.le_of_ble_eq_true rfl)⟩ rfl hl.1 rfl (Nat.le_of_ble_eq_true rfl) dX11_step_136 ⟨(Nat.le_of_ble_eq_true rfl), (Nat.le_of_ble_eq_true rfl)⟩ (fun x11 σ12 H locs hw hP hD hS => ?_)
          obtain ⟨o13, hw⟩ := hw
          refine zsR0_75 (v := x11) hx hb o13 hK hP hD hS dX11_step_139 (fun H locs hP hD hS => ?_)
          refine lv_iconst (v := Int32.ofInt 0) hx hb dX11_step_140 (by decide) ?_
          refine lv_istore_n (lv' := [(2, .int (Int32.ofInt 0)), (0, .ref (ad 0 1000)), (1, .int (Int32.ofInt v1))]) hx hb dX11_step_141 rfl hl (by decide) rfl (fun ls hl => ?_)
          refine lv_goto (tgt := 151) hx hb dX11_step_142 (by decide) ?_
          exact j151 0 (zsA σ12 0 75 (8 + (v1 / 8)) x11) _ _ _ hP hD hS (lv_sub hl [1, 0] rfl) hw
  have j67 : ∀ (v1 : Int) (σ : ZS), ∀ (H : Heap) (locs : List Loc) (ls : Array Slot), va_P D vwC (zR dA ad σ) H → va_D A (zR dA ad σ) → va_S A s.heap H locs → lv_has ls 3 [(0, .ref (ad 0 1000)), (1, .int (Int32.ofInt v1))] → wpX11_step_67 v1 σ Q → W p l e (gR 6 0 0) s m #[.ref (ad 0 1000)] below meth c H locs 0 0 QQ (F0 m 67 ls []) := by
    intro v1 σ H locs ls hP hD hS hl hw
    unfold wpX11_step_67 at hw
    refine lv_iload_n hx hb dX11_step_67 rfl (lv_at hl 1 rfl) ?_
    refine lv_bipush (v := Int32.ofInt 32) hx hb dX11_step_68 (by decide) ?_
    obtain ⟨o14, hw⟩ := hw
    refine z_icmp_ge (tgt := 103) hx hb o14 (by decide) dX11_step_70 (by decide) (fun k15 => ?_) (fun k15 => ?_)
    · replace hw := hw.1 k15
      exact j103 v1 σ _ _ _ hP hD hS (lv_sub hl [0, 1] rfl) hw
    · replace hw := hw.2 k15
      refine lv_iload_n hx hb dX11_step_73 rfl (lv_at hl 1 rfl) ?_
      refine lv_bipush (v := Int32.ofInt 8) hx hb dX11_step_74 (by decide) ?_
      obtain ⟨o16, hw⟩ := hw
      refine z_irem hx hb o16 (by decide) dX11_step_76 ?_
      refine lv_bipush (v := Int32.ofInt 6) hx hb dX11_step_77 (by decide) ?_
      refine z_icmp_ne (tgt := 103) hx hb (by clear hw; omega) (by decide) dX11_step_79 (by decide) (fun k17 => ?_) (fun k17 => ?_)
      · replace hw := hw.1 k17
        exact j103 v1 σ _ _ _ hP hD hS (lv_sub hl [0, 1] rfl) hw
      · replace hw := hw.2 k17
        refine lv_aload_n hx hb dX11_step_82 rfl (lv_at hl 0 rfl) ?_
        refine lv_aload_n hx hb dX11_step_83 rfl (lv_at hl 0 rfl) ?_
        refine zgR0_75 hx hb hg hown hK hP q1690 dX11_step_84 ?_
        refine lv_bipush (v := Int32.ofInt 8) hx hb dX11_step_87 (by decide) ?_
        refine lv_iload_n hx hb dX11_step_89 rfl (lv_at hl 1 rfl) ?_
        refine lv_bipush (v := Int32.ofInt 8) hx hb dX11_step_90 (by decide) ?_
        refine z_idiv hx hb o16 (by decide) dX11_step_92 ?_
        refine z_iadd hx hb dX11_step_93 ?_
        obtain ⟨o18, hw⟩ := hw
        refine zlR0_75 hx hb o18 hK hP dX11_step_94 ?_
        refine z_Vv (n := 1) (As := [.int (Int32.ofInt (zA σ 0 75 (8 + (v1 / 8))))]) (rest := []) hx hb hml hg hown hK hP hD hS hA (kX11_push l D dA ad (zA σ 0 75 (8 + (v1 / 8))) σ _ _ hw) (zoR0) rfl q2193 q160 q2190 q2192 q144 (by decide +kernel) ⟨(Nat.le_of_ble_eq_true rfl), (Nat.le_of_ble_eq_true rfl)⟩ rfl hl.1 rfl (Nat.le_of_ble_eq_true rfl) dX11_step_95 ⟨(Nat.le_of_ble_eq_true rfl), (Nat.le_of_ble_eq_true rfl)⟩ (fun σ20 H locs hw hP hD hS => ?_)
        refine lv_iconst (v := Int32.ofInt 0) hx hb dX11_step_98 (by decide) ?_
        refine lv_istore_n (lv' := [(2, .int (Int32.ofInt 0)), (0, .ref (ad 0 1000)), (1, .int (Int32.ofInt v1))]) hx hb dX11_step_99 rfl hl (by decide) rfl (fun ls hl => ?_)
        refine lv_goto (tgt := 151) hx hb dX11_step_100 (by decide) ?_
        exact j151 0 σ20 _ _ _ hP hD hS (lv_sub hl [1, 0] rfl) hw
  have j58 : ∀ (v1 : Int) (σ : ZS), ∀ (H : Heap) (locs : List Loc) (ls : Array Slot), va_P D vwC (zR dA ad σ) H → va_D A (zR dA ad σ) → va_S A s.heap H locs → lv_has ls 3 [(0, .ref (ad 0 1000)), (1, .int (Int32.ofInt v1))] → wpX11_step_58 v1 σ Q → W p l e (gR 6 0 0) s m #[.ref (ad 0 1000)] below meth c H locs 0 0 QQ (F0 m 58 ls []) := by
    intro v1 σ H locs ls hP hD hS hl hw
    unfold wpX11_step_58 at hw
    refine lv_aload_n hx hb dX11_step_58 rfl (lv_at hl 0 rfl) ?_
    refine lv_iload_n hx hb dX11_step_59 rfl (lv_at hl 1 rfl) ?_
    refine z_Vi (n := 1) (As := [.int (Int32.ofInt v1)]) (rest := []) hx hb hml hg hown hK hP hD hS hA (kX11_plain l D dA ad v1 σ _ _ hw) (zoR0) rfl q2189 q160 q2186 q2188 q143 (by decide +kernel) ⟨(Nat.le_of_ble_eq_true rfl), (Nat.le_of_ble_eq_true rfl)⟩ rfl hl.1 rfl (Nat.le_of_ble_eq_true rfl) dX11_step_60 ⟨(Nat.le_of_ble_eq_true rfl), (Nat.le_of_ble_eq_true rfl)⟩ (fun x21 σ22 H locs hw hP hD hS => ?_)
    refine lv_istore_n (lv' := [(2, .int (Int32.ofInt x21)), (0, .ref (ad 0 1000)), (1, .int (Int32.ofInt v1))]) hx hb dX11_step_63 rfl hl (by decide) rfl (fun ls hl => ?_)
    refine lv_goto (tgt := 151) hx hb dX11_step_64 (by decide) ?_
    exact j151 x21 σ22 _ _ _ hP hD hS (lv_sub hl [1, 0] rfl) hw
  have j44 : ∀ (v1 : Int) (σ : ZS), ∀ (H : Heap) (locs : List Loc) (ls : Array Slot), va_P D vwC (zR dA ad σ) H → va_D A (zR dA ad σ) → va_S A s.heap H locs → lv_has ls 3 [(0, .ref (ad 0 1000)), (1, .int (Int32.ofInt v1))] → wpX11_step_44 v1 σ Q → W p l e (gR 6 0 0) s m #[.ref (ad 0 1000)] below meth c H locs 0 0 QQ (F0 m 44 ls []) := by
    intro v1 σ H locs ls hP hD hS hl hw
    unfold wpX11_step_44 at hw
    refine lv_iload_n hx hb dX11_step_44 rfl (lv_at hl 1 rfl) ?_
    refine lv_sipush (v := Int32.ofInt 184) hx hb dX11_step_45 (by decide) ?_
    obtain ⟨o23, hw⟩ := hw
    refine z_icmp_lt (tgt := 67) hx hb o23 (by decide) dX11_step_48 (by decide) (fun k24 => ?_) (fun k24 => ?_)
    · replace hw := hw.1 k24
      exact j67 v1 σ _ _ _ hP hD hS (lv_sub hl [0, 1] rfl) hw
    · replace hw := hw.2 k24
      refine lv_iload_n hx hb dX11_step_51 rfl (lv_at hl 1 rfl) ?_
      refine lv_sipush (v := Int32.ofInt 192) hx hb dX11_step_52 (by decide) ?_
      refine z_icmp_ge (tgt := 67) hx hb o23 (by decide) dX11_step_55 (by decide) (fun k25 => ?_) (fun k25 => ?_)
      · replace hw := hw.1 k25
        exact j67 v1 σ _ _ _ hP hD hS (lv_sub hl [0, 1] rfl) hw
      · replace hw := hw.2 k25
        exact j58 v1 σ _ _ _ hP hD hS (lv_sub hl [0, 1] rfl) hw
  unfold wpX11_step at hw
  refine lv_aload_n hx hb dX11_step_0 rfl (lv_at hl 0 rfl) ?_
  refine lv_aload_n hx hb dX11_step_1 rfl (lv_at hl 0 rfl) ?_
  refine zgR0_75 hx hb hg hown hK hP q1690 dX11_step_2 ?_
  refine lv_bipush (v := Int32.ofInt 12) hx hb dX11_step_5 (by decide) ?_
  refine zlR0_75 hx hb (by decide) hK hP dX11_step_7 ?_
  refine zpR0_80 (v := (zA σ 0 75 12)) hx hb hg hown hK hP hD hS q1695 dX11_step_8 (fun H locs hP hD hS => ?_)
  refine lv_aload_n hx hb dX11_step_11 rfl (lv_at hl 0 rfl) ?_
  refine z_Vi (n := 0) (As := []) (rest := []) hx hb hml hg hown hK hP hD hS hA (kX11_fetch l D dA ad (zsI σ 0 80 (zA σ 0 75 12)) _ _ hw) (zoR0) rfl q2126 q160 q2123 q2125 q129 (by decide +kernel) ⟨(Nat.le_of_ble_eq_true rfl), (Nat.le_of_ble_eq_true rfl)⟩ rfl hl.1 rfl (Nat.le_of_ble_eq_true rfl) dX11_step_12 ⟨(Nat.le_of_ble_eq_true rfl), (Nat.le_of_ble_eq_true rfl)⟩ (fun x26 σ27 H locs hw hP hD hS => ?_)
  refine lv_istore_n (lv' := [(1, .int (Int32.ofInt x26)), (0, .ref (ad 0 1000))]) hx hb dX11_step_15 rfl hl (by decide) rfl (fun ls hl => ?_)
  refine lv_iload_n hx hb dX11_step_16 rfl (lv_at hl 0 rfl) ?_
  refine z_Si (n := 1) (As := [.int (Int32.ofInt x26)]) (rest := []) hx hb hml hg hown hK hP hD hS hA (kX11_hasForm l D dA ad x26 σ27 _ _ hw) q2133 q160 q2131 q2132 (by decide +kernel) ⟨(Nat.le_of_ble_eq_true rfl), (Nat.le_of_ble_eq_true rfl)⟩ rfl hl.1 rfl (Nat.le_of_ble_eq_true rfl) dX11_step_17 ⟨(Nat.le_of_ble_eq_true rfl), (Nat.le_of_ble_eq_true rfl)⟩ (fun x28 σ29 H locs hw hP hD hS => ?_)
  obtain ⟨o30, hw⟩ := hw
  refine z_if_eq (tgt := 32) hx hb o30 dX11_step_20 (by decide) (fun k31 => ?_) (fun k31 => ?_)
  · replace hw := hw.1 k31
    refine lv_iload_n hx hb dX11_step_32 rfl (lv_at hl 0 rfl) ?_
    refine lv_bipush (v := Int32.ofInt 64) hx hb dX11_step_33 (by decide) ?_
    obtain ⟨o32, hw⟩ := hw
    refine z_icmp_lt (tgt := 44) hx hb o32 (by decide) dX11_step_35 (by decide) (fun k33 => ?_) (fun k33 => ?_)
    · replace hw := hw.1 k33
      exact j44 x26 σ29 _ _ _ hP hD hS (lv_sub hl [1, 0] rfl) hw
    · replace hw := hw.2 k33
      refine lv_iload_n hx hb dX11_step_38 rfl (lv_at hl 0 rfl) ?_
      refine lv_bipush (v := Int32.ofInt 96) hx hb dX11_step_39 (by decide) ?_
      refine z_icmp_lt (tgt := 58) hx hb o32 (by decide) dX11_step_41 (by decide) (fun k34 => ?_) (fun k34 => ?_)
      · replace hw := hw.1 k34
        exact j58 x26 σ29 _ _ _ hP hD hS (lv_sub hl [1, 0] rfl) hw
      · replace hw := hw.2 k34
        exact j44 x26 σ29 _ _ _ hP hD hS (lv_sub hl [1, 0] rfl) hw
  · replace hw := hw.2 k31
    refine lv_aload_n hx hb dX11_step_23 rfl (lv_at hl 1 rfl) ?_
    refine lv_iload_n hx hb dX11_step_24 rfl (lv_at hl 0 rfl) ?_
    refine z_Vi (n := 1) (As := [.int (Int32.ofInt x26)]) (rest := []) hx hb hml hg hown hK hP hD hS hA (kX11_formed l D dA ad x26 σ29 _ _ hw) (zoR0) rfl q2140 q160 q2137 q2139 q131 (by decide +kernel) ⟨(Nat.le_of_ble_eq_true rfl), (Nat.le_of_ble_eq_true rfl)⟩ rfl hl.1 rfl (Nat.le_of_ble_eq_true rfl) dX11_step_25 ⟨(Nat.le_of_ble_eq_true rfl), (Nat.le_of_ble_eq_true rfl)⟩ (fun x35 σ36 H locs hw hP hD hS => ?_)
    refine lv_istore_n (lv' := [(2, .int (Int32.ofInt x35)), (1, .int (Int32.ofInt x26)), (0, .ref (ad 0 1000))]) hx hb dX11_step_28 rfl hl (by decide) rfl (fun ls hl => ?_)
    refine lv_goto (tgt := 151) hx hb dX11_step_29 (by decide) ?_
    exact j151 x35 σ36 _ _ _ hP hD hS (lv_sub hl [2, 0] rfl) hw
def wpX11_run_70 (s0 : Int) (σ : ZS) (Q : Int → ZS → Prop) : Prop := Q s0 σ
def wpbX11_run_38 (K38 : Int → ZS → Prop) (v1 v2 : Int) (σ : ZS) (Q : Int → ZS → Prop) : Prop := (-2147483648 ≤ v2 ∧ v2 ≤ 2147483647) ∧ (-2147483648 ≤ v1 ∧ v1 ≤ 2147483647) ∧ (v1 ≤ v2 → Q 3 σ) ∧ (¬ v1 ≤ v2 → wpX11_step σ (fun (x4 : Int) (σ5 : ZS) => (-2147483648 ≤ x4 ∧ x4 ≤ 2147483647) ∧ (¬ x4 = 0 → (¬ x4 = 3 → wpX11_run_70 x4 (zsI σ5 0 76 1) Q) ∧ (x4 = 3 → wpX11_run_70 0 (zsI σ5 0 76 1) Q)) ∧ (x4 = 0 → K38 (v2 + 1) σ5)))
def wpX11_run_38 (v1 v2 : Int) (σ : ZS) (Q : Int → ZS → Prop) : Prop := lfp1 (fun K38 v2 σ => wpbX11_run_38 K38 v1 v2 σ Q) v2 σ
def wpX11_run_17 (σ : ZS) (Q : Int → ZS → Prop) : Prop := wpX11_raise 1 σ (fun (x9 : Int) (σ10 : ZS) => Q x9 σ10)
def wpX11_run (a1 : Int) (σ : ZS) (Q : Int → ZS → Prop) : Prop := (-2147483648 ≤ a1 ∧ a1 ≤ 2147483647) ∧ (a1 < 1 → wpX11_run_17 (zsI σ 0 0 0) Q) ∧ (¬ a1 < 1 → (a1 ≤ 400 → (-2147483648 ≤ (zI σ 0 76) ∧ (zI σ 0 76) ≤ 2147483647) ∧ ((zI σ 0 76) = 0 → wpX11_run_38 a1 0 (zsI σ 0 0 0) Q) ∧ (¬ (zI σ 0 76) = 0 → wpX11_raise 2 (zsI σ 0 0 0) (fun (x16 : Int) (σ17 : ZS) => Q x16 σ17))) ∧ (¬ a1 ≤ 400 → wpX11_run_17 (zsI σ 0 0 0) Q))
set_option maxHeartbeats 4000000 in
set_option maxRecDepth 100000 in
theorem kX11_run (l : Launch) (D : va_G) (dA : Nat → ClassId) (ad : Int → Nat → Nat) (a1 : Int) (σ : ZS) (Q : Int → ZS → Prop) (sz : Nat) (hw : wpX11_run a1 σ Q) : Met l yX11_run (gws yX11_run cX11_run 4 (some .int)) (gR 7 0 0) (gPre D dA [.ref (ad 0 1000), .int (Int32.ofInt a1)] (zR dA ad σ) sz) (va_Qi (zQi Q) (gAt D dA (va_A (zR dA ad σ) sz) (zR dA ad)) (va_A (zR dA ad σ) sz)) 0 0 (va_A (zR dA ad σ) sz) := by
  refine Met.ofW (cc := cX11_run) (maxL := 4) (ret := (some .int)) (by decide) rfl ?_
  intro p e s m args below meth c s₁ B hml hv
  obtain ⟨rfl, hsz, hP, hK, hD0⟩ := hv
  have hx := B.exec
  have hb := B.bytes
  have hr := B.returns
  have hts := atoms_spec (ws := gws yX11_run cX11_run 4 (some .int)) B.pre
  have hg : ∀ w ∈ gw, w.before _ s = true := fun w h => hts w (List.mem_cons_of_mem _ h)
  have hown : s.vm.findClass RX11 = some m.cls := findClass_of_methodNamed B.named
  have hlocks := B.notSynchronized
  subst hsz
  have hD := hD0.self (sz := s.heap.size)
  generalize hAe : va_A (zR dA ad σ) s.heap.size = A at hD ⊢
  have hA : ∀ q : Nat, s.heap.size ≤ q → A q := fun q h => by rw [← hAe]; exact Or.inr h
  have hS : va_S A s.heap s.heap [] := va_S.rf
  have hl := lv_entry ([.ref (ad 0 1000), .int (Int32.ofInt a1)]) (n := 4) (Nat.le_of_ble_eq_true rfl)
  rw [lg_entry_eq]
  generalize (lg_sl ([.ref (ad 0 1000), .int (Int32.ofInt a1)]) ++ List.replicate (4 - (lg_sl ([.ref (ad 0 1000), .int (Int32.ofInt a1)])).length) Slot.unset).toArray = ls at hl ⊢
  have hl : lv_has ls 4 [(0, .ref (ad 0 1000)), (1, .int (Int32.ofInt a1))] := hl
  have hret : ∀ (v : Int) (σ : ZS) (H : Heap) (locs : List Loc) (ls : Array Slot) (pc : Nat), Q v σ → va_P D vwC (zR dA ad σ) H → va_D A (zR dA ad σ) → va_S A s.heap H locs → decode cX11_run pc = .ok (.ireturn, 1) → W p l e (gR 7 0 0) s m #[.ref (ad 0 1000), .int (Int32.ofInt a1)] below meth c H locs 0 0 (MQ below (va_Qi (zQi Q) (gAt D dA A (zR dA ad)) A) #[.ref (ad 0 1000), .int (Int32.ofInt a1)] s 0 0 A) (F0 m pc ls [.int (Int32.ofInt v)]) := fun v σ H locs ls pc hw hP hD hS hd => g_iret hx hb hr rfl hlocks hK σ hP hD hS ⟨v, rfl, hw⟩ (Nat.le_of_ble_eq_true rfl) (Nat.le_of_ble_eq_true rfl) hd
  generalize MQ below (va_Qi (zQi Q) (gAt D dA A (zR dA ad)) A) #[.ref (ad 0 1000), .int (Int32.ofInt a1)] s 0 0 A = QQ at hret ⊢
  have j70 : ∀ (s0 : Int) (σ : ZS), ∀ (H : Heap) (locs : List Loc) (ls : Array Slot), va_P D vwC (zR dA ad σ) H → va_D A (zR dA ad σ) → va_S A s.heap H locs → lv_has ls 4 [] → wpX11_run_70 s0 σ Q → W p l e (gR 7 0 0) s m #[.ref (ad 0 1000), .int (Int32.ofInt a1)] below meth c H locs 0 0 QQ (F0 m 70 ls [.int (Int32.ofInt s0)]) := by
    intro s0 σ H locs ls hP hD hS hl hw
    unfold wpX11_run_70 at hw
    exact hret s0 σ _ _ _ _ hw hP hD hS dX11_run_70
  have b38 : ∀ (v1 : Int) (K38 : Int → ZS → Prop), (∀ (v2 : Int) (σ : ZS), K38 v2 σ → ∀ (H : Heap) (locs : List Loc) (ls : Array Slot), va_P D vwC (zR dA ad σ) H → va_D A (zR dA ad σ) → va_S A s.heap H locs → lv_has ls 4 [(0, .ref (ad 0 1000)), (1, .int (Int32.ofInt v1)), (2, .int (Int32.ofInt v2))] → W p l e (gR 7 0 0) s m #[.ref (ad 0 1000), .int (Int32.ofInt a1)] below meth c H locs 0 0 QQ (F0 m 38 ls [])) → ∀ (v2 : Int) (σ : ZS), wpbX11_run_38 K38 v1 v2 σ Q → ∀ (H : Heap) (locs : List Loc) (ls : Array Slot), va_P D vwC (zR dA ad σ) H → va_D A (zR dA ad σ) → va_S A s.heap H locs → lv_has ls 4 [(0, .ref (ad 0 1000)), (1, .int (Int32.ofInt v1)), (2, .int (Int32.ofInt v2))] → W p l e (gR 7 0 0) s m #[.ref (ad 0 1000), .int (Int32.ofInt a1)] below meth c H locs 0 0 QQ (F0 m 38 ls []) := by
    intro v1 K38 hK38
    intro v2 σ hw H locs ls hP hD hS hl
    unfold wpbX11_run_38 at hw
    refine lv_iload_n hx hb dX11_run_38 rfl (lv_at hl 2 rfl) ?_
    refine lv_iload_n hx hb dX11_run_39 rfl (lv_at hl 1 rfl) ?_
    obtain ⟨o1, hw⟩ := hw
    obtain ⟨o2, hw⟩ := hw
    refine z_icmp_ge (tgt := 77) hx hb o1 o2 dX11_run_40 (by decide) (fun k3 => ?_) (fun k3 => ?_)
    · replace hw := hw.1 k3
      refine lv_iconst (v := Int32.ofInt 3) hx hb dX11_run_77 (by decide) ?_
      exact hret 3 σ _ _ _ _ hw hP hD hS dX11_run_78
    · replace hw := hw.2 k3
      refine lv_aload_n hx hb dX11_run_43 rfl (lv_at hl 0 rfl) ?_
      refine z_Vi (n := 0) (As := []) (rest := []) hx hb hml hg hown hK hP hD hS hA (kX11_step l D dA ad σ _ _ hw) (zoR0) rfl q2122 q160 q2119 q2121 q128 (by decide +kernel) ⟨(Nat.le_of_ble_eq_true rfl), (Nat.le_of_ble_eq_true rfl)⟩ rfl hl.1 rfl (Nat.le_of_ble_eq_true rfl) dX11_run_44 ⟨(Nat.le_of_ble_eq_true rfl), (Nat.le_of_ble_eq_true rfl)⟩ (fun x4 σ5 H locs hw hP hD hS => ?_)
      refine lv_istore_n (lv' := [(3, .int (Int32.ofInt x4)), (0, .ref (ad 0 1000)), (1, .int (Int32.ofInt v1)), (2, .int (Int32.ofInt v2))]) hx hb dX11_run_47 rfl hl (by decide) rfl (fun ls hl => ?_)
      refine lv_iload_n hx hb dX11_run_48 rfl (lv_at hl 0 rfl) ?_
      obtain ⟨o6, hw⟩ := hw
      refine z_if_ne (tgt := 55) hx hb o6 dX11_run_49 (by decide) (fun k7 => ?_) (fun k7 => ?_)
      · replace hw := hw.1 k7
        refine lv_aload_n hx hb dX11_run_55 rfl (lv_at hl 1 rfl) ?_
        refine lv_iconst (v := Int32.ofInt 1) hx hb dX11_run_56 (by decide) ?_
        refine zpR0_76 (v := 1) hx hb hg hown (by decide) hK hP hD hS q1691 dX11_run_57 (fun H locs hP hD hS => ?_)
        refine lv_iload_n hx hb dX11_run_60 rfl (lv_at hl 0 rfl) ?_
        refine lv_iconst (v := Int32.ofInt 3) hx hb dX11_run_61 (by decide) ?_
        refine z_icmp_ne (tgt := 69) hx hb o6 (by decide) dX11_run_62 (by decide) (fun k8 => ?_) (fun k8 => ?_)
        · replace hw := hw.1 k8
          refine lv_iload_n hx hb dX11_run_69 rfl (lv_at hl 0 rfl) ?_
          exact j70 x4 (zsI σ5 0 76 1) _ _ _ hP hD hS (lv_sub hl [] rfl) hw
        · replace hw := hw.2 k8
          refine lv_iconst (v := Int32.ofInt 0) hx hb dX11_run_65 (by decide) ?_
          refine lv_goto (tgt := 70) hx hb dX11_run_66 (by decide) ?_
          exact j70 0 (zsI σ5 0 76 1) _ _ _ hP hD hS (lv_sub hl [] rfl) hw
      · replace hw := hw.2 k7
        refine lv_goto (tgt := 71) hx hb dX11_run_52 (by decide) ?_
        refine lv_iinc (v := Int32.ofInt (v2 + 1)) (lv' := [(2, .int (Int32.ofInt (v2 + 1))), (3, .int (Int32.ofInt x4)), (0, .ref (ad 0 1000)), (1, .int (Int32.ofInt v1))]) hx hb dX11_run_71 hl (k := 3) rfl (Int32.ofInt_add _ _).symm (by decide) rfl (fun ls hl => ?_)
        refine lv_goto (tgt := 38) hx hb dX11_run_74 (by decide) ?_
        exact hK38 (v2 + 1) σ5 hw _ _ _ hP hD hS (lv_sub hl [2, 3, 0] rfl)
  have j38 : ∀ (v1 v2 : Int) (σ : ZS), ∀ (H : Heap) (locs : List Loc) (ls : Array Slot), va_P D vwC (zR dA ad σ) H → va_D A (zR dA ad σ) → va_S A s.heap H locs → lv_has ls 4 [(0, .ref (ad 0 1000)), (1, .int (Int32.ofInt v1)), (2, .int (Int32.ofInt v2))] → wpX11_run_38 v1 v2 σ Q → W p l e (gR 7 0 0) s m #[.ref (ad 0 1000), .int (Int32.ofInt a1)] below meth c H locs 0 0 QQ (F0 m 38 ls []) := by
    intro v1 v2 σ H locs ls hP hD hS hl hw
    exact hw (fun v2 σ => ∀ (H : Heap) (locs : List Loc) (ls : Array Slot), va_P D vwC (zR dA ad σ) H → va_D A (zR dA ad σ) → va_S A s.heap H locs → lv_has ls 4 [(0, .ref (ad 0 1000)), (1, .int (Int32.ofInt v1)), (2, .int (Int32.ofInt v2))] → W p l e (gR 7 0 0) s m #[.ref (ad 0 1000), .int (Int32.ofInt a1)] below meth c H locs 0 0 QQ (F0 m 38 ls [])) (b38 v1 (fun v2 σ => ∀ (H : Heap) (locs : List Loc) (ls : Array Slot), va_P D vwC (zR dA ad σ) H → va_D A (zR dA ad σ) → va_S A s.heap H locs → lv_has ls 4 [(0, .ref (ad 0 1000)), (1, .int (Int32.ofInt v1)), (2, .int (Int32.ofInt v2))] → W p l e (gR 7 0 0) s m #[.ref (ad 0 1000), .int (Int32.ofInt a1)] below meth c H locs 0 0 QQ (F0 m 38 ls [])) (fun v2 σ h => h)) _ _ _ hP hD hS hl
  have j17 : ∀ (σ : ZS), ∀ (H : Heap) (locs : List Loc) (ls : Array Slot), va_P D vwC (zR dA ad σ) H → va_D A (zR dA ad σ) → va_S A s.heap H locs → lv_has ls 4 [(0, .ref (ad 0 1000))] → wpX11_run_17 σ Q → W p l e (gR 7 0 0) s m #[.ref (ad 0 1000), .int (Int32.ofInt a1)] below meth c H locs 0 0 QQ (F0 m 17 ls []) := by
    intro σ H locs ls hP hD hS hl hw
    unfold wpX11_run_17 at hw
    refine lv_aload_n hx hb dX11_run_17 rfl (lv_at hl 0 rfl) ?_
    refine lv_iconst (v := Int32.ofInt 1) hx hb dX11_run_18 (by decide) ?_
    refine z_Vi (n := 1) (As := [.int (Int32.ofInt 1)]) (rest := []) hx hb hml hg hown hK hP hD hS hA (kX11_raise l D dA ad 1 σ _ _ hw) (zoR0) rfl q1883 q160 q1880 q1882 q77 (by decide +kernel) ⟨(Nat.le_of_ble_eq_true rfl), (Nat.le_of_ble_eq_true rfl)⟩ rfl hl.1 rfl (Nat.le_of_ble_eq_true rfl) dX11_run_19 ⟨(Nat.le_of_ble_eq_true rfl), (Nat.le_of_ble_eq_true rfl)⟩ (fun x9 σ10 H locs hw hP hD hS => ?_)
    exact hret x9 σ10 _ _ _ _ hw hP hD hS dX11_run_22
  unfold wpX11_run at hw
  refine lv_aload_n hx hb dX11_run_0 rfl (lv_at hl 0 rfl) ?_
  refine lv_iconst (v := Int32.ofInt 0) hx hb dX11_run_1 (by decide) ?_
  refine zpR0_0 (v := 0) hx hb hg hown hK hP hD hS q1615 dX11_run_2 (fun H locs hP hD hS => ?_)
  refine lv_iload_n hx hb dX11_run_5 rfl (lv_at hl 1 rfl) ?_
  refine lv_iconst (v := Int32.ofInt 1) hx hb dX11_run_6 (by decide) ?_
  obtain ⟨o11, hw⟩ := hw
  refine z_icmp_lt (tgt := 17) hx hb o11 (by decide) dX11_run_7 (by decide) (fun k12 => ?_) (fun k12 => ?_)
  · replace hw := hw.1 k12
    exact j17 (zsI σ 0 0 0) _ _ _ hP hD hS (lv_sub hl [0] rfl) hw
  · replace hw := hw.2 k12
    refine lv_iload_n hx hb dX11_run_10 rfl (lv_at hl 1 rfl) ?_
    refine lv_sipush (v := Int32.ofInt 400) hx hb dX11_run_11 (by decide) ?_
    refine z_icmp_le (tgt := 23) hx hb o11 (by decide) dX11_run_14 (by decide) (fun k13 => ?_) (fun k13 => ?_)
    · replace hw := hw.1 k13
      refine lv_aload_n hx hb dX11_run_23 rfl (lv_at hl 0 rfl) ?_
      refine zgR0_76 hx hb hg hown hK hP q1691 dX11_run_24 ?_
      refine g_nrm (y := Int32.ofInt (zI σ 0 76)) rfl ?_
      obtain ⟨o14, hw⟩ := hw
      refine z_if_eq (tgt := 36) hx hb o14 dX11_run_27 (by decide) (fun k15 => ?_) (fun k15 => ?_)
      · replace hw := hw.1 k15
        refine lv_iconst (v := Int32.ofInt 0) hx hb dX11_run_36 (by decide) ?_
        refine lv_istore_n (lv' := [(2, .int (Int32.ofInt 0)), (0, .ref (ad 0 1000)), (1, .int (Int32.ofInt a1))]) hx hb dX11_run_37 rfl hl (by decide) rfl (fun ls hl => ?_)
        exact j38 a1 0 (zsI σ 0 0 0) _ _ _ hP hD hS (lv_sub hl [1, 2, 0] rfl) hw
      · replace hw := hw.2 k15
        refine lv_aload_n hx hb dX11_run_30 rfl (lv_at hl 0 rfl) ?_
        refine lv_iconst (v := Int32.ofInt 2) hx hb dX11_run_31 (by decide) ?_
        refine z_Vi (n := 1) (As := [.int (Int32.ofInt 2)]) (rest := []) hx hb hml hg hown hK hP hD hS hA (kX11_raise l D dA ad 2 (zsI σ 0 0 0) _ _ hw) (zoR0) rfl q1883 q160 q1880 q1882 q77 (by decide +kernel) ⟨(Nat.le_of_ble_eq_true rfl), (Nat.le_of_ble_eq_true rfl)⟩ rfl hl.1 rfl (Nat.le_of_ble_eq_true rfl) dX11_run_32 ⟨(Nat.le_of_ble_eq_true rfl), (Nat.le_of_ble_eq_true rfl)⟩ (fun x16 σ17 H locs hw hP hD hS => ?_)
        exact hret x16 σ17 _ _ _ _ hw hP hD hS dX11_run_35
    · replace hw := hw.2 k13
      exact j17 (zsI σ 0 0 0) _ _ _ hP hD hS (lv_sub hl [0] rfl) hw
def wpX11_code_66 (σ : ZS) (Q : Int → ZS → Prop) : Prop := wpX11_raise 1 σ (fun (x1 : Int) (σ2 : ZS) => Q x1 σ2)
def wpX11_code_37 (σ : ZS) (Q : Int → ZS → Prop) : Prop := wpX11_raise 1 σ (fun (x3 : Int) (σ4 : ZS) => Q x3 σ4)
def wpX11_code (a1 a2 a3 : Int) (σ : ZS) (Q : Int → ZS → Prop) : Prop := (-2147483648 ≤ a1 ∧ a1 ≤ 2147483647) ∧ (a1 < 0 → wpX11_code_37 (zsI σ 0 0 0) Q) ∧ (¬ a1 < 0 → (2 < a1 → wpX11_code_37 (zsI σ 0 0 0) Q) ∧ (¬ 2 < a1 → (0 ≤ a1 ∧ a1 < 3) ∧ (-2147483648 ≤ (zA σ 0 43 a1) ∧ (zA σ 0 43 a1) ≤ 2147483647) ∧ ((zA σ 0 43 a1) = 0 → wpX11_code_37 (zsI σ 0 0 0) Q) ∧ (¬ (zA σ 0 43 a1) = 0 → (-2147483648 ≤ a2 ∧ a2 ≤ 2147483647) ∧ (a2 < 0 → wpX11_code_37 (zsI σ 0 0 0) Q) ∧ (¬ a2 < 0 → (-2147483648 ≤ (zA σ 0 44 a1) ∧ (zA σ 0 44 a1) ≤ 2147483647) ∧ (a2 < (zA σ 0 44 a1) → (-2147483648 ≤ a3 ∧ a3 ≤ 2147483647) ∧ (a3 < 0 → wpX11_code_66 (zsI σ 0 0 0) Q) ∧ (¬ a3 < 0 → (0 ≤ ((24 * a1) + a2) ∧ ((24 * a1) + a2) < 72) ∧ (-2147483648 ≤ (zA σ 0 48 ((24 * a1) + a2)) ∧ (zA σ 0 48 ((24 * a1) + a2)) ≤ 2147483647) ∧ (a3 < (zA σ 0 48 ((24 * a1) + a2)) → (0 ≤ (((400 * a1) + (zA σ 0 47 ((24 * a1) + a2))) + a3) ∧ (((400 * a1) + (zA σ 0 47 ((24 * a1) + a2))) + a3) < 1200) ∧ Q (zA σ 0 49 (((400 * a1) + (zA σ 0 47 ((24 * a1) + a2))) + a3)) (zsI σ 0 0 0)) ∧ (¬ a3 < (zA σ 0 48 ((24 * a1) + a2)) → wpX11_code_66 (zsI σ 0 0 0) Q))) ∧ (¬ a2 < (zA σ 0 44 a1) → wpX11_code_37 (zsI σ 0 0 0) Q)))))
set_option maxHeartbeats 4000000 in
set_option maxRecDepth 100000 in
theorem kX11_code (l : Launch) (D : va_G) (dA : Nat → ClassId) (ad : Int → Nat → Nat) (a1 a2 a3 : Int) (σ : ZS) (Q : Int → ZS → Prop) (sz : Nat) (hw : wpX11_code a1 a2 a3 σ Q) : Met l yX11_code (gws yX11_code cX11_code 5 (some .int)) (gR 2 0 0) (gPre D dA [.ref (ad 0 1000), .int (Int32.ofInt a1), .int (Int32.ofInt a2), .int (Int32.ofInt a3)] (zR dA ad σ) sz) (va_Qi (zQi Q) (gAt D dA (va_A (zR dA ad σ) sz) (zR dA ad)) (va_A (zR dA ad σ) sz)) 0 0 (va_A (zR dA ad σ) sz) := by
  refine Met.ofW (cc := cX11_code) (maxL := 5) (ret := (some .int)) (by decide) rfl ?_
  intro p e s m args below meth c s₁ B hml hv
  obtain ⟨rfl, hsz, hP, hK, hD0⟩ := hv
  have hx := B.exec
  have hb := B.bytes
  have hr := B.returns
  have hts := atoms_spec (ws := gws yX11_code cX11_code 5 (some .int)) B.pre
  have hg : ∀ w ∈ gw, w.before _ s = true := fun w h => hts w (List.mem_cons_of_mem _ h)
  have hown : s.vm.findClass RX11 = some m.cls := findClass_of_methodNamed B.named
  have hlocks := B.notSynchronized
  subst hsz
  have hD := hD0.self (sz := s.heap.size)
  generalize hAe : va_A (zR dA ad σ) s.heap.size = A at hD ⊢
  have hA : ∀ q : Nat, s.heap.size ≤ q → A q := fun q h => by rw [← hAe]; exact Or.inr h
  have hS : va_S A s.heap s.heap [] := va_S.rf
  have hl := lv_entry ([.ref (ad 0 1000), .int (Int32.ofInt a1), .int (Int32.ofInt a2), .int (Int32.ofInt a3)]) (n := 5) (Nat.le_of_ble_eq_true rfl)
  rw [lg_entry_eq]
  generalize (lg_sl ([.ref (ad 0 1000), .int (Int32.ofInt a1), .int (Int32.ofInt a2), .int (Int32.ofInt a3)]) ++ List.replicate (5 - (lg_sl ([.ref (ad 0 1000), .int (Int32.ofInt a1), .int (Int32.ofInt a2), .int (Int32.ofInt a3)])).length) Slot.unset).toArray = ls at hl ⊢
  have hl : lv_has ls 5 [(0, .ref (ad 0 1000)), (1, .int (Int32.ofInt a1)), (2, .int (Int32.ofInt a2)), (3, .int (Int32.ofInt a3))] := hl
  have hret : ∀ (v : Int) (σ : ZS) (H : Heap) (locs : List Loc) (ls : Array Slot) (pc : Nat), Q v σ → va_P D vwC (zR dA ad σ) H → va_D A (zR dA ad σ) → va_S A s.heap H locs → decode cX11_code pc = .ok (.ireturn, 1) → W p l e (gR 2 0 0) s m #[.ref (ad 0 1000), .int (Int32.ofInt a1), .int (Int32.ofInt a2), .int (Int32.ofInt a3)] below meth c H locs 0 0 (MQ below (va_Qi (zQi Q) (gAt D dA A (zR dA ad)) A) #[.ref (ad 0 1000), .int (Int32.ofInt a1), .int (Int32.ofInt a2), .int (Int32.ofInt a3)] s 0 0 A) (F0 m pc ls [.int (Int32.ofInt v)]) := fun v σ H locs ls pc hw hP hD hS hd => g_iret hx hb hr rfl hlocks hK σ hP hD hS ⟨v, rfl, hw⟩ (Nat.le_of_ble_eq_true rfl) (Nat.le_of_ble_eq_true rfl) hd
  generalize MQ below (va_Qi (zQi Q) (gAt D dA A (zR dA ad)) A) #[.ref (ad 0 1000), .int (Int32.ofInt a1), .int (Int32.ofInt a2), .int (Int32.ofInt a3)] s 0 0 A = QQ at hret ⊢
  have j66 : ∀ (σ : ZS), ∀ (H : Heap) (locs : List Loc) (ls : Array Slot), va_P D vwC (zR dA ad σ) H → va_D A (zR dA ad σ) → va_S A s.heap H locs → lv_has ls 5 [(0, .ref (ad 0 1000))] → wpX11_code_66 σ Q → W p l e (gR 2 0 0) s m #[.ref (ad 0 1000), .int (Int32.ofInt a1), .int (Int32.ofInt a2), .int (Int32.ofInt a3)] below meth c H locs 0 0 QQ (F0 m 66 ls []) := by
    intro σ H locs ls hP hD hS hl hw
    unfold wpX11_code_66 at hw
    refine lv_aload_n hx hb dX11_code_66 rfl (lv_at hl 0 rfl) ?_
    refine lv_iconst (v := Int32.ofInt 1) hx hb dX11_code_67 (by decide) ?_
    refine z_Vi (n := 1) (As := [.int (Int32.ofInt 1)]) (rest := []) hx hb hml hg hown hK hP hD hS hA (kX11_raise l D dA ad 1 σ _ _ hw) (zoR0) rfl q1883 q160 q1880 q1882 q77 (by decide +kernel) ⟨(Nat.le_of_ble_eq_true rfl), (Nat.le_of_ble_eq_true rfl)⟩ rfl hl.1 rfl (Nat.le_of_ble_eq_true rfl) dX11_code_68 ⟨(Nat.le_of_ble_eq_true rfl), (Nat.le_of_ble_eq_true rfl)⟩ (fun x1 σ2 H locs hw hP hD hS => ?_)
    exact hret x1 σ2 _ _ _ _ hw hP hD hS dX11_code_71
  have j37 : ∀ (σ : ZS), ∀ (H : Heap) (locs : List Loc) (ls : Array Slot), va_P D vwC (zR dA ad σ) H → va_D A (zR dA ad σ) → va_S A s.heap H locs → lv_has ls 5 [(0, .ref (ad 0 1000))] → wpX11_code_37 σ Q → W p l e (gR 2 0 0) s m #[.ref (ad 0 1000), .int (Int32.ofInt a1), .int (Int32.ofInt a2), .int (Int32.ofInt a3)] below meth c H locs 0 0 QQ (F0 m 37 ls []) := by
    intro σ H locs ls hP hD hS hl hw
    unfold wpX11_code_37 at hw
    refine lv_aload_n hx hb dX11_code_37 rfl (lv_at hl 0 rfl) ?_
    refine lv_iconst (v := Int32.ofInt 1) hx hb dX11_code_38 (by decide) ?_
    refine z_Vi (n := 1) (As := [.int (Int32.ofInt 1)]) (rest := []) hx hb hml hg hown hK hP hD hS hA (kX11_raise l D dA ad 1 σ _ _ hw) (zoR0) rfl q1883 q160 q1880 q1882 q77 (by decide +kernel) ⟨(Nat.le_of_ble_eq_true rfl), (Nat.le_of_ble_eq_true rfl)⟩ rfl hl.1 rfl (Nat.le_of_ble_eq_true rfl) dX11_code_39 ⟨(Nat.le_of_ble_eq_true rfl), (Nat.le_of_ble_eq_true rfl)⟩ (fun x3 σ4 H locs hw hP hD hS => ?_)
    exact hret x3 σ4 _ _ _ _ hw hP hD hS dX11_code_42
  unfold wpX11_code at hw
  refine lv_aload_n hx hb dX11_code_0 rfl (lv_at hl 0 rfl) ?_
  refine lv_iconst (v := Int32.ofInt 0) hx hb dX11_code_1 (by decide) ?_
  refine zpR0_0 (v := 0) hx hb hg hown hK hP hD hS q1615 dX11_code_2 (fun H locs hP hD hS => ?_)
  refine lv_iload_n hx hb dX11_code_5 rfl (lv_at hl 1 rfl) ?_
  obtain ⟨o5, hw⟩ := hw
  refine z_if_lt (tgt := 37) hx hb o5 dX11_code_6 (by decide) (fun k6 => ?_) (fun k6 => ?_)
  · replace hw := hw.1 k6
    exact j37 (zsI σ 0 0 0) _ _ _ hP hD hS (lv_sub hl [0] rfl) hw
  · replace hw := hw.2 k6
    refine lv_iload_n hx hb dX11_code_9 rfl (lv_at hl 1 rfl) ?_
    refine lv_iconst (v := Int32.ofInt 2) hx hb dX11_code_10 (by decide) ?_
    refine z_icmp_gt (tgt := 37) hx hb o5 (by decide) dX11_code_11 (by decide) (fun k7 => ?_) (fun k7 => ?_)
    · replace hw := hw.1 k7
      exact j37 (zsI σ 0 0 0) _ _ _ hP hD hS (lv_sub hl [0] rfl) hw
    · replace hw := hw.2 k7
      refine lv_aload_n hx hb dX11_code_14 rfl (lv_at hl 0 rfl) ?_
      refine zgR0_43 hx hb hg hown hK hP q1658 dX11_code_15 ?_
      refine lv_iload_n hx hb dX11_code_18 rfl (lv_at hl 1 rfl) ?_
      obtain ⟨o8, hw⟩ := hw
      refine zlR0_43 hx hb o8 hK hP dX11_code_19 ?_
      refine g_nrm (y := Int32.ofInt (zA σ 0 43 a1)) rfl ?_
      obtain ⟨o9, hw⟩ := hw
      refine z_if_eq (tgt := 37) hx hb o9 dX11_code_20 (by decide) (fun k10 => ?_) (fun k10 => ?_)
      · replace hw := hw.1 k10
        exact j37 (zsI σ 0 0 0) _ _ _ hP hD hS (lv_sub hl [0] rfl) hw
      · replace hw := hw.2 k10
        refine lv_iload_n hx hb dX11_code_23 rfl (lv_at hl 2 rfl) ?_
        obtain ⟨o11, hw⟩ := hw
        refine z_if_lt (tgt := 37) hx hb o11 dX11_code_24 (by decide) (fun k12 => ?_) (fun k12 => ?_)
        · replace hw := hw.1 k12
          exact j37 (zsI σ 0 0 0) _ _ _ hP hD hS (lv_sub hl [0] rfl) hw
        · replace hw := hw.2 k12
          refine lv_iload_n hx hb dX11_code_27 rfl (lv_at hl 2 rfl) ?_
          refine lv_aload_n hx hb dX11_code_28 rfl (lv_at hl 0 rfl) ?_
          refine zgR0_44 hx hb hg hown hK hP q1659 dX11_code_29 ?_
          refine lv_iload_n hx hb dX11_code_32 rfl (lv_at hl 1 rfl) ?_
          refine zlR0_44 hx hb o8 hK hP dX11_code_33 ?_
          refine g_nrm (y := Int32.ofInt (zA σ 0 44 a1)) rfl ?_
          obtain ⟨o13, hw⟩ := hw
          refine z_icmp_lt (tgt := 43) hx hb o11 o13 dX11_code_34 (by decide) (fun k14 => ?_) (fun k14 => ?_)
          · replace hw := hw.1 k14
            refine lv_bipush (v := Int32.ofInt 24) hx hb dX11_code_43 (by decide) ?_
            refine lv_iload_n hx hb dX11_code_45 rfl (lv_at hl 1 rfl) ?_
            refine z_imul hx hb dX11_code_46 ?_
            refine lv_iload_n hx hb dX11_code_47 rfl (lv_at hl 2 rfl) ?_
            refine z_iadd hx hb dX11_code_48 ?_
            refine lv_istore (lv' := [(4, .int (Int32.ofInt ((24 * a1) + a2))), (0, .ref (ad 0 1000)), (1, .int (Int32.ofInt a1)), (2, .int (Int32.ofInt a2)), (3, .int (Int32.ofInt a3))]) hx hb dX11_code_49 hl (by decide) rfl (fun ls hl => ?_)
            refine lv_iload_n hx hb dX11_code_51 rfl (lv_at hl 4 rfl) ?_
            obtain ⟨o15, hw⟩ := hw
            refine z_if_lt (tgt := 66) hx hb o15 dX11_code_52 (by decide) (fun k16 => ?_) (fun k16 => ?_)
            · replace hw := hw.1 k16
              exact j66 (zsI σ 0 0 0) _ _ _ hP hD hS (lv_sub hl [1] rfl) hw
            · replace hw := hw.2 k16
              refine lv_iload_n hx hb dX11_code_55 rfl (lv_at hl 4 rfl) ?_
              refine lv_aload_n hx hb dX11_code_56 rfl (lv_at hl 1 rfl) ?_
              refine zgR0_48 hx hb hg hown hK hP q1663 dX11_code_57 ?_
              refine lv_iload hx hb dX11_code_60 (lv_at hl 0 rfl) ?_
              obtain ⟨o17, hw⟩ := hw
              refine zlR0_48 hx hb o17 hK hP dX11_code_62 ?_
              refine g_nrm (y := Int32.ofInt (zA σ 0 48 ((24 * a1) + a2))) rfl ?_
              obtain ⟨o18, hw⟩ := hw
              refine z_icmp_lt (tgt := 72) hx hb o15 o18 dX11_code_63 (by decide) (fun k19 => ?_) (fun k19 => ?_)
              · replace hw := hw.1 k19
                refine lv_aload_n hx hb dX11_code_72 rfl (lv_at hl 1 rfl) ?_
                refine zgR0_49 hx hb hg hown hK hP q1664 dX11_code_73 ?_
                refine lv_sipush (v := Int32.ofInt 400) hx hb dX11_code_76 (by decide) ?_
                refine lv_iload_n hx hb dX11_code_79 rfl (lv_at hl 2 rfl) ?_
                refine z_imul hx hb dX11_code_80 ?_
                refine lv_aload_n hx hb dX11_code_81 rfl (lv_at hl 1 rfl) ?_
                refine zgR0_47 hx hb hg hown hK hP q1662 dX11_code_82 ?_
                refine lv_iload hx hb dX11_code_85 (lv_at hl 0 rfl) ?_
                refine zlR0_47 hx hb o17 hK hP dX11_code_87 ?_
                refine g_nrm (y := Int32.ofInt (zA σ 0 47 ((24 * a1) + a2))) rfl ?_
                refine z_iadd hx hb dX11_code_88 ?_
                refine lv_iload_n hx hb dX11_code_89 rfl (lv_at hl 4 rfl) ?_
                refine z_iadd hx hb dX11_code_90 ?_
                obtain ⟨o20, hw⟩ := hw
                refine zlR0_49 hx hb o20 hK hP dX11_code_91 ?_
                refine g_nrm (y := Int32.ofInt (zA σ 0 49 (((400 * a1) + (zA σ 0 47 ((24 * a1) + a2))) + a3))) rfl ?_
                exact hret (zA σ 0 49 (((400 * a1) + (zA σ 0 47 ((24 * a1) + a2))) + a3)) (zsI σ 0 0 0) _ _ _ _ hw hP hD hS dX11_code_92
              · replace hw := hw.2 k19
                exact j66 (zsI σ 0 0 0) _ _ _ hP hD hS (lv_sub hl [1] rfl) hw
          · replace hw := hw.2 k14
            exact j37 (zsI σ 0 0 0) _ _ _ hP hD hS (lv_sub hl [0] rfl) hw
