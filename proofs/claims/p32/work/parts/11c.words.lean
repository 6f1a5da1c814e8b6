/-! what the tables say, word by word (printed) -/
theorem wd_232 : Cond.instanceMethod yX1_shuffleAt ∈ m_gd := List.mem_filter.mpr ⟨List.mem_of_getElem? (i := 357) (by decide +kernel), by decide +kernel⟩
theorem wd_233 : Cond.selects RX1 yX1_shuffleAt yX1_shuffleAt ∈ m_gd := List.mem_filter.mpr ⟨List.mem_of_getElem? (i := 358) (by decide +kernel), by decide +kernel⟩
theorem wd_234 : Cond.code yX1_shuffleAt cX1_shuffleAt 7 (some .int) ∈ m_gd := List.mem_filter.mpr ⟨List.mem_of_getElem? (i := 359) (by decide +kernel), by decide +kernel⟩
theorem wd_235 : Cond.methodLink RX5 165 yX1_left ∈ m_gd := List.mem_filter.mpr ⟨List.mem_of_getElem? (i := 367) (by decide +kernel), by decide +kernel⟩
theorem wd_236 : Cond.fieldLink RX5 168 RX1 (TX1 2).2.1 (TX1 2).2.2.1 ∈ m_gd := List.mem_filter.mpr ⟨List.mem_of_getElem? (i := 38) (by decide +kernel), by decide +kernel⟩
theorem wd_237 : Cond.methodLink RX5 171 yX3_reasonAgainstSale ∈ m_gd := List.mem_filter.mpr ⟨List.mem_of_getElem? (i := 372) (by decide +kernel), by decide +kernel⟩
theorem wd_238 : Cond.instanceMethod yX3_reasonAgainstSale ∈ m_gd := List.mem_filter.mpr ⟨List.mem_of_getElem? (i := 373) (by decide +kernel), by decide +kernel⟩
theorem wd_239 : Cond.selects RX3 yX3_reasonAgainstSale yX3_reasonAgainstSale ∈ m_gd := List.mem_filter.mpr ⟨List.mem_of_getElem? (i := 374) (by decide +kernel), by decide +kernel⟩
theorem wd_240 : Cond.code yX3_reasonAgainstSale cX3_reasonAgainstSale 2 (some .int) ∈ m_gd := List.mem_filter.mpr ⟨List.mem_of_getElem? (i := 375) (by decide +kernel), by decide +kernel⟩
theorem wd_241 : Cond.fieldLink RX5 174 RX3 (TX3 10).2.1 (TX3 10).2.2.1 ∈ m_gd := List.mem_filter.mpr ⟨List.mem_of_getElem? (i := 73) (by decide +kernel), by decide +kernel⟩
theorem wd_242 : Cond.fieldLink RX5 177 RX3 (TX3 8).2.1 (TX3 8).2.2.1 ∈ m_gd := List.mem_filter.mpr ⟨List.mem_of_getElem? (i := 69) (by decide +kernel), by decide +kernel⟩
theorem wd_243 : Cond.methodLink RX5 180 yX1_takeAway ∈ m_gd := List.mem_filter.mpr ⟨List.mem_of_getElem? (i := 399) (by decide +kernel), by decide +kernel⟩
theorem wd_244 : Cond.instanceMethod yX1_takeAway ∈ m_gd := List.mem_filter.mpr ⟨List.mem_of_getElem? (i := 400) (by decide +kernel), by decide +kernel⟩
theorem wd_245 : Cond.selects RX1 yX1_takeAway yX1_takeAway ∈ m_gd := List.mem_filter.mpr ⟨List.mem_of_getElem? (i := 401) (by decide +kernel), by decide +kernel⟩
theorem wd_246 : Cond.code yX1_takeAway cX1_takeAway 1 none ∈ m_gd := List.mem_filter.mpr ⟨List.mem_of_getElem? (i := 402) (by decide +kernel), by decide +kernel⟩
theorem wd_247 : Cond.fieldLink RX5 183 RX3 (TX3 9).2.1 (TX3 9).2.2.1 ∈ m_gd := List.mem_filter.mpr ⟨List.mem_of_getElem? (i := 71) (by decide +kernel), by decide +kernel⟩
theorem wd_248 : Cond.fieldLink RX5 193 RX0 (TX0 2).2.1 (TX0 2).2.2.1 ∈ m_gd := List.mem_filter.mpr ⟨List.mem_of_getElem? (i := 109) (by decide +kernel), by decide +kernel⟩
theorem wd_249 : Cond.methodLink RX5 196 yX0_takeLatestInto ∈ m_gd := List.mem_filter.mpr ⟨List.mem_of_getElem? (i := 170) (by decide +kernel), by decide +kernel⟩
theorem wd_250 : Cond.instanceMethod yX0_takeLatestInto ∈ m_gd := List.mem_filter.mpr ⟨List.mem_of_getElem? (i := 171) (by decide +kernel), by decide +kernel⟩
theorem wd_251 : Cond.selects RX0 yX0_takeLatestInto yX0_takeLatestInto ∈ m_gd := List.mem_filter.mpr ⟨List.mem_of_getElem? (i := 172) (by decide +kernel), by decide +kernel⟩
theorem wd_252 : Cond.code yX0_takeLatestInto cX0_takeLatestInto 2 none ∈ m_gd := List.mem_filter.mpr ⟨List.mem_of_getElem? (i := 173) (by decide +kernel), by decide +kernel⟩
theorem wd_253 : Cond.methodLink RX5 205 yX3_cellOf ∈ m_gd := List.mem_filter.mpr ⟨List.mem_of_getElem? (i := 494) (by decide +kernel), by decide +kernel⟩
theorem wd_254 : Cond.instanceMethod yX3_cellOf ∈ m_gd := List.mem_filter.mpr ⟨List.mem_of_getElem? (i := 495) (by decide +kernel), by decide +kernel⟩
theorem wd_255 : Cond.selects RX3 yX3_cellOf yX3_cellOf ∈ m_gd := List.mem_filter.mpr ⟨List.mem_of_getElem? (i := 496) (by decide +kernel), by decide +kernel⟩
theorem wd_256 : Cond.code yX3_cellOf cX3_cellOf 3 (some .int) ∈ m_gd := List.mem_filter.mpr ⟨List.mem_of_getElem? (i := 497) (by decide +kernel), by decide +kernel⟩
theorem wd_257 : Cond.methodLink RX5 208 yX1_placeOf ∈ m_gd := List.mem_filter.mpr ⟨List.mem_of_getElem? (i := 498) (by decide +kernel), by decide +kernel⟩
theorem wd_258 : Cond.instanceMethod yX1_placeOf ∈ m_gd := List.mem_filter.mpr ⟨List.mem_of_getElem? (i := 499) (by decide +kernel), by decide +kernel⟩
theorem wd_259 : Cond.selects RX1 yX1_placeOf yX1_placeOf ∈ m_gd := List.mem_filter.mpr ⟨List.mem_of_getElem? (i := 500) (by decide +kernel), by decide +kernel⟩
theorem wd_260 : Cond.code yX1_placeOf cX1_placeOf 4 (some .int) ∈ m_gd := List.mem_filter.mpr ⟨List.mem_of_getElem? (i := 501) (by decide +kernel), by decide +kernel⟩
theorem wd_261 : Cond.methodLink RX5 211 yX1_marksOf ∈ m_gd := List.mem_filter.mpr ⟨List.mem_of_getElem? (i := 502) (by decide +kernel), by decide +kernel⟩
theorem wd_262 : Cond.fieldLink RX5 214 RX2 (TX2 0).2.1 (TX2 0).2.2.1 ∈ m_gd := List.mem_filter.mpr ⟨List.mem_of_getElem? (i := 281) (by decide +kernel), by decide +kernel⟩
theorem wd_263 : Cond.fieldLink RX5 217 RX2 (TX2 1).2.1 (TX2 1).2.2.1 ∈ m_gd := List.mem_filter.mpr ⟨List.mem_of_getElem? (i := 284) (by decide +kernel), by decide +kernel⟩
theorem wd_264 : Cond.methodLink RX5 220 yX1_marksAt ∈ m_gd := List.mem_filter.mpr ⟨List.mem_of_getElem? (i := 533) (by decide +kernel), by decide +kernel⟩
theorem wd_265 : Cond.methodLink RX5 223 yX1_canBeAt ∈ m_gd := List.mem_filter.mpr ⟨List.mem_of_getElem? (i := 534) (by decide +kernel), by decide +kernel⟩
theorem wd_266 : Cond.methodLink RX5 226 yX1_guessAt ∈ m_gd := List.mem_filter.mpr ⟨List.mem_of_getElem? (i := 535) (by decide +kernel), by decide +kernel⟩
theorem wd_267 : Cond.fieldLink RX5 202 RX3 (TX3 7).2.1 (TX3 7).2.2.1 ∈ m_gd := List.mem_filter.mpr ⟨List.mem_of_getElem? (i := 67) (by decide +kernel), by decide +kernel⟩
theorem wd_268 : Cond.methodLink RX5 229 yX1_known ∈ m_gd := List.mem_filter.mpr ⟨List.mem_of_getElem? (i := 453) (by decide +kernel), by decide +kernel⟩
theorem wd_269 : Cond.methodLink RX5 232 yX1_guessedRight ∈ m_gd := List.mem_filter.mpr ⟨List.mem_of_getElem? (i := 454) (by decide +kernel), by decide +kernel⟩
theorem wd_270 : Cond.instanceMethod yX1_guessedRight ∈ m_gd := List.mem_filter.mpr ⟨List.mem_of_getElem? (i := 455) (by decide +kernel), by decide +kernel⟩
theorem wd_271 : Cond.selects RX1 yX1_guessedRight yX1_guessedRight ∈ m_gd := List.mem_filter.mpr ⟨List.mem_of_getElem? (i := 456) (by decide +kernel), by decide +kernel⟩
theorem wd_272 : Cond.code yX1_guessedRight cX1_guessedRight 4 (some .int) ∈ m_gd := List.mem_filter.mpr ⟨List.mem_of_getElem? (i := 457) (by decide +kernel), by decide +kernel⟩
theorem wd_273 : Cond.methodLink RX5 235 yX3_marksOnBacks ∈ m_gd := List.mem_filter.mpr ⟨List.mem_of_getElem? (i := 463) (by decide +kernel), by decide +kernel⟩
theorem wd_274 : Cond.instanceMethod yX3_marksOnBacks ∈ m_gd := List.mem_filter.mpr ⟨List.mem_of_getElem? (i := 464) (by decide +kernel), by decide +kernel⟩
theorem wd_275 : Cond.selects RX3 yX3_marksOnBacks yX3_marksOnBacks ∈ m_gd := List.mem_filter.mpr ⟨List.mem_of_getElem? (i := 465) (by decide +kernel), by decide +kernel⟩
theorem wd_276 : Cond.code yX3_marksOnBacks cX3_marksOnBacks 3 (some .int) ∈ m_gd := List.mem_filter.mpr ⟨List.mem_of_getElem? (i := 466) (by decide +kernel), by decide +kernel⟩
theorem wd_277 : Cond.methodLink RX5 238 yX5_courtsBeyond ∈ m_gd := List.mem_filter.mpr ⟨List.mem_of_getElem? (i := 473) (by decide +kernel), by decide +kernel⟩
theorem wd_278 : Cond.fieldLink RX5 186 RX4 (TX4 1).2.1 (TX4 1).2.2.1 ∈ m_gd := List.mem_filter.mpr ⟨List.mem_of_getElem? (i := 125) (by decide +kernel), by decide +kernel⟩
theorem wd_279 : Cond.methodLink RX5 241 yX1_sumOfChances ∈ m_gd := List.mem_filter.mpr ⟨List.mem_of_getElem? (i := 523) (by decide +kernel), by decide +kernel⟩
theorem wd_280 : Cond.instanceMethod yX1_sumOfChances ∈ m_gd := List.mem_filter.mpr ⟨List.mem_of_getElem? (i := 524) (by decide +kernel), by decide +kernel⟩
theorem wd_281 : Cond.selects RX1 yX1_sumOfChances yX1_sumOfChances ∈ m_gd := List.mem_filter.mpr ⟨List.mem_of_getElem? (i := 525) (by decide +kernel), by decide +kernel⟩
theorem wd_282 : Cond.code yX1_sumOfChances cX1_sumOfChances 5 (some .float) ∈ m_gd := List.mem_filter.mpr ⟨List.mem_of_getElem? (i := 526) (by decide +kernel), by decide +kernel⟩
theorem wd_283 : Cond.constantFloat RX5 245 3212836864 ∈ m_gd := List.mem_filter.mpr ⟨List.mem_of_getElem? (i := 527) (by decide +kernel), by decide +kernel⟩
theorem wd_284 : Cond.methodLink RX5 246 yX3_knownIfPrinted ∈ m_gd := List.mem_filter.mpr ⟨List.mem_of_getElem? (i := 482) (by decide +kernel), by decide +kernel⟩
theorem wd_285 : Cond.instanceMethod yX3_knownIfPrinted ∈ m_gd := List.mem_filter.mpr ⟨List.mem_of_getElem? (i := 483) (by decide +kernel), by decide +kernel⟩
theorem wd_286 : Cond.selects RX3 yX3_knownIfPrinted yX3_knownIfPrinted ∈ m_gd := List.mem_filter.mpr ⟨List.mem_of_getElem? (i := 484) (by decide +kernel), by decide +kernel⟩
theorem wd_287 : Cond.code yX3_knownIfPrinted cX3_knownIfPrinted 8 (some .int) ∈ m_gd := List.mem_filter.mpr ⟨List.mem_of_getElem? (i := 485) (by decide +kernel), by decide +kernel⟩
theorem wd_288 : Cond.methodLink RX5 250 yX2_cardsAtHome ∈ m_gd := List.mem_filter.mpr ⟨List.mem_of_getElem? (i := 511) (by decide +kernel), by decide +kernel⟩
theorem wd_289 : Cond.instanceMethod yX2_cardsAtHome ∈ m_gd := List.mem_filter.mpr ⟨List.mem_of_getElem? (i := 512) (by decide +kernel), by decide +kernel⟩
theorem wd_290 : Cond.selects RX2 yX2_cardsAtHome yX2_cardsAtHome ∈ m_gd := List.mem_filter.mpr ⟨List.mem_of_getElem? (i := 513) (by decide +kernel), by decide +kernel⟩
theorem wd_291 : Cond.code yX2_cardsAtHome cX2_cardsAtHome 4 (some .int) ∈ m_gd := List.mem_filter.mpr ⟨List.mem_of_getElem? (i := 514) (by decide +kernel), by decide +kernel⟩
theorem wd_292 : Cond.methodLink RX5 257 Lib.Math.min.name ∈ m_gd := List.mem_filter.mpr ⟨List.mem_of_getElem? (i := 181) (by decide +kernel), by decide +kernel⟩
theorem wd_293 : Cond.methodLink RX5 262 arraycopyName ∈ m_gd := List.mem_filter.mpr ⟨List.mem_of_getElem? (i := 184) (by decide +kernel), by decide +kernel⟩
theorem wd_294 : Cond.native arraycopyName ∈ m_gd := List.mem_filter.mpr ⟨List.mem_of_getElem? (i := 186) (by decide +kernel), by decide +kernel⟩
theorem wd_295 : Cond.static arraycopyName ∈ m_gd := List.mem_filter.mpr ⟨List.mem_of_getElem? (i := 185) (by decide +kernel), by decide +kernel⟩
theorem wd_296 : Cond.initialized "java/lang/System" ∈ m_gd := List.mem_filter.mpr ⟨List.mem_of_getElem? (i := 10) (by decide +kernel), by decide +kernel⟩
theorem wd_297 : Cond.methodLink RX5 268 Lib.Math.abs.name ∈ m_gd := List.mem_filter.mpr ⟨List.mem_of_getElem? (i := 379) (by decide +kernel), by decide +kernel⟩
theorem wd_298 : Cond.static Lib.Math.abs.name ∈ m_gd := List.mem_filter.mpr ⟨List.mem_of_getElem? (i := 380) (by decide +kernel), by decide +kernel⟩
theorem wd_299 : Cond.code Lib.Math.abs.name Lib.Math.abs.code 1 (some .int) ∈ m_gd := List.mem_filter.mpr ⟨List.mem_of_getElem? (i := 381) (by decide +kernel), by decide +kernel⟩
theorem wd_300 : Cond.methodLink RX5 271 yX5_along ∈ m_gd := List.mem_filter.mpr ⟨List.mem_of_getElem? (i := 327) (by decide +kernel), by decide +kernel⟩
theorem wd_301 : Cond.static yX5_along ∈ m_gd := List.mem_filter.mpr ⟨List.mem_of_getElem? (i := 328) (by decide +kernel), by decide +kernel⟩
theorem wd_302 : Cond.code yX5_along cX5_along 3 (some .int) ∈ m_gd := List.mem_filter.mpr ⟨List.mem_of_getElem? (i := 329) (by decide +kernel), by decide +kernel⟩
theorem wd_303 : Cond.constant RJ6 265 1431655765 ∈ m_gd := List.mem_filter.mpr ⟨List.mem_of_getElem? (i := 470) (by decide +kernel), by decide +kernel⟩
theorem wd_304 : Cond.constant RJ6 266 858993459 ∈ m_gd := List.mem_filter.mpr ⟨List.mem_of_getElem? (i := 471) (by decide +kernel), by decide +kernel⟩
theorem wd_305 : Cond.constant RJ6 267 252645135 ∈ m_gd := List.mem_filter.mpr ⟨List.mem_of_getElem? (i := 472) (by decide +kernel), by decide +kernel⟩
theorem wd_306 : Cond.constant RL 7 43943 ∈ m_gd := List.mem_filter.mpr ⟨List.mem_of_getElem? (i := 195) (by decide +kernel), by decide +kernel⟩
theorem wd_307 : Cond.constant RL 8 2984729 ∈ m_gd := List.mem_filter.mpr ⟨List.mem_of_getElem? (i := 196) (by decide +kernel), by decide +kernel⟩
theorem wd_308 : Cond.constant RL 9 2147483647 ∈ m_gd := List.mem_filter.mpr ⟨List.mem_of_getElem? (i := 200) (by decide +kernel), by decide +kernel⟩
theorem wd_309 : Cond.methodLink RL 10 yL_cellAt ∈ m_gd := List.mem_filter.mpr ⟨List.mem_of_getElem? (i := 419) (by decide +kernel), by decide +kernel⟩
theorem wd_310 : Cond.static yL_cellAt ∈ m_gd := List.mem_filter.mpr ⟨List.mem_of_getElem? (i := 420) (by decide +kernel), by decide +kernel⟩
theorem wd_311 : Cond.initialized RL ∈ m_gd := List.mem_filter.mpr ⟨List.mem_of_getElem? (i := 2) (by decide +kernel), by decide +kernel⟩
set_option maxRecDepth 100000 in
theorem wd_312 : Cond.code yL_cellAt cL_cellAt 4 (some .int) ∈ m_gd := List.mem_filter.mpr ⟨List.mem_of_getElem? (i := 421) (by rfl), by decide +kernel⟩
theorem wd_313 : Cond.methodLink RL 16 yL_sheetAt ∈ m_gd := List.mem_filter.mpr ⟨List.mem_of_getElem? (i := 422) (by decide +kernel), by decide +kernel⟩
theorem wd_314 : Cond.static yL_sheetAt ∈ m_gd := List.mem_filter.mpr ⟨List.mem_of_getElem? (i := 423) (by decide +kernel), by decide +kernel⟩
set_option maxRecDepth 100000 in
theorem wd_315 : Cond.code yL_sheetAt cL_sheetAt 3 (some .int) ∈ m_gd := List.mem_filter.mpr ⟨List.mem_of_getElem? (i := 424) (by rfl), by decide +kernel⟩
theorem wd_316 : Cond.methodLink RL 20 yL_alike ∈ m_gd := List.mem_filter.mpr ⟨List.mem_of_getElem? (i := 440) (by decide +kernel), by decide +kernel⟩
theorem wd_317 : Cond.static yL_alike ∈ m_gd := List.mem_filter.mpr ⟨List.mem_of_getElem? (i := 441) (by decide +kernel), by decide +kernel⟩
set_option maxRecDepth 100000 in
theorem wd_318 : Cond.code yL_alike cL_alike 7 (some .int) ∈ m_gd := List.mem_filter.mpr ⟨List.mem_of_getElem? (i := 442) (by rfl), by decide +kernel⟩
theorem wd_319 : Cond.methodLink RL 24 yL_leaning ∈ m_gd := List.mem_filter.mpr ⟨List.mem_of_getElem? (i := 434) (by decide +kernel), by decide +kernel⟩
theorem wd_320 : Cond.static yL_leaning ∈ m_gd := List.mem_filter.mpr ⟨List.mem_of_getElem? (i := 435) (by decide +kernel), by decide +kernel⟩
set_option maxRecDepth 100000 in
theorem wd_321 : Cond.code yL_leaning cL_leaning 4 (some .int) ∈ m_gd := List.mem_filter.mpr ⟨List.mem_of_getElem? (i := 436) (by rfl), by decide +kernel⟩
theorem wd_322 : Cond.methodLink RL 28 yL_known ∈ m_gd := List.mem_filter.mpr ⟨List.mem_of_getElem? (i := 437) (by decide +kernel), by decide +kernel⟩
theorem wd_323 : Cond.static yL_known ∈ m_gd := List.mem_filter.mpr ⟨List.mem_of_getElem? (i := 438) (by decide +kernel), by decide +kernel⟩
set_option maxRecDepth 100000 in
theorem wd_324 : Cond.code yL_known cL_known 5 (some .int) ∈ m_gd := List.mem_filter.mpr ⟨List.mem_of_getElem? (i := 439) (by rfl), by decide +kernel⟩
theorem wd_325 : Cond.methodLink RL 32 yX5_swap ∈ m_gd := List.mem_filter.mpr ⟨List.mem_of_getElem? (i := 207) (by decide +kernel), by decide +kernel⟩
theorem wd_326 : Cond.instanceMethod yX5_swap ∈ m_gd := List.mem_filter.mpr ⟨List.mem_of_getElem? (i := 208) (by decide +kernel), by decide +kernel⟩
theorem wd_327 : Cond.selects RX5 yX5_swap yX5_swap ∈ m_gd := List.mem_filter.mpr ⟨List.mem_of_getElem? (i := 209) (by decide +kernel), by decide +kernel⟩
theorem wd_328 : Cond.code yX5_swap cX5_swap 3 (some .int) ∈ m_gd := List.mem_filter.mpr ⟨List.mem_of_getElem? (i := 210) (by decide +kernel), by decide +kernel⟩
theorem wd_329 : Cond.methodLink RL 37 yX5_mark ∈ m_gd := List.mem_filter.mpr ⟨List.mem_of_getElem? (i := 231) (by decide +kernel), by decide +kernel⟩
theorem wd_330 : Cond.instanceMethod yX5_mark ∈ m_gd := List.mem_filter.mpr ⟨List.mem_of_getElem? (i := 232) (by decide +kernel), by decide +kernel⟩
theorem wd_331 : Cond.selects RX5 yX5_mark yX5_mark ∈ m_gd := List.mem_filter.mpr ⟨List.mem_of_getElem? (i := 233) (by decide +kernel), by decide +kernel⟩
theorem wd_332 : Cond.code yX5_mark cX5_mark 4 (some .int) ∈ m_gd := List.mem_filter.mpr ⟨List.mem_of_getElem? (i := 234) (by decide +kernel), by decide +kernel⟩
theorem wd_333 : Cond.methodLink RL 41 yX5_lean ∈ m_gd := List.mem_filter.mpr ⟨List.mem_of_getElem? (i := 246) (by decide +kernel), by decide +kernel⟩
theorem wd_334 : Cond.instanceMethod yX5_lean ∈ m_gd := List.mem_filter.mpr ⟨List.mem_of_getElem? (i := 247) (by decide +kernel), by decide +kernel⟩
theorem wd_335 : Cond.selects RX5 yX5_lean yX5_lean ∈ m_gd := List.mem_filter.mpr ⟨List.mem_of_getElem? (i := 248) (by decide +kernel), by decide +kernel⟩
theorem wd_336 : Cond.code yX5_lean cX5_lean 4 (some .int) ∈ m_gd := List.mem_filter.mpr ⟨List.mem_of_getElem? (i := 249) (by decide +kernel), by decide +kernel⟩
theorem wd_337 : Cond.methodLink RL 44 yX5_set ∈ m_gd := List.mem_filter.mpr ⟨List.mem_of_getElem? (i := 257) (by decide +kernel), by decide +kernel⟩
theorem wd_338 : Cond.instanceMethod yX5_set ∈ m_gd := List.mem_filter.mpr ⟨List.mem_of_getElem? (i := 258) (by decide +kernel), by decide +kernel⟩
theorem wd_339 : Cond.selects RX5 yX5_set yX5_set ∈ m_gd := List.mem_filter.mpr ⟨List.mem_of_getElem? (i := 259) (by decide +kernel), by decide +kernel⟩
theorem wd_340 : Cond.code yX5_set cX5_set 4 (some .int) ∈ m_gd := List.mem_filter.mpr ⟨List.mem_of_getElem? (i := 260) (by decide +kernel), by decide +kernel⟩
theorem wd_341 : Cond.methodLink RL 47 yX5_print ∈ m_gd := List.mem_filter.mpr ⟨List.mem_of_getElem? (i := 265) (by decide +kernel), by decide +kernel⟩
theorem wd_342 : Cond.instanceMethod yX5_print ∈ m_gd := List.mem_filter.mpr ⟨List.mem_of_getElem? (i := 266) (by decide +kernel), by decide +kernel⟩
theorem wd_343 : Cond.selects RX5 yX5_print yX5_print ∈ m_gd := List.mem_filter.mpr ⟨List.mem_of_getElem? (i := 267) (by decide +kernel), by decide +kernel⟩
theorem wd_344 : Cond.code yX5_print cX5_print 2 (some .int) ∈ m_gd := List.mem_filter.mpr ⟨List.mem_of_getElem? (i := 268) (by decide +kernel), by decide +kernel⟩
theorem wd_345 : Cond.methodLink RL 51 yX5_cutSheet ∈ m_gd := List.mem_filter.mpr ⟨List.mem_of_getElem? (i := 299) (by decide +kernel), by decide +kernel⟩
theorem wd_346 : Cond.instanceMethod yX5_cutSheet ∈ m_gd := List.mem_filter.mpr ⟨List.mem_of_getElem? (i := 300) (by decide +kernel), by decide +kernel⟩
theorem wd_347 : Cond.selects RX5 yX5_cutSheet yX5_cutSheet ∈ m_gd := List.mem_filter.mpr ⟨List.mem_of_getElem? (i := 301) (by decide +kernel), by decide +kernel⟩
