/-! the law's cases -/
section AMZ
variable {l : Launch} {b : PB}
theorem law_k0 {n fu : Nat} {I J : IMem} (hfu : 5000000000 < fu) (hg : gp b = 0) (hc0 : ct b = 166) (hL : scL b ≤ 3072) (hn : 6 * n + 6 ≤ scL b) (hi : n < 512) (hC : GI I) (hM : XC 0 n J) (hR : RN n I J) (hk : ∀ I2 J2, GI I2 → XC 0 (n + 1) J2 → RN (n + 1) I2 J2 → BW l b room_1 y_law (KC, ivm I2, RC) (KM, ivm J2, RM) 1228 (LVn n) []) : BW l b room_1 y_law (KC, ivm I, RC) (KM, ivm J, RM) 176 (LVn n) [] := by
  refine bw_aload_n rfl rfl dw_176 ?_
  refine bw_arg (j := 1) hL hn hi (by decide) (by decide) dw_177 dw_178 dw_179 dw_180 dw_181 ?_
  obtain ⟨v1, I2, e1, q1, h1⟩ := cl_state fu (axX b (6 * n + 1)) I hfu hC ax_in
  refine bw_mC (as := [.int (iv (axX b (6 * n + 1)))]) (d' := 1) hg hc0 mo_S_state lk_Z_13 rfl rfl (Nat.le_of_ble_eq_true rfl) (Nat.le_of_ble_eq_true rfl) rfl rfl (Nat.le_of_ble_eq_true rfl) dw_182 ⟨(Nat.le_of_ble_eq_true rfl), (Nat.le_of_ble_eq_true rfl)⟩ (t_S_state (l := l) (b := bG b) fu 0 (axX b (6 * n + 1)) I hC.1.1 rfl ax_in e1) (fun _ => ?_)
  refine bw_pop rfl dw_185 ?_
  refine bw_aload_n rfl rfl dw_186 ?_
  refine bw_arg (j := 1) hL hn hi (by decide) (by decide) dw_187 dw_188 dw_189 dw_190 dw_191 ?_
  obtain ⟨v2, J2, e2, q2, h2⟩ := lx_state fu n 0 (axX b (6 * n + 1)) J hfu hi hM ax_in
  refine bw_mM (as := [.int (iv (axX b (6 * n + 1)))]) (d' := 1) hg hc0 mo_X_state lk_Z_17 rfl rfl rfl (Nat.le_of_ble_eq_true rfl) (Nat.le_of_ble_eq_true rfl) rfl rfl (Nat.le_of_ble_eq_true rfl) dw_192 ⟨(Nat.le_of_ble_eq_true rfl), (Nat.le_of_ble_eq_true rfl)⟩ (t_X_state (l := l) (b := bM b) fu 0 (axX b (6 * n + 1)) J hM.1.1 rfl ax_in e2) (fun _ => ?_)
  refine bw_pop rfl dw_195 ?_
  exact bw_goto (tgt := 1228) (by decide) dw_196 (hk I2 J2 h1 h2 (jn_state fu n (axX b (6 * n + 1)) hfu hC hM hi ax_in e1 e2 hR).1)
theorem law_k1 {n fu : Nat} {I J : IMem} (hfu : 5000000000 < fu) (hg : gp b = 0) (hc0 : ct b = 166) (hL : scL b ≤ 3072) (hn : 6 * n + 6 ≤ scL b) (hi : n < 512) (hC : GI I) (hM : XC 0 n J) (hR : RN n I J) (hk : ∀ I2 J2, GI I2 → XC 0 (n + 1) J2 → RN (n + 1) I2 J2 → BW l b room_1 y_law (KC, ivm I2, RC) (KM, ivm J2, RM) 1228 (LVn n) []) : BW l b room_1 y_law (KC, ivm I, RC) (KM, ivm J, RM) 199 (LVn n) [] := by
  refine bw_aload_n rfl rfl dw_199 ?_
  refine bw_arg (j := 1) hL hn hi (by decide) (by decide) dw_200 dw_201 dw_202 dw_203 dw_204 ?_
  refine bw_arg (j := 2) hL hn hi (by decide) (by decide) dw_205 dw_206 dw_207 dw_208 dw_209 ?_
  obtain ⟨v1, I2, e1, q1, h1⟩ := cl_set fu (axX b (6 * n + 1)) (axX b (6 * n + 2)) I hfu hC ax_in ax_in
  refine bw_mC (as := [.int (iv (axX b (6 * n + 1))), .int (iv (axX b (6 * n + 2)))]) (d' := 3) hg hc0 mo_S_set lk_Z_18 rfl rfl (Nat.le_of_ble_eq_true rfl) (Nat.le_of_ble_eq_true rfl) rfl rfl (Nat.le_of_ble_eq_true rfl) dw_210 ⟨(Nat.le_of_ble_eq_true rfl), (Nat.le_of_ble_eq_true rfl)⟩ (t_S_set (l := l) (b := bG b) fu 0 (axX b (6 * n + 1)) (axX b (6 * n + 2)) I hC.1.1 rfl ax_in ax_in e1) (fun _ => ?_)
  refine bw_pop rfl dw_213 ?_
  refine bw_aload_n rfl rfl dw_214 ?_
  refine bw_arg (j := 1) hL hn hi (by decide) (by decide) dw_215 dw_216 dw_217 dw_218 dw_219 ?_
  refine bw_arg (j := 2) hL hn hi (by decide) (by decide) dw_220 dw_221 dw_222 dw_223 dw_224 ?_
  obtain ⟨v2, J2, e2, q2, h2⟩ := lx_set fu n 0 (axX b (6 * n + 1)) (axX b (6 * n + 2)) J hfu hi hM ax_in ax_in
  refine bw_mM (as := [.int (iv (axX b (6 * n + 1))), .int (iv (axX b (6 * n + 2)))]) (d' := 2) hg hc0 mo_X_set lk_Z_22 rfl rfl rfl (Nat.le_of_ble_eq_true rfl) (Nat.le_of_ble_eq_true rfl) rfl rfl (Nat.le_of_ble_eq_true rfl) dw_225 ⟨(Nat.le_of_ble_eq_true rfl), (Nat.le_of_ble_eq_true rfl)⟩ (t_X_set (l := l) (b := bM b) fu 0 (axX b (6 * n + 1)) (axX b (6 * n + 2)) J hM.1.1 rfl ax_in ax_in e2) (fun _ => ?_)
  refine bw_pop rfl dw_228 ?_
  exact bw_goto (tgt := 1228) (by decide) dw_229 (hk I2 J2 h1 h2 (jn_set fu n (axX b (6 * n + 1)) (axX b (6 * n + 2)) hfu hC hM hi ax_in ax_in e1 e2 hR).1)
theorem law_k2 {n fu : Nat} {I J : IMem} (hfu : 5000000000 < fu) (hg : gp b = 0) (hc0 : ct b = 166) (hL : scL b ≤ 3072) (hn : 6 * n + 6 ≤ scL b) (hi : n < 512) (hC : GI I) (hM : XC 0 n J) (hR : RN n I J) (hk : ∀ I2 J2, GI I2 → XC 0 (n + 1) J2 → RN (n + 1) I2 J2 → BW l b room_1 y_law (KC, ivm I2, RC) (KM, ivm J2, RM) 1228 (LVn n) []) : BW l b room_1 y_law (KC, ivm I, RC) (KM, ivm J, RM) 232 (LVn n) [] := by
  refine bw_aload_n rfl rfl dw_232 ?_
  refine bw_arg (j := 1) hL hn hi (by decide) (by decide) dw_233 dw_234 dw_235 dw_236 dw_237 ?_
  refine bw_arg (j := 2) hL hn hi (by decide) (by decide) dw_238 dw_239 dw_240 dw_241 dw_242 ?_
  obtain ⟨v1, I2, e1, q1, h1⟩ := cl_seen fu (axX b (6 * n + 1)) (axX b (6 * n + 2)) I hfu hC ax_in ax_in
  refine bw_mC (as := [.int (iv (axX b (6 * n + 1))), .int (iv (axX b (6 * n + 2)))]) (d' := 2) hg hc0 mo_S_seen lk_Z_23 rfl rfl (Nat.le_of_ble_eq_true rfl) (Nat.le_of_ble_eq_true rfl) rfl rfl (Nat.le_of_ble_eq_true rfl) dw_243 ⟨(Nat.le_of_ble_eq_true rfl), (Nat.le_of_ble_eq_true rfl)⟩ (t_S_seen (l := l) (b := bG b) fu 0 (axX b (6 * n + 1)) (axX b (6 * n + 2)) I hC.1.1 rfl ax_in ax_in e1) (fun _ => ?_)
  refine bw_pop rfl dw_246 ?_
  refine bw_aload_n rfl rfl dw_247 ?_
  refine bw_arg (j := 1) hL hn hi (by decide) (by decide) dw_248 dw_249 dw_250 dw_251 dw_252 ?_
  refine bw_arg (j := 2) hL hn hi (by decide) (by decide) dw_253 dw_254 dw_255 dw_256 dw_257 ?_
  obtain ⟨v2, J2, e2, q2, h2⟩ := lx_seen fu n 0 (axX b (6 * n + 1)) (axX b (6 * n + 2)) J hfu hi hM ax_in ax_in
  refine bw_mM (as := [.int (iv (axX b (6 * n + 1))), .int (iv (axX b (6 * n + 2)))]) (d' := 3) hg hc0 mo_X_seen lk_Z_26 rfl rfl rfl (Nat.le_of_ble_eq_true rfl) (Nat.le_of_ble_eq_true rfl) rfl rfl (Nat.le_of_ble_eq_true rfl) dw_258 ⟨(Nat.le_of_ble_eq_true rfl), (Nat.le_of_ble_eq_true rfl)⟩ (t_X_seen (l := l) (b := bM b) fu 0 (axX b (6 * n + 1)) (axX b (6 * n + 2)) J hM.1.1 rfl ax_in ax_in e2) (fun _ => ?_)
  refine bw_pop rfl dw_261 ?_
  exact bw_goto (tgt := 1228) (by decide) dw_262 (hk I2 J2 h1 h2 (jn_seen fu n (axX b (6 * n + 1)) (axX b (6 * n + 2)) hfu hC hM hi ax_in ax_in e1 e2 hR).1)
theorem law_k3 {n fu : Nat} {I J : IMem} (hfu : 5000000000 < fu) (hg : gp b = 0) (hc0 : ct b = 166) (hL : scL b ≤ 3072) (hn : 6 * n + 6 ≤ scL b) (hi : n < 512) (hC : GI I) (hM : XC 0 n J) (hR : RN n I J) (hk : ∀ I2 J2, GI I2 → XC 0 (n + 1) J2 → RN (n + 1) I2 J2 → BW l b room_1 y_law (KC, ivm I2, RC) (KM, ivm J2, RM) 1228 (LVn n) []) : BW l b room_1 y_law (KC, ivm I, RC) (KM, ivm J, RM) 265 (LVn n) [] := by
  refine bw_aload_n rfl rfl dw_265 ?_
  refine bw_arg (j := 1) hL hn hi (by decide) (by decide) dw_266 dw_267 dw_268 dw_269 dw_270 ?_
  refine bw_arg (j := 2) hL hn hi (by decide) (by decide) dw_271 dw_272 dw_273 dw_274 dw_275 ?_
  obtain ⟨v1, I2, e1, q1, h1⟩ := cl_parts fu (axX b (6 * n + 1)) (axX b (6 * n + 2)) I hfu hC ax_in ax_in
  refine bw_mC (as := [.int (iv (axX b (6 * n + 1))), .int (iv (axX b (6 * n + 2)))]) (d' := 1) hg hc0 mo_S_parts lk_Z_27 rfl rfl (Nat.le_of_ble_eq_true rfl) (Nat.le_of_ble_eq_true rfl) rfl rfl (Nat.le_of_ble_eq_true rfl) dw_276 ⟨(Nat.le_of_ble_eq_true rfl), (Nat.le_of_ble_eq_true rfl)⟩ (t_S_parts (l := l) (b := bG b) fu 0 (axX b (6 * n + 1)) (axX b (6 * n + 2)) I hC.1.1 rfl ax_in ax_in e1) (fun _ => ?_)
  refine bw_pop rfl dw_279 ?_
  refine bw_aload_n rfl rfl dw_280 ?_
  refine bw_arg (j := 1) hL hn hi (by decide) (by decide) dw_281 dw_282 dw_283 dw_284 dw_285 ?_
  refine bw_arg (j := 2) hL hn hi (by decide) (by decide) dw_286 dw_287 dw_288 dw_289 dw_290 ?_
  obtain ⟨v2, J2, e2, q2, h2⟩ := lx_parts fu n 0 (axX b (6 * n + 1)) (axX b (6 * n + 2)) J hfu hi hM ax_in ax_in
  refine bw_mM (as := [.int (iv (axX b (6 * n + 1))), .int (iv (axX b (6 * n + 2)))]) (d' := 2) hg hc0 mo_X_parts lk_Z_30 rfl rfl rfl (Nat.le_of_ble_eq_true rfl) (Nat.le_of_ble_eq_true rfl) rfl rfl (Nat.le_of_ble_eq_true rfl) dw_291 ⟨(Nat.le_of_ble_eq_true rfl), (Nat.le_of_ble_eq_true rfl)⟩ (t_X_parts (l := l) (b := bM b) fu 0 (axX b (6 * n + 1)) (axX b (6 * n + 2)) J hM.1.1 rfl ax_in ax_in e2) (fun _ => ?_)
  refine bw_pop rfl dw_294 ?_
  exact bw_goto (tgt := 1228) (by decide) dw_295 (hk I2 J2 h1 h2 (jn_parts fu n (axX b (6 * n + 1)) (axX b (6 * n + 2)) hfu hC hM hi ax_in ax_in e1 e2 hR).1)
theorem law_k4 {n fu : Nat} {I J : IMem} (hfu : 5000000000 < fu) (hg : gp b = 0) (hc0 : ct b = 166) (hL : scL b ≤ 3072) (hn : 6 * n + 6 ≤ scL b) (hi : n < 512) (hC : GI I) (hM : XC 0 n J) (hR : RN n I J) (hk : ∀ I2 J2, GI I2 → XC 0 (n + 1) J2 → RN (n + 1) I2 J2 → BW l b room_1 y_law (KC, ivm I2, RC) (KM, ivm J2, RM) 1228 (LVn n) []) : BW l b room_1 y_law (KC, ivm I, RC) (KM, ivm J, RM) 298 (LVn n) [] := by
  refine bw_aload_n rfl rfl dw_298 ?_
  refine bw_arg (j := 1) hL hn hi (by decide) (by decide) dw_299 dw_300 dw_301 dw_302 dw_303 ?_
  refine bw_arg (j := 2) hL hn hi (by decide) (by decide) dw_304 dw_305 dw_306 dw_307 dw_308 ?_
  refine bw_arg (j := 3) hL hn hi (by decide) (by decide) dw_309 dw_310 dw_311 dw_312 dw_313 ?_
  refine bw_arg (j := 4) hL hn hi (by decide) (by decide) dw_314 dw_315 dw_316 dw_317 dw_318 ?_
  refine bw_arg (j := 5) hL hn hi (by decide) (by decide) dw_319 dw_320 dw_321 dw_322 dw_323 ?_
  obtain ⟨v1, I2, e1, q1, h1⟩ := cl_comer fu (axX b (6 * n + 1)) (axX b (6 * n + 2)) (axX b (6 * n + 3)) (axX b (6 * n + 4)) (axX b (6 * n + 5)) I hfu hC ax_in ax_in ax_in ax_in ax_in
  refine bw_mC (as := [.int (iv (axX b (6 * n + 1))), .int (iv (axX b (6 * n + 2))), .int (iv (axX b (6 * n + 3))), .int (iv (axX b (6 * n + 4))), .int (iv (axX b (6 * n + 5)))]) (d' := 2) hg hc0 mo_S_comer lk_Z_31 rfl rfl (Nat.le_of_ble_eq_true rfl) (Nat.le_of_ble_eq_true rfl) rfl rfl (Nat.le_of_ble_eq_true rfl) dw_324 ⟨(Nat.le_of_ble_eq_true rfl), (Nat.le_of_ble_eq_true rfl)⟩ (t_S_comer (l := l) (b := bG b) fu 0 (axX b (6 * n + 1)) (axX b (6 * n + 2)) (axX b (6 * n + 3)) (axX b (6 * n + 4)) (axX b (6 * n + 5)) I hC.1.1 rfl ax_in ax_in ax_in ax_in ax_in e1) (fun _ => ?_)
  refine bw_pop rfl dw_327 ?_
  refine bw_aload_n rfl rfl dw_328 ?_
  refine bw_arg (j := 1) hL hn hi (by decide) (by decide) dw_329 dw_330 dw_331 dw_332 dw_333 ?_
  refine bw_arg (j := 2) hL hn hi (by decide) (by decide) dw_334 dw_335 dw_336 dw_337 dw_338 ?_
  refine bw_arg (j := 3) hL hn hi (by decide) (by decide) dw_339 dw_340 dw_341 dw_342 dw_343 ?_
  refine bw_arg (j := 4) hL hn hi (by decide) (by decide) dw_344 dw_345 dw_346 dw_347 dw_348 ?_
  refine bw_arg (j := 5) hL hn hi (by decide) (by decide) dw_349 dw_350 dw_351 dw_352 dw_353 ?_
  obtain ⟨v2, J2, e2, q2, h2⟩ := lx_comer fu n 0 (axX b (6 * n + 1)) (axX b (6 * n + 2)) (axX b (6 * n + 3)) (axX b (6 * n + 4)) (axX b (6 * n + 5)) J hfu hi hM ax_in ax_in ax_in ax_in ax_in
  refine bw_mM (as := [.int (iv (axX b (6 * n + 1))), .int (iv (axX b (6 * n + 2))), .int (iv (axX b (6 * n + 3))), .int (iv (axX b (6 * n + 4))), .int (iv (axX b (6 * n + 5)))]) (d' := 3) hg hc0 mo_X_comer lk_Z_35 rfl rfl rfl (Nat.le_of_ble_eq_true rfl) (Nat.le_of_ble_eq_true rfl) rfl rfl (Nat.le_of_ble_eq_true rfl) dw_354 ⟨(Nat.le_of_ble_eq_true rfl), (Nat.le_of_ble_eq_true rfl)⟩ (t_X_comer (l := l) (b := bM b) fu 0 (axX b (6 * n + 1)) (axX b (6 * n + 2)) (axX b (6 * n + 3)) (axX b (6 * n + 4)) (axX b (6 * n + 5)) J hM.1.1 rfl ax_in ax_in ax_in ax_in ax_in e2) (fun _ => ?_)
  refine bw_pop rfl dw_357 ?_
  exact bw_goto (tgt := 1228) (by decide) dw_358 (hk I2 J2 h1 h2 (jn_comer fu n (axX b (6 * n + 1)) (axX b (6 * n + 2)) (axX b (6 * n + 3)) (axX b (6 * n + 4)) (axX b (6 * n + 5)) hfu hC hM hi ax_in ax_in ax_in ax_in ax_in e1 e2 hR).1)
theorem law_k5 {n fu : Nat} {I J : IMem} (hfu : 5000000000 < fu) (hg : gp b = 0) (hc0 : ct b = 166) (hL : scL b ≤ 3072) (hn : 6 * n + 6 ≤ scL b) (hi : n < 512) (hC : GI I) (hM : XC 0 n J) (hR : RN n I J) (hk : ∀ I2 J2, GI I2 → XC 0 (n + 1) J2 → RN (n + 1) I2 J2 → BW l b room_1 y_law (KC, ivm I2, RC) (KM, ivm J2, RM) 1228 (LVn n) []) : BW l b room_1 y_law (KC, ivm I, RC) (KM, ivm J, RM) 361 (LVn n) [] := by
  refine bw_aload_n rfl rfl dw_361 ?_
  refine bw_arg (j := 1) hL hn hi (by decide) (by decide) dw_362 dw_363 dw_364 dw_365 dw_366 ?_
  refine bw_arg (j := 2) hL hn hi (by decide) (by decide) dw_367 dw_368 dw_369 dw_370 dw_371 ?_
  refine bw_arg (j := 3) hL hn hi (by decide) (by decide) dw_372 dw_373 dw_374 dw_375 dw_376 ?_
  refine bw_arg (j := 4) hL hn hi (by decide) (by decide) dw_377 dw_378 dw_379 dw_380 dw_381 ?_
  refine bw_arg (j := 5) hL hn hi (by decide) (by decide) dw_382 dw_383 dw_384 dw_385 dw_386 ?_
  obtain ⟨v1, I2, e1, q1, h1⟩ := cl_feed fu (axX b (6 * n + 1)) (axX b (6 * n + 2)) (axX b (6 * n + 3)) (axX b (6 * n + 4)) (axX b (6 * n + 5)) I hfu hC ax_in ax_in ax_in ax_in ax_in
  refine bw_mC (as := [.int (iv (axX b (6 * n + 1))), .int (iv (axX b (6 * n + 2))), .int (iv (axX b (6 * n + 3))), .int (iv (axX b (6 * n + 4))), .int (iv (axX b (6 * n + 5)))]) (d' := 2) hg hc0 mo_S_feed lk_Z_36 rfl rfl (Nat.le_of_ble_eq_true rfl) (Nat.le_of_ble_eq_true rfl) rfl rfl (Nat.le_of_ble_eq_true rfl) dw_387 ⟨(Nat.le_of_ble_eq_true rfl), (Nat.le_of_ble_eq_true rfl)⟩ (t_S_feed (l := l) (b := bG b) fu 0 (axX b (6 * n + 1)) (axX b (6 * n + 2)) (axX b (6 * n + 3)) (axX b (6 * n + 4)) (axX b (6 * n + 5)) I hC.1.1 rfl ax_in ax_in ax_in ax_in ax_in e1) (fun _ => ?_)
  refine bw_pop rfl dw_390 ?_
  refine bw_aload_n rfl rfl dw_391 ?_
  refine bw_arg (j := 1) hL hn hi (by decide) (by decide) dw_392 dw_393 dw_394 dw_395 dw_396 ?_
  refine bw_arg (j := 2) hL hn hi (by decide) (by decide) dw_397 dw_398 dw_399 dw_400 dw_401 ?_
  refine bw_arg (j := 3) hL hn hi (by decide) (by decide) dw_402 dw_403 dw_404 dw_405 dw_406 ?_
  refine bw_arg (j := 4) hL hn hi (by decide) (by decide) dw_407 dw_408 dw_409 dw_410 dw_411 ?_
  refine bw_arg (j := 5) hL hn hi (by decide) (by decide) dw_412 dw_413 dw_414 dw_415 dw_416 ?_
  obtain ⟨v2, J2, e2, q2, h2⟩ := lx_feed fu n 0 (axX b (6 * n + 1)) (axX b (6 * n + 2)) (axX b (6 * n + 3)) (axX b (6 * n + 4)) (axX b (6 * n + 5)) J hfu hi hM ax_in ax_in ax_in ax_in ax_in
  refine bw_mM (as := [.int (iv (axX b (6 * n + 1))), .int (iv (axX b (6 * n + 2))), .int (iv (axX b (6 * n + 3))), .int (iv (axX b (6 * n + 4))), .int (iv (axX b (6 * n + 5)))]) (d' := 1) hg hc0 mo_X_feed lk_Z_40 rfl rfl rfl (Nat.le_of_ble_eq_true rfl) (Nat.le_of_ble_eq_true rfl) rfl rfl (Nat.le_of_ble_eq_true rfl) dw_417 ⟨(Nat.le_of_ble_eq_true rfl), (Nat.le_of_ble_eq_true rfl)⟩ (t_X_feed (l := l) (b := bM b) fu 0 (axX b (6 * n + 1)) (axX b (6 * n + 2)) (axX b (6 * n + 3)) (axX b (6 * n + 4)) (axX b (6 * n + 5)) J hM.1.1 rfl ax_in ax_in ax_in ax_in ax_in e2) (fun _ => ?_)
  refine bw_pop rfl dw_420 ?_
  exact bw_goto (tgt := 1228) (by decide) dw_421 (hk I2 J2 h1 h2 (jn_feed fu n (axX b (6 * n + 1)) (axX b (6 * n + 2)) (axX b (6 * n + 3)) (axX b (6 * n + 4)) (axX b (6 * n + 5)) hfu hC hM hi ax_in ax_in ax_in ax_in ax_in e1 e2 hR))
theorem law_k6 {n fu : Nat} {I J : IMem} (hfu : 5000000000 < fu) (hg : gp b = 0) (hc0 : ct b = 166) (hL : scL b ≤ 3072) (hn : 6 * n + 6 ≤ scL b) (hi : n < 512) (hC : GI I) (hM : XC 0 n J) (hR : RN n I J) (hk : ∀ I2 J2, GI I2 → XC 0 (n + 1) J2 → RN (n + 1) I2 J2 → BW l b room_1 y_law (KC, ivm I2, RC) (KM, ivm J2, RM) 1228 (LVn n) []) : BW l b room_1 y_law (KC, ivm I, RC) (KM, ivm J, RM) 424 (LVn n) [] := by
  refine bw_aload_n rfl rfl dw_424 ?_
  refine bw_arg (j := 1) hL hn hi (by decide) (by decide) dw_425 dw_426 dw_427 dw_428 dw_429 ?_
  obtain ⟨v1, I2, e1, q1, h1⟩ := cl_end fu (axX b (6 * n + 1)) I hfu hC ax_in
  refine bw_mC (as := [.int (iv (axX b (6 * n + 1)))]) (d' := 2) hg hc0 mo_S_end lk_Z_41 rfl rfl (Nat.le_of_ble_eq_true rfl) (Nat.le_of_ble_eq_true rfl) rfl rfl (Nat.le_of_ble_eq_true rfl) dw_430 ⟨(Nat.le_of_ble_eq_true rfl), (Nat.le_of_ble_eq_true rfl)⟩ (t_S_end (l := l) (b := bG b) fu 0 (axX b (6 * n + 1)) I hC.1.1 rfl ax_in e1) (fun _ => ?_)
  refine bw_pop rfl dw_433 ?_
  refine bw_aload_n rfl rfl dw_434 ?_
  refine bw_arg (j := 1) hL hn hi (by decide) (by decide) dw_435 dw_436 dw_437 dw_438 dw_439 ?_
  obtain ⟨v2, J2, e2, q2, h2⟩ := lx_end fu n 0 (axX b (6 * n + 1)) J hfu hi hM ax_in
  refine bw_mM (as := [.int (iv (axX b (6 * n + 1)))]) (d' := 2) hg hc0 mo_X_end lk_Z_45 rfl rfl rfl (Nat.le_of_ble_eq_true rfl) (Nat.le_of_ble_eq_true rfl) rfl rfl (Nat.le_of_ble_eq_true rfl) dw_440 ⟨(Nat.le_of_ble_eq_true rfl), (Nat.le_of_ble_eq_true rfl)⟩ (t_X_end (l := l) (b := bM b) fu 0 (axX b (6 * n + 1)) J hM.1.1 rfl ax_in e2) (fun _ => ?_)
  refine bw_pop rfl dw_443 ?_
  exact bw_goto (tgt := 1228) (by decide) dw_444 (hk I2 J2 h1 h2 (jn_end fu n (axX b (6 * n + 1)) hfu hC hM hi ax_in e1 e2 hR))
theorem law_k7 {n fu : Nat} {I J : IMem} (hfu : 5000000000 < fu) (hg : gp b = 0) (hc0 : ct b = 166) (hL : scL b ≤ 3072) (hn : 6 * n + 6 ≤ scL b) (hi : n < 512) (hC : GI I) (hM : XC 0 n J) (hR : RN n I J) (hk : ∀ I2 J2, GI I2 → XC 0 (n + 1) J2 → RN (n + 1) I2 J2 → BW l b room_1 y_law (KC, ivm I2, RC) (KM, ivm J2, RM) 1228 (LVn n) []) : BW l b room_1 y_law (KC, ivm I, RC) (KM, ivm J, RM) 447 (LVn n) [] := by
  refine bw_aload_n rfl rfl dw_447 ?_
  refine bw_arg (j := 1) hL hn hi (by decide) (by decide) dw_448 dw_449 dw_450 dw_451 dw_452 ?_
  obtain ⟨v1, I2, e1, q1, h1⟩ := cl_text fu (axX b (6 * n + 1)) I hfu hC ax_in
  refine bw_mC (as := [.int (iv (axX b (6 * n + 1)))]) (d' := 47) hg hc0 mo_S_text lk_Z_46 rfl rfl (Nat.le_of_ble_eq_true rfl) (Nat.le_of_ble_eq_true rfl) rfl rfl (Nat.le_of_ble_eq_true rfl) dw_453 ⟨(Nat.le_of_ble_eq_true rfl), (Nat.le_of_ble_eq_true rfl)⟩ (t_S_text (l := l) (b := bG b) fu 0 (axX b (6 * n + 1)) I hC.1.1 rfl ax_in e1) (fun _ => ?_)
  refine bw_pop rfl dw_456 ?_
  refine bw_aload_n rfl rfl dw_457 ?_
  refine bw_arg (j := 1) hL hn hi (by decide) (by decide) dw_458 dw_459 dw_460 dw_461 dw_462 ?_
  obtain ⟨v2, J2, e2, q2, h2⟩ := lx_text fu n 0 (axX b (6 * n + 1)) J hfu hi hM ax_in
  refine bw_mM (as := [.int (iv (axX b (6 * n + 1)))]) (d' := 74) hg hc0 mo_X_text lk_Z_49 rfl rfl rfl (Nat.le_of_ble_eq_true rfl) (Nat.le_of_ble_eq_true rfl) rfl rfl (Nat.le_of_ble_eq_true rfl) dw_463 ⟨(Nat.le_of_ble_eq_true rfl), (Nat.le_of_ble_eq_true rfl)⟩ (t_X_text (l := l) (b := bM b) fu 0 (axX b (6 * n + 1)) J hM.1.1 rfl ax_in e2) (fun _ => ?_)
  refine bw_pop rfl dw_466 ?_
  exact bw_goto (tgt := 1228) (by decide) dw_467 (hk I2 J2 h1 h2 (jn_text fu n (axX b (6 * n + 1)) hfu hC hM hi ax_in e1 e2 hR).1)
theorem law_k8 {n fu : Nat} {I J : IMem} (hfu : 5000000000 < fu) (hg : gp b = 0) (hc0 : ct b = 166) (hL : scL b ≤ 3072) (hn : 6 * n + 6 ≤ scL b) (hi : n < 512) (hC : GI I) (hM : XC 0 n J) (hR : RN n I J) (hk : ∀ I2 J2, GI I2 → XC 0 (n + 1) J2 → RN (n + 1) I2 J2 → BW l b room_1 y_law (KC, ivm I2, RC) (KM, ivm J2, RM) 1228 (LVn n) []) : BW l b room_1 y_law (KC, ivm I, RC) (KM, ivm J, RM) 470 (LVn n) [] := by
  refine bw_aload_n rfl rfl dw_470 ?_
  refine bw_arg (j := 1) hL hn hi (by decide) (by decide) dw_471 dw_472 dw_473 dw_474 dw_475 ?_
  obtain ⟨v1, I2, e1, q1, h1⟩ := cl_fault fu (axX b (6 * n + 1)) I hfu hC ax_in
  refine bw_mC (as := [.int (iv (axX b (6 * n + 1)))]) (d' := 1) hg hc0 mo_S_fault lk_Z_50 rfl rfl (Nat.le_of_ble_eq_true rfl) (Nat.le_of_ble_eq_true rfl) rfl rfl (Nat.le_of_ble_eq_true rfl) dw_476 ⟨(Nat.le_of_ble_eq_true rfl), (Nat.le_of_ble_eq_true rfl)⟩ (t_S_fault (l := l) (b := bG b) fu 0 (axX b (6 * n + 1)) I hC.1.1 rfl ax_in e1) (fun _ => ?_)
  refine bw_pop rfl dw_479 ?_
  refine bw_aload_n rfl rfl dw_480 ?_
  refine bw_arg (j := 1) hL hn hi (by decide) (by decide) dw_481 dw_482 dw_483 dw_484 dw_485 ?_
  obtain ⟨v2, J2, e2, q2, h2⟩ := lx_fault fu n 0 (axX b (6 * n + 1)) J hfu hi hM ax_in
  refine bw_mM (as := [.int (iv (axX b (6 * n + 1)))]) (d' := 1) hg hc0 mo_X_fault lk_Z_53 rfl rfl rfl (Nat.le_of_ble_eq_true rfl) (Nat.le_of_ble_eq_true rfl) rfl rfl (Nat.le_of_ble_eq_true rfl) dw_486 ⟨(Nat.le_of_ble_eq_true rfl), (Nat.le_of_ble_eq_true rfl)⟩ (t_X_fault (l := l) (b := bM b) fu 0 (axX b (6 * n + 1)) J hM.1.1 rfl ax_in e2) (fun _ => ?_)
  refine bw_pop rfl dw_489 ?_
  exact bw_goto (tgt := 1228) (by decide) dw_490 (hk I2 J2 h1 h2 (jn_fault fu n (axX b (6 * n + 1)) hfu hC hM hi ax_in e1 e2 hR).1)
theorem law_k9 {n fu : Nat} {I J : IMem} (hfu : 5000000000 < fu) (hg : gp b = 0) (hc0 : ct b = 166) (hL : scL b ≤ 3072) (hn : 6 * n + 6 ≤ scL b) (hi : n < 512) (hC : GI I) (hM : XC 0 n J) (hR : RN n I J) (hk : ∀ I2 J2, GI I2 → XC 0 (n + 1) J2 → RN (n + 1) I2 J2 → BW l b room_1 y_law (KC, ivm I2, RC) (KM, ivm J2, RM) 1228 (LVn n) []) : BW l b room_1 y_law (KC, ivm I, RC) (KM, ivm J, RM) 493 (LVn n) [] := by
  refine bw_aload_n rfl rfl dw_493 ?_
  refine bw_arg (j := 1) hL hn hi (by decide) (by decide) dw_494 dw_495 dw_496 dw_497 dw_498 ?_
  refine bw_arg (j := 2) hL hn hi (by decide) (by decide) dw_499 dw_500 dw_501 dw_502 dw_503 ?_
  refine bw_arg (j := 3) hL hn hi (by decide) (by decide) dw_504 dw_505 dw_506 dw_507 dw_508 ?_
  obtain ⟨v1, I2, e1, q1, h1⟩ := cl_come fu (axX b (6 * n + 1)) (axX b (6 * n + 2)) (axX b (6 * n + 3)) I hfu hC ax_in ax_in ax_in
  refine bw_mC (as := [.int (iv (axX b (6 * n + 1))), .int (iv (axX b (6 * n + 2))), .int (iv (axX b (6 * n + 3)))]) (d' := 5) hg hc0 mo_S_come lk_Z_54 rfl rfl (Nat.le_of_ble_eq_true rfl) (Nat.le_of_ble_eq_true rfl) rfl rfl (Nat.le_of_ble_eq_true rfl) dw_509 ⟨(Nat.le_of_ble_eq_true rfl), (Nat.le_of_ble_eq_true rfl)⟩ (t_S_come (l := l) (b := bG b) fu 0 (axX b (6 * n + 1)) (axX b (6 * n + 2)) (axX b (6 * n + 3)) I hC.1.1 rfl ax_in ax_in ax_in e1) (fun _ => ?_)
  refine bw_pop rfl dw_512 ?_
  refine bw_aload_n rfl rfl dw_513 ?_
  refine bw_arg (j := 1) hL hn hi (by decide) (by decide) dw_514 dw_515 dw_516 dw_517 dw_518 ?_
  refine bw_arg (j := 2) hL hn hi (by decide) (by decide) dw_519 dw_520 dw_521 dw_522 dw_523 ?_
  refine bw_arg (j := 3) hL hn hi (by decide) (by decide) dw_524 dw_525 dw_526 dw_527 dw_528 ?_
  obtain ⟨v2, J2, e2, q2, h2⟩ := lx_come fu n 0 (axX b (6 * n + 1)) (axX b (6 * n + 2)) (axX b (6 * n + 3)) J hfu hi hM ax_in ax_in ax_in
  refine bw_mM (as := [.int (iv (axX b (6 * n + 1))), .int (iv (axX b (6 * n + 2))), .int (iv (axX b (6 * n + 3)))]) (d' := 6) hg hc0 mo_X_come lk_Z_58 rfl rfl rfl (Nat.le_of_ble_eq_true rfl) (Nat.le_of_ble_eq_true rfl) rfl rfl (Nat.le_of_ble_eq_true rfl) dw_529 ⟨(Nat.le_of_ble_eq_true rfl), (Nat.le_of_ble_eq_true rfl)⟩ (t_X_come (l := l) (b := bM b) fu 0 (axX b (6 * n + 1)) (axX b (6 * n + 2)) (axX b (6 * n + 3)) J hM.1.1 rfl ax_in ax_in ax_in e2) (fun _ => ?_)
  refine bw_pop rfl dw_532 ?_
  exact bw_goto (tgt := 1228) (by decide) dw_533 (hk I2 J2 h1 h2 (jn_come fu n (axX b (6 * n + 1)) (axX b (6 * n + 2)) (axX b (6 * n + 3)) hfu hC hM hi ax_in ax_in ax_in e1 e2 hR).1)
theorem law_k10 {n fu : Nat} {I J : IMem} (hfu : 5000000000 < fu) (hg : gp b = 0) (hc0 : ct b = 166) (hL : scL b ≤ 3072) (hn : 6 * n + 6 ≤ scL b) (hi : n < 512) (hC : GI I) (hM : XC 0 n J) (hR : RN n I J) (hk : ∀ I2 J2, GI I2 → XC 0 (n + 1) J2 → RN (n + 1) I2 J2 → BW l b room_1 y_law (KC, ivm I2, RC) (KM, ivm J2, RM) 1228 (LVn n) []) : BW l b room_1 y_law (KC, ivm I, RC) (KM, ivm J, RM) 536 (LVn n) [] := by
  refine bw_aload_n rfl rfl dw_536 ?_
  refine bw_arg (j := 1) hL hn hi (by decide) (by decide) dw_537 dw_538 dw_539 dw_540 dw_541 ?_
  refine bw_arg (j := 2) hL hn hi (by decide) (by decide) dw_542 dw_543 dw_544 dw_545 dw_546 ?_
  refine bw_arg (j := 3) hL hn hi (by decide) (by decide) dw_547 dw_548 dw_549 dw_550 dw_551 ?_
  obtain ⟨v1, I2, e1, q1, h1⟩ := cl_group fu (axX b (6 * n + 1)) (axX b (6 * n + 2)) (axX b (6 * n + 3)) I hfu hC ax_in ax_in ax_in
  refine bw_mC (as := [.int (iv (axX b (6 * n + 1))), .int (iv (axX b (6 * n + 2))), .int (iv (axX b (6 * n + 3)))]) (d' := 4) hg hc0 mo_S_group lk_Z_59 rfl rfl (Nat.le_of_ble_eq_true rfl) (Nat.le_of_ble_eq_true rfl) rfl rfl (Nat.le_of_ble_eq_true rfl) dw_552 ⟨(Nat.le_of_ble_eq_true rfl), (Nat.le_of_ble_eq_true rfl)⟩ (t_S_group (l := l) (b := bG b) fu 0 (axX b (6 * n + 1)) (axX b (6 * n + 2)) (axX b (6 * n + 3)) I hC.1.1 rfl ax_in ax_in ax_in e1) (fun _ => ?_)
  refine bw_pop rfl dw_555 ?_
  refine bw_aload_n rfl rfl dw_556 ?_
  refine bw_arg (j := 1) hL hn hi (by decide) (by decide) dw_557 dw_558 dw_559 dw_560 dw_561 ?_
  refine bw_arg (j := 2) hL hn hi (by decide) (by decide) dw_562 dw_563 dw_564 dw_565 dw_566 ?_
  refine bw_arg (j := 3) hL hn hi (by decide) (by decide) dw_567 dw_568 dw_569 dw_570 dw_571 ?_
  obtain ⟨v2, J2, e2, q2, h2⟩ := lx_group fu n 0 (axX b (6 * n + 1)) (axX b (6 * n + 2)) (axX b (6 * n + 3)) J hfu hi hM ax_in ax_in ax_in
  refine bw_mM (as := [.int (iv (axX b (6 * n + 1))), .int (iv (axX b (6 * n + 2))), .int (iv (axX b (6 * n + 3)))]) (d' := 5) hg hc0 mo_X_group lk_Z_62 rfl rfl rfl (Nat.le_of_ble_eq_true rfl) (Nat.le_of_ble_eq_true rfl) rfl rfl (Nat.le_of_ble_eq_true rfl) dw_572 ⟨(Nat.le_of_ble_eq_true rfl), (Nat.le_of_ble_eq_true rfl)⟩ (t_X_group (l := l) (b := bM b) fu 0 (axX b (6 * n + 1)) (axX b (6 * n + 2)) (axX b (6 * n + 3)) J hM.1.1 rfl ax_in ax_in ax_in e2) (fun _ => ?_)
  refine bw_pop rfl dw_575 ?_
  exact bw_goto (tgt := 1228) (by decide) dw_576 (hk I2 J2 h1 h2 (jn_group fu n (axX b (6 * n + 1)) (axX b (6 * n + 2)) (axX b (6 * n + 3)) hfu hC hM hi ax_in ax_in ax_in e1 e2 hR).1)
theorem law_k11 {n fu : Nat} {I J : IMem} (hfu : 5000000000 < fu) (hg : gp b = 0) (hc0 : ct b = 166) (hL : scL b ≤ 3072) (hn : 6 * n + 6 ≤ scL b) (hi : n < 512) (hC : GI I) (hM : XC 0 n J) (hR : RN n I J) (hk : ∀ I2 J2, GI I2 → XC 0 (n + 1) J2 → RN (n + 1) I2 J2 → BW l b room_1 y_law (KC, ivm I2, RC) (KM, ivm J2, RM) 1228 (LVn n) []) : BW l b room_1 y_law (KC, ivm I, RC) (KM, ivm J, RM) 579 (LVn n) [] := by
  refine bw_aload_n rfl rfl dw_579 ?_
  refine bw_arg (j := 1) hL hn hi (by decide) (by decide) dw_580 dw_581 dw_582 dw_583 dw_584 ?_
  refine bw_arg (j := 2) hL hn hi (by decide) (by decide) dw_585 dw_586 dw_587 dw_588 dw_589 ?_
  obtain ⟨v1, I2, e1, q1, h1⟩ := cl_line fu (axX b (6 * n + 1)) (axX b (6 * n + 2)) I hfu hC ax_in ax_in
  refine bw_mC (as := [.int (iv (axX b (6 * n + 1))), .int (iv (axX b (6 * n + 2)))]) (d' := 4) hg hc0 mo_S_line lk_Z_63 rfl rfl (Nat.le_of_ble_eq_true rfl) (Nat.le_of_ble_eq_true rfl) rfl rfl (Nat.le_of_ble_eq_true rfl) dw_590 ⟨(Nat.le_of_ble_eq_true rfl), (Nat.le_of_ble_eq_true rfl)⟩ (t_S_line (l := l) (b := bG b) fu 0 (axX b (6 * n + 1)) (axX b (6 * n + 2)) I hC.1.1 rfl ax_in ax_in e1) (fun _ => ?_)
  refine bw_pop rfl dw_593 ?_
  refine bw_aload_n rfl rfl dw_594 ?_
  refine bw_arg (j := 1) hL hn hi (by decide) (by decide) dw_595 dw_596 dw_597 dw_598 dw_599 ?_
  refine bw_arg (j := 2) hL hn hi (by decide) (by decide) dw_600 dw_601 dw_602 dw_603 dw_604 ?_
  obtain ⟨v2, J2, e2, q2, h2⟩ := lx_line fu n 0 (axX b (6 * n + 1)) (axX b (6 * n + 2)) J hfu hi hM ax_in ax_in
  refine bw_mM (as := [.int (iv (axX b (6 * n + 1))), .int (iv (axX b (6 * n + 2)))]) (d' := 3) hg hc0 mo_X_line lk_Z_67 rfl rfl rfl (Nat.le_of_ble_eq_true rfl) (Nat.le_of_ble_eq_true rfl) rfl rfl (Nat.le_of_ble_eq_true rfl) dw_605 ⟨(Nat.le_of_ble_eq_true rfl), (Nat.le_of_ble_eq_true rfl)⟩ (t_X_line (l := l) (b := bM b) fu 0 (axX b (6 * n + 1)) (axX b (6 * n + 2)) J hM.1.1 rfl ax_in ax_in e2) (fun _ => ?_)
  refine bw_pop rfl dw_608 ?_
  exact bw_goto (tgt := 1228) (by decide) dw_609 (hk I2 J2 h1 h2 (jn_line fu n (axX b (6 * n + 1)) (axX b (6 * n + 2)) hfu hC hM hi ax_in ax_in e1 e2 hR).1)
theorem law_k12 {n fu : Nat} {I J : IMem} (hfu : 5000000000 < fu) (hg : gp b = 0) (hc0 : ct b = 166) (hL : scL b ≤ 3072) (hn : 6 * n + 6 ≤ scL b) (hi : n < 512) (hC : GI I) (hM : XC 0 n J) (hR : RN n I J) (hk : ∀ I2 J2, GI I2 → XC 0 (n + 1) J2 → RN (n + 1) I2 J2 → BW l b room_1 y_law (KC, ivm I2, RC) (KM, ivm J2, RM) 1228 (LVn n) []) : BW l b room_1 y_law (KC, ivm I, RC) (KM, ivm J, RM) 612 (LVn n) [] := by
  refine bw_aload_n rfl rfl dw_612 ?_
  refine bw_arg (j := 1) hL hn hi (by decide) (by decide) dw_613 dw_614 dw_615 dw_616 dw_617 ?_
  refine bw_arg (j := 2) hL hn hi (by decide) (by decide) dw_618 dw_619 dw_620 dw_621 dw_622 ?_
  obtain ⟨v1, I2, e1, q1, h1⟩ := cl_pick fu (axX b (6 * n + 1)) (axX b (6 * n + 2)) I hfu hC ax_in ax_in
  refine bw_mC (as := [.int (iv (axX b (6 * n + 1))), .int (iv (axX b (6 * n + 2)))]) (d' := 5) hg hc0 mo_S_pick lk_Z_68 rfl rfl (Nat.le_of_ble_eq_true rfl) (Nat.le_of_ble_eq_true rfl) rfl rfl (Nat.le_of_ble_eq_true rfl) dw_623 ⟨(Nat.le_of_ble_eq_true rfl), (Nat.le_of_ble_eq_true rfl)⟩ (t_S_pick (l := l) (b := bG b) fu 0 (axX b (6 * n + 1)) (axX b (6 * n + 2)) I hC.1.1 rfl ax_in ax_in e1) (fun _ => ?_)
  refine bw_pop rfl dw_626 ?_
  refine bw_aload_n rfl rfl dw_627 ?_
  refine bw_arg (j := 1) hL hn hi (by decide) (by decide) dw_628 dw_629 dw_630 dw_631 dw_632 ?_
  refine bw_arg (j := 2) hL hn hi (by decide) (by decide) dw_633 dw_634 dw_635 dw_636 dw_637 ?_
  obtain ⟨v2, J2, e2, q2, h2⟩ := lx_pick fu n 0 (axX b (6 * n + 1)) (axX b (6 * n + 2)) J hfu hi hM ax_in ax_in
  refine bw_mM (as := [.int (iv (axX b (6 * n + 1))), .int (iv (axX b (6 * n + 2)))]) (d' := 3) hg hc0 mo_X_pick lk_Z_71 rfl rfl rfl (Nat.le_of_ble_eq_true rfl) (Nat.le_of_ble_eq_true rfl) rfl rfl (Nat.le_of_ble_eq_true rfl) dw_638 ⟨(Nat.le_of_ble_eq_true rfl), (Nat.le_of_ble_eq_true rfl)⟩ (t_X_pick (l := l) (b := bM b) fu 0 (axX b (6 * n + 1)) (axX b (6 * n + 2)) J hM.1.1 rfl ax_in ax_in e2) (fun _ => ?_)
  refine bw_pop rfl dw_641 ?_
  exact bw_goto (tgt := 1228) (by decide) dw_642 (hk I2 J2 h1 h2 (jn_pick fu n (axX b (6 * n + 1)) (axX b (6 * n + 2)) hfu hC hM hi ax_in ax_in e1 e2 hR).1)
theorem law_k13 {n fu : Nat} {I J : IMem} (hfu : 5000000000 < fu) (hg : gp b = 0) (hc0 : ct b = 166) (hL : scL b ≤ 3072) (hn : 6 * n + 6 ≤ scL b) (hi : n < 512) (hC : GI I) (hM : XC 0 n J) (hR : RN n I J) (hk : ∀ I2 J2, GI I2 → XC 0 (n + 1) J2 → RN (n + 1) I2 J2 → BW l b room_1 y_law (KC, ivm I2, RC) (KM, ivm J2, RM) 1228 (LVn n) []) : BW l b room_1 y_law (KC, ivm I, RC) (KM, ivm J, RM) 645 (LVn n) [] := by
  refine bw_aload_n rfl rfl dw_645 ?_
  obtain ⟨v1, I2, e1, q1, h1⟩ := cl_send fu  I hfu hC 
  refine bw_mC (as := []) (d' := 5) hg hc0 mo_S_send lk_Z_72 rfl rfl (Nat.le_of_ble_eq_true rfl) (Nat.le_of_ble_eq_true rfl) rfl rfl (Nat.le_of_ble_eq_true rfl) dw_646 ⟨(Nat.le_of_ble_eq_true rfl), (Nat.le_of_ble_eq_true rfl)⟩ (t_S_send (l := l) (b := bG b) fu 0  I hC.1.1 rfl  e1) (fun _ => ?_)
  refine bw_pop rfl dw_649 ?_
  refine bw_aload_n rfl rfl dw_650 ?_
  obtain ⟨v2, J2, e2, q2, h2⟩ := lx_send fu n 0  J hfu hi hM 
  refine bw_mM (as := []) (d' := 5) hg hc0 mo_X_send lk_Z_76 rfl rfl rfl (Nat.le_of_ble_eq_true rfl) (Nat.le_of_ble_eq_true rfl) rfl rfl (Nat.le_of_ble_eq_true rfl) dw_651 ⟨(Nat.le_of_ble_eq_true rfl), (Nat.le_of_ble_eq_true rfl)⟩ (t_X_send (l := l) (b := bM b) fu 0  J hM.1.1 rfl  e2) (fun _ => ?_)
  refine bw_pop rfl dw_654 ?_
  exact bw_goto (tgt := 1228) (by decide) dw_655 (hk I2 J2 h1 h2 (jn_send fu n  hfu hC hM hi  e1 e2 hR).1)
theorem law_k14 {n fu : Nat} {I J : IMem} (hfu : 5000000000 < fu) (hg : gp b = 0) (hc0 : ct b = 166) (hL : scL b ≤ 3072) (hn : 6 * n + 6 ≤ scL b) (hi : n < 512) (hC : GI I) (hM : XC 0 n J) (hR : RN n I J) (hk : ∀ I2 J2, GI I2 → XC 0 (n + 1) J2 → RN (n + 1) I2 J2 → BW l b room_1 y_law (KC, ivm I2, RC) (KM, ivm J2, RM) 1228 (LVn n) []) : BW l b room_1 y_law (KC, ivm I, RC) (KM, ivm J, RM) 658 (LVn n) [] := by
  refine bw_aload_n rfl rfl dw_658 ?_
  obtain ⟨v1, I2, e1, q1, h1⟩ := cl_chair fu  I hfu hC 
  refine bw_mC (as := []) (d' := 7) hg hc0 mo_S_chair lk_Z_77 rfl rfl (Nat.le_of_ble_eq_true rfl) (Nat.le_of_ble_eq_true rfl) rfl rfl (Nat.le_of_ble_eq_true rfl) dw_659 ⟨(Nat.le_of_ble_eq_true rfl), (Nat.le_of_ble_eq_true rfl)⟩ (t_S_chair (l := l) (b := bG b) fu 0  I hC.1.1 rfl  e1) (fun _ => ?_)
  refine bw_pop rfl dw_662 ?_
  refine bw_aload_n rfl rfl dw_663 ?_
  obtain ⟨v2, J2, e2, q2, h2⟩ := lx_chair fu n 0  J hfu hi hM 
  refine bw_mM (as := []) (d' := 7) hg hc0 mo_X_chair lk_Z_80 rfl rfl rfl (Nat.le_of_ble_eq_true rfl) (Nat.le_of_ble_eq_true rfl) rfl rfl (Nat.le_of_ble_eq_true rfl) dw_664 ⟨(Nat.le_of_ble_eq_true rfl), (Nat.le_of_ble_eq_true rfl)⟩ (t_X_chair (l := l) (b := bM b) fu 0  J hM.1.1 rfl  e2) (fun _ => ?_)
  refine bw_pop rfl dw_667 ?_
  exact bw_goto (tgt := 1228) (by decide) dw_668 (hk I2 J2 h1 h2 (jn_chair fu n  hfu hC hM hi  e1 e2 hR).1)
theorem law_k15 {n fu : Nat} {I J : IMem} (hfu : 5000000000 < fu) (hg : gp b = 0) (hc0 : ct b = 166) (hL : scL b ≤ 3072) (hn : 6 * n + 6 ≤ scL b) (hi : n < 512) (hC : GI I) (hM : XC 0 n J) (hR : RN n I J) (hk : ∀ I2 J2, GI I2 → XC 0 (n + 1) J2 → RN (n + 1) I2 J2 → BW l b room_1 y_law (KC, ivm I2, RC) (KM, ivm J2, RM) 1228 (LVn n) []) : BW l b room_1 y_law (KC, ivm I, RC) (KM, ivm J, RM) 671 (LVn n) [] := by
  refine bw_aload_n rfl rfl dw_671 ?_
  refine bw_arg (j := 1) hL hn hi (by decide) (by decide) dw_672 dw_673 dw_674 dw_675 dw_676 ?_
  obtain ⟨v1, I2, e1, q1, h1⟩ := cl_run fu (axX b (6 * n + 1)) I hfu hC ax_in
  refine bw_mC (as := [.int (iv (axX b (6 * n + 1)))]) (d' := 7) hg hc0 mo_S_run lk_Z_81 rfl rfl (Nat.le_of_ble_eq_true rfl) (Nat.le_of_ble_eq_true rfl) rfl rfl (Nat.le_of_ble_eq_true rfl) dw_677 ⟨(Nat.le_of_ble_eq_true rfl), (Nat.le_of_ble_eq_true rfl)⟩ (t_S_run (l := l) (b := bG b) fu 0 (axX b (6 * n + 1)) I hC.1.1 rfl ax_in e1) (fun _ => ?_)
  refine bw_pop rfl dw_680 ?_
  refine bw_aload_n rfl rfl dw_681 ?_
  refine bw_arg (j := 1) hL hn hi (by decide) (by decide) dw_682 dw_683 dw_684 dw_685 dw_686 ?_
  obtain ⟨v2, J2, e2, q2, h2⟩ := lx_run fu n 0 (axX b (6 * n + 1)) J hfu hi hM ax_in
  refine bw_mM (as := [.int (iv (axX b (6 * n + 1)))]) (d' := 9) hg hc0 mo_X_run lk_Z_84 rfl rfl rfl (Nat.le_of_ble_eq_true rfl) (Nat.le_of_ble_eq_true rfl) rfl rfl (Nat.le_of_ble_eq_true rfl) dw_687 ⟨(Nat.le_of_ble_eq_true rfl), (Nat.le_of_ble_eq_true rfl)⟩ (t_X_run (l := l) (b := bM b) fu 0 (axX b (6 * n + 1)) J hM.1.1 rfl ax_in e2) (fun _ => ?_)
  refine bw_pop rfl dw_690 ?_
  exact bw_goto (tgt := 1228) (by decide) dw_691 (hk I2 J2 h1 h2 (jn_run fu n (axX b (6 * n + 1)) hfu hC hM hi ax_in e1 e2 hR).1)
theorem law_k16 {n fu : Nat} {I J : IMem} (hfu : 5000000000 < fu) (hg : gp b = 0) (hc0 : ct b = 166) (hL : scL b ≤ 3072) (hn : 6 * n + 6 ≤ scL b) (hi : n < 512) (hC : GI I) (hM : XC 0 n J) (hR : RN n I J) (hk : ∀ I2 J2, GI I2 → XC 0 (n + 1) J2 → RN (n + 1) I2 J2 → BW l b room_1 y_law (KC, ivm I2, RC) (KM, ivm J2, RM) 1228 (LVn n) []) : BW l b room_1 y_law (KC, ivm I, RC) (KM, ivm J, RM) 694 (LVn n) [] := by
  refine bw_aload_n rfl rfl dw_694 ?_
  refine bw_arg (j := 1) hL hn hi (by decide) (by decide) dw_695 dw_696 dw_697 dw_698 dw_699 ?_
  obtain ⟨v1, I2, e1, q1, h1⟩ := cl_last fu (axX b (6 * n + 1)) I hfu hC ax_in
  refine bw_mC (as := [.int (iv (axX b (6 * n + 1)))]) (d' := 1) hg hc0 mo_S_last lk_Z_85 rfl rfl (Nat.le_of_ble_eq_true rfl) (Nat.le_of_ble_eq_true rfl) rfl rfl (Nat.le_of_ble_eq_true rfl) dw_700 ⟨(Nat.le_of_ble_eq_true rfl), (Nat.le_of_ble_eq_true rfl)⟩ (t_S_last (l := l) (b := bG b) fu 0 (axX b (6 * n + 1)) I hC.1.1 rfl ax_in e1) (fun _ => ?_)
  refine bw_pop rfl dw_703 ?_
  refine bw_aload_n rfl rfl dw_704 ?_
  refine bw_arg (j := 1) hL hn hi (by decide) (by decide) dw_705 dw_706 dw_707 dw_708 dw_709 ?_
  obtain ⟨v2, J2, e2, q2, h2⟩ := lx_last fu n 0 (axX b (6 * n + 1)) J hfu hi hM ax_in
  refine bw_mM (as := [.int (iv (axX b (6 * n + 1)))]) (d' := 2) hg hc0 mo_X_last lk_Z_88 rfl rfl rfl (Nat.le_of_ble_eq_true rfl) (Nat.le_of_ble_eq_true rfl) rfl rfl (Nat.le_of_ble_eq_true rfl) dw_710 ⟨(Nat.le_of_ble_eq_true rfl), (Nat.le_of_ble_eq_true rfl)⟩ (t_X_last (l := l) (b := bM b) fu 0 (axX b (6 * n + 1)) J hM.1.1 rfl ax_in e2) (fun _ => ?_)
  refine bw_pop rfl dw_713 ?_
  exact bw_goto (tgt := 1228) (by decide) dw_714 (hk I2 J2 h1 h2 (jn_last fu n (axX b (6 * n + 1)) hfu hC hM hi ax_in e1 e2 hR).1)
theorem law_k17 {n fu : Nat} {I J : IMem} (hfu : 5000000000 < fu) (hg : gp b = 0) (hc0 : ct b = 166) (hL : scL b ≤ 3072) (hn : 6 * n + 6 ≤ scL b) (hi : n < 512) (hC : GI I) (hM : XC 0 n J) (hR : RN n I J) (hk : ∀ I2 J2, GI I2 → XC 0 (n + 1) J2 → RN (n + 1) I2 J2 → BW l b room_1 y_law (KC, ivm I2, RC) (KM, ivm J2, RM) 1228 (LVn n) []) : BW l b room_1 y_law (KC, ivm I, RC) (KM, ivm J, RM) 717 (LVn n) [] := by
  refine bw_aload_n rfl rfl dw_717 ?_
  refine bw_arg (j := 1) hL hn hi (by decide) (by decide) dw_718 dw_719 dw_720 dw_721 dw_722 ?_
  obtain ⟨v1, I2, e1, q1, h1⟩ := cl_count fu (axX b (6 * n + 1)) I hfu hC ax_in
  refine bw_mC (as := [.int (iv (axX b (6 * n + 1)))]) (d' := 2) hg hc0 mo_S_count lk_Z_89 rfl rfl (Nat.le_of_ble_eq_true rfl) (Nat.le_of_ble_eq_true rfl) rfl rfl (Nat.le_of_ble_eq_true rfl) dw_723 ⟨(Nat.le_of_ble_eq_true rfl), (Nat.le_of_ble_eq_true rfl)⟩ (t_S_count (l := l) (b := bG b) fu 0 (axX b (6 * n + 1)) I hC.1.1 rfl ax_in e1) (fun _ => ?_)
  refine bw_pop rfl dw_726 ?_
  refine bw_aload_n rfl rfl dw_727 ?_
  refine bw_arg (j := 1) hL hn hi (by decide) (by decide) dw_728 dw_729 dw_730 dw_731 dw_732 ?_
  obtain ⟨v2, J2, e2, q2, h2⟩ := lx_count fu n 0 (axX b (6 * n + 1)) J hfu hi hM ax_in
  refine bw_mM (as := [.int (iv (axX b (6 * n + 1)))]) (d' := 2) hg hc0 mo_X_count lk_Z_92 rfl rfl rfl (Nat.le_of_ble_eq_true rfl) (Nat.le_of_ble_eq_true rfl) rfl rfl (Nat.le_of_ble_eq_true rfl) dw_733 ⟨(Nat.le_of_ble_eq_true rfl), (Nat.le_of_ble_eq_true rfl)⟩ (t_X_count (l := l) (b := bM b) fu 0 (axX b (6 * n + 1)) J hM.1.1 rfl ax_in e2) (fun _ => ?_)
  refine bw_pop rfl dw_736 ?_
  exact bw_goto (tgt := 1228) (by decide) dw_737 (hk I2 J2 h1 h2 (jn_count fu n (axX b (6 * n + 1)) hfu hC hM hi ax_in e1 e2 hR))
theorem law_k18 {n fu : Nat} {I J : IMem} (hfu : 5000000000 < fu) (hg : gp b = 0) (hc0 : ct b = 166) (hL : scL b ≤ 3072) (hn : 6 * n + 6 ≤ scL b) (hi : n < 512) (hC : GI I) (hM : XC 0 n J) (hR : RN n I J) (hk : ∀ I2 J2, GI I2 → XC 0 (n + 1) J2 → RN (n + 1) I2 J2 → BW l b room_1 y_law (KC, ivm I2, RC) (KM, ivm J2, RM) 1228 (LVn n) []) : BW l b room_1 y_law (KC, ivm I, RC) (KM, ivm J, RM) 740 (LVn n) [] := by
  refine bw_aload_n rfl rfl dw_740 ?_
  refine bw_arg (j := 1) hL hn hi (by decide) (by decide) dw_741 dw_742 dw_743 dw_744 dw_745 ?_
  obtain ⟨v1, I2, e1, q1, h1⟩ := cl_best fu (axX b (6 * n + 1)) I hfu hC ax_in
  refine bw_mC (as := [.int (iv (axX b (6 * n + 1)))]) (d' := 5) hg hc0 mo_S_best lk_Z_93 rfl rfl (Nat.le_of_ble_eq_true rfl) (Nat.le_of_ble_eq_true rfl) rfl rfl (Nat.le_of_ble_eq_true rfl) dw_746 ⟨(Nat.le_of_ble_eq_true rfl), (Nat.le_of_ble_eq_true rfl)⟩ (t_S_best (l := l) (b := bG b) fu 0 (axX b (6 * n + 1)) I hC.1.1 rfl ax_in e1) (fun _ => ?_)
  refine bw_pop rfl dw_749 ?_
  refine bw_aload_n rfl rfl dw_750 ?_
  refine bw_arg (j := 1) hL hn hi (by decide) (by decide) dw_751 dw_752 dw_753 dw_754 dw_755 ?_
  obtain ⟨v2, J2, e2, q2, h2⟩ := lx_best fu n 0 (axX b (6 * n + 1)) J hfu hi hM ax_in
  refine bw_mM (as := [.int (iv (axX b (6 * n + 1)))]) (d' := 5) hg hc0 mo_X_best lk_Z_96 rfl rfl rfl (Nat.le_of_ble_eq_true rfl) (Nat.le_of_ble_eq_true rfl) rfl rfl (Nat.le_of_ble_eq_true rfl) dw_756 ⟨(Nat.le_of_ble_eq_true rfl), (Nat.le_of_ble_eq_true rfl)⟩ (t_X_best (l := l) (b := bM b) fu 0 (axX b (6 * n + 1)) J hM.1.1 rfl ax_in e2) (fun _ => ?_)
  refine bw_pop rfl dw_759 ?_
  exact bw_goto (tgt := 1228) (by decide) dw_760 (hk I2 J2 h1 h2 (jn_best fu n (axX b (6 * n + 1)) hfu hC hM hi ax_in e1 e2 hR).1)
theorem law_k19 {n fu : Nat} {I J : IMem} (hfu : 5000000000 < fu) (hg : gp b = 0) (hc0 : ct b = 166) (hL : scL b ≤ 3072) (hn : 6 * n + 6 ≤ scL b) (hi : n < 512) (hC : GI I) (hM : XC 0 n J) (hR : RN n I J) (hk : ∀ I2 J2, GI I2 → XC 0 (n + 1) J2 → RN (n + 1) I2 J2 → BW l b room_1 y_law (KC, ivm I2, RC) (KM, ivm J2, RM) 1228 (LVn n) []) : BW l b room_1 y_law (KC, ivm I, RC) (KM, ivm J, RM) 763 (LVn n) [] := by
  refine bw_aload_n rfl rfl dw_763 ?_
  refine bw_arg (j := 1) hL hn hi (by decide) (by decide) dw_764 dw_765 dw_766 dw_767 dw_768 ?_
  obtain ⟨v1, I2, e1, q1, h1⟩ := cl_look fu (axX b (6 * n + 1)) I hfu hC ax_in
  refine bw_mC (as := [.int (iv (axX b (6 * n + 1)))]) (d' := 5) hg hc0 mo_S_look lk_Z_97 rfl rfl (Nat.le_of_ble_eq_true rfl) (Nat.le_of_ble_eq_true rfl) rfl rfl (Nat.le_of_ble_eq_true rfl) dw_769 ⟨(Nat.le_of_ble_eq_true rfl), (Nat.le_of_ble_eq_true rfl)⟩ (t_S_look (l := l) (b := bG b) fu 0 (axX b (6 * n + 1)) I hC.1.1 rfl ax_in e1) (fun _ => ?_)
  refine bw_pop rfl dw_772 ?_
  refine bw_aload_n rfl rfl dw_773 ?_
  refine bw_arg (j := 1) hL hn hi (by decide) (by decide) dw_774 dw_775 dw_776 dw_777 dw_778 ?_
  obtain ⟨v2, J2, e2, q2, h2⟩ := lx_look fu n 0 (axX b (6 * n + 1)) J hfu hi hM ax_in
  refine bw_mM (as := [.int (iv (axX b (6 * n + 1)))]) (d' := 6) hg hc0 mo_X_look lk_Z_100 rfl rfl rfl (Nat.le_of_ble_eq_true rfl) (Nat.le_of_ble_eq_true rfl) rfl rfl (Nat.le_of_ble_eq_true rfl) dw_779 ⟨(Nat.le_of_ble_eq_true rfl), (Nat.le_of_ble_eq_true rfl)⟩ (t_X_look (l := l) (b := bM b) fu 0 (axX b (6 * n + 1)) J hM.1.1 rfl ax_in e2) (fun _ => ?_)
  refine bw_pop rfl dw_782 ?_
  exact bw_goto (tgt := 1228) (by decide) dw_783 (hk I2 J2 h1 h2 (jn_look fu n (axX b (6 * n + 1)) hfu hC hM hi ax_in e1 e2 hR).1)
theorem law_k20 {n fu : Nat} {I J : IMem} (hfu : 5000000000 < fu) (hg : gp b = 0) (hc0 : ct b = 166) (hL : scL b ≤ 3072) (hn : 6 * n + 6 ≤ scL b) (hi : n < 512) (hC : GI I) (hM : XC 0 n J) (hR : RN n I J) (hk : ∀ I2 J2, GI I2 → XC 0 (n + 1) J2 → RN (n + 1) I2 J2 → BW l b room_1 y_law (KC, ivm I2, RC) (KM, ivm J2, RM) 1228 (LVn n) []) : BW l b room_1 y_law (KC, ivm I, RC) (KM, ivm J, RM) 786 (LVn n) [] := by
  refine bw_aload_n rfl rfl dw_786 ?_
  refine bw_arg (j := 1) hL hn hi (by decide) (by decide) dw_787 dw_788 dw_789 dw_790 dw_791 ?_
  refine bw_arg (j := 2) hL hn hi (by decide) (by decide) dw_792 dw_793 dw_794 dw_795 dw_796 ?_
  obtain ⟨v1, I2, e1, q1, h1⟩ := cl_heap fu (axX b (6 * n + 1)) (axX b (6 * n + 2)) I hfu hC ax_in ax_in
  refine bw_mC (as := [.int (iv (axX b (6 * n + 1))), .int (iv (axX b (6 * n + 2)))]) (d' := 1) hg hc0 mo_S_heap lk_Z_101 rfl rfl (Nat.le_of_ble_eq_true rfl) (Nat.le_of_ble_eq_true rfl) rfl rfl (Nat.le_of_ble_eq_true rfl) dw_797 ⟨(Nat.le_of_ble_eq_true rfl), (Nat.le_of_ble_eq_true rfl)⟩ (t_S_heap (l := l) (b := bG b) fu 0 (axX b (6 * n + 1)) (axX b (6 * n + 2)) I hC.1.1 rfl ax_in ax_in e1) (fun _ => ?_)
  refine bw_pop rfl dw_800 ?_
  refine bw_aload_n rfl rfl dw_801 ?_
  refine bw_arg (j := 1) hL hn hi (by decide) (by decide) dw_802 dw_803 dw_804 dw_805 dw_806 ?_
  refine bw_arg (j := 2) hL hn hi (by decide) (by decide) dw_807 dw_808 dw_809 dw_810 dw_811 ?_
  obtain ⟨v2, J2, e2, q2, h2⟩ := lx_heap fu n 0 (axX b (6 * n + 1)) (axX b (6 * n + 2)) J hfu hi hM ax_in ax_in
  refine bw_mM (as := [.int (iv (axX b (6 * n + 1))), .int (iv (axX b (6 * n + 2)))]) (d' := 2) hg hc0 mo_X_heap lk_Z_104 rfl rfl rfl (Nat.le_of_ble_eq_true rfl) (Nat.le_of_ble_eq_true rfl) rfl rfl (Nat.le_of_ble_eq_true rfl) dw_812 ⟨(Nat.le_of_ble_eq_true rfl), (Nat.le_of_ble_eq_true rfl)⟩ (t_X_heap (l := l) (b := bM b) fu 0 (axX b (6 * n + 1)) (axX b (6 * n + 2)) J hM.1.1 rfl ax_in ax_in e2) (fun _ => ?_)
  refine bw_pop rfl dw_815 ?_
  exact bw_goto (tgt := 1228) (by decide) dw_816 (hk I2 J2 h1 h2 (jn_heap fu n (axX b (6 * n + 1)) (axX b (6 * n + 2)) hfu hC hM hi ax_in ax_in e1 e2 hR).1)
theorem law_k21 {n fu : Nat} {I J : IMem} (hfu : 5000000000 < fu) (hg : gp b = 0) (hc0 : ct b = 166) (hL : scL b ≤ 3072) (hn : 6 * n + 6 ≤ scL b) (hi : n < 512) (hC : GI I) (hM : XC 0 n J) (hR : RN n I J) (hk : ∀ I2 J2, GI I2 → XC 0 (n + 1) J2 → RN (n + 1) I2 J2 → BW l b room_1 y_law (KC, ivm I2, RC) (KM, ivm J2, RM) 1228 (LVn n) []) : BW l b room_1 y_law (KC, ivm I, RC) (KM, ivm J, RM) 819 (LVn n) [] := by
  refine bw_aload_n rfl rfl dw_819 ?_
  refine bw_arg (j := 1) hL hn hi (by decide) (by decide) dw_820 dw_821 dw_822 dw_823 dw_824 ?_
  obtain ⟨v1, I2, e1, q1, h1⟩ := cl_fewest fu (axX b (6 * n + 1)) I hfu hC ax_in
  refine bw_mC (as := [.int (iv (axX b (6 * n + 1)))]) (d' := 4) hg hc0 mo_S_fewest lk_Z_105 rfl rfl (Nat.le_of_ble_eq_true rfl) (Nat.le_of_ble_eq_true rfl) rfl rfl (Nat.le_of_ble_eq_true rfl) dw_825 ⟨(Nat.le_of_ble_eq_true rfl), (Nat.le_of_ble_eq_true rfl)⟩ (t_S_fewest (l := l) (b := bG b) fu 0 (axX b (6 * n + 1)) I hC.1.1 rfl ax_in e1) (fun _ => ?_)
  refine bw_pop rfl dw_828 ?_
  refine bw_aload_n rfl rfl dw_829 ?_
  refine bw_arg (j := 1) hL hn hi (by decide) (by decide) dw_830 dw_831 dw_832 dw_833 dw_834 ?_
  obtain ⟨v2, J2, e2, q2, h2⟩ := lx_fewest fu n 0 (axX b (6 * n + 1)) J hfu hi hM ax_in
  refine bw_mM (as := [.int (iv (axX b (6 * n + 1)))]) (d' := 324) hg hc0 mo_X_fewest lk_Z_108 rfl rfl rfl (Nat.le_of_ble_eq_true rfl) (Nat.le_of_ble_eq_true rfl) rfl rfl (Nat.le_of_ble_eq_true rfl) dw_835 ⟨(Nat.le_of_ble_eq_true rfl), (Nat.le_of_ble_eq_true rfl)⟩ (t_X_fewest (l := l) (b := bM b) fu 0 (axX b (6 * n + 1)) J hM.1.1 rfl ax_in e2) (fun _ => ?_)
  refine bw_pop rfl dw_838 ?_
  exact bw_goto (tgt := 1228) (by decide) dw_839 (hk I2 J2 h1 h2 (jn_fewest fu n (axX b (6 * n + 1)) hfu hC hM hi ax_in e1 e2 hR))
theorem law_k22 {n fu : Nat} {I J : IMem} (hfu : 5000000000 < fu) (hg : gp b = 0) (hc0 : ct b = 166) (hL : scL b ≤ 3072) (hn : 6 * n + 6 ≤ scL b) (hi : n < 512) (hC : GI I) (hM : XC 0 n J) (hR : RN n I J) (hk : ∀ I2 J2, GI I2 → XC 0 (n + 1) J2 → RN (n + 1) I2 J2 → BW l b room_1 y_law (KC, ivm I2, RC) (KM, ivm J2, RM) 1228 (LVn n) []) : BW l b room_1 y_law (KC, ivm I, RC) (KM, ivm J, RM) 842 (LVn n) [] := by
  refine bw_aload_n rfl rfl dw_842 ?_
  refine bw_arg (j := 1) hL hn hi (by decide) (by decide) dw_843 dw_844 dw_845 dw_846 dw_847 ?_
  refine bw_arg (j := 2) hL hn hi (by decide) (by decide) dw_848 dw_849 dw_850 dw_851 dw_852 ?_
  refine bw_arg (j := 3) hL hn hi (by decide) (by decide) dw_853 dw_854 dw_855 dw_856 dw_857 ?_
  refine bw_arg (j := 4) hL hn hi (by decide) (by decide) dw_858 dw_859 dw_860 dw_861 dw_862 ?_
  refine bw_arg (j := 5) hL hn hi (by decide) (by decide) dw_863 dw_864 dw_865 dw_866 dw_867 ?_
  obtain ⟨v1, I2, e1, q1, h1⟩ := cl_thought fu (axX b (6 * n + 1)) (axX b (6 * n + 2)) (axX b (6 * n + 3)) (axX b (6 * n + 4)) (axX b (6 * n + 5)) I hfu hC ax_in ax_in ax_in ax_in ax_in
  refine bw_mC (as := [.int (iv (axX b (6 * n + 1))), .int (iv (axX b (6 * n + 2))), .int (iv (axX b (6 * n + 3))), .int (iv (axX b (6 * n + 4))), .int (iv (axX b (6 * n + 5)))]) (d' := 8) hg hc0 mo_S_thought lk_Z_109 rfl rfl (Nat.le_of_ble_eq_true rfl) (Nat.le_of_ble_eq_true rfl) rfl rfl (Nat.le_of_ble_eq_true rfl) dw_868 ⟨(Nat.le_of_ble_eq_true rfl), (Nat.le_of_ble_eq_true rfl)⟩ (t_S_thought (l := l) (b := bG b) fu 0 (axX b (6 * n + 1)) (axX b (6 * n + 2)) (axX b (6 * n + 3)) (axX b (6 * n + 4)) (axX b (6 * n + 5)) I hC.1.1 rfl ax_in ax_in ax_in ax_in ax_in e1) (fun _ => ?_)
  refine bw_pop rfl dw_871 ?_
  refine bw_aload_n rfl rfl dw_872 ?_
  refine bw_arg (j := 1) hL hn hi (by decide) (by decide) dw_873 dw_874 dw_875 dw_876 dw_877 ?_
  refine bw_arg (j := 2) hL hn hi (by decide) (by decide) dw_878 dw_879 dw_880 dw_881 dw_882 ?_
  refine bw_arg (j := 3) hL hn hi (by decide) (by decide) dw_883 dw_884 dw_885 dw_886 dw_887 ?_
  refine bw_arg (j := 4) hL hn hi (by decide) (by decide) dw_888 dw_889 dw_890 dw_891 dw_892 ?_
  refine bw_arg (j := 5) hL hn hi (by decide) (by decide) dw_893 dw_894 dw_895 dw_896 dw_897 ?_
  obtain ⟨v2, J2, e2, q2, h2⟩ := lx_thought fu n 0 (axX b (6 * n + 1)) (axX b (6 * n + 2)) (axX b (6 * n + 3)) (axX b (6 * n + 4)) (axX b (6 * n + 5)) J hfu hi hM ax_in ax_in ax_in ax_in ax_in
  refine bw_mM (as := [.int (iv (axX b (6 * n + 1))), .int (iv (axX b (6 * n + 2))), .int (iv (axX b (6 * n + 3))), .int (iv (axX b (6 * n + 4))), .int (iv (axX b (6 * n + 5)))]) (d' := 10) hg hc0 mo_X_thought lk_Z_112 rfl rfl rfl (Nat.le_of_ble_eq_true rfl) (Nat.le_of_ble_eq_true rfl) rfl rfl (Nat.le_of_ble_eq_true rfl) dw_898 ⟨(Nat.le_of_ble_eq_true rfl), (Nat.le_of_ble_eq_true rfl)⟩ (t_X_thought (l := l) (b := bM b) fu 0 (axX b (6 * n + 1)) (axX b (6 * n + 2)) (axX b (6 * n + 3)) (axX b (6 * n + 4)) (axX b (6 * n + 5)) J hM.1.1 rfl ax_in ax_in ax_in ax_in ax_in e2) (fun _ => ?_)
  refine bw_pop rfl dw_901 ?_
  exact bw_goto (tgt := 1228) (by decide) dw_902 (hk I2 J2 h1 h2 (jn_thought fu n (axX b (6 * n + 1)) (axX b (6 * n + 2)) (axX b (6 * n + 3)) (axX b (6 * n + 4)) (axX b (6 * n + 5)) hfu hC hM hi ax_in ax_in ax_in ax_in ax_in e1 e2 hR).1)
theorem law_k23 {n fu : Nat} {I J : IMem} (hfu : 5000000000 < fu) (hg : gp b = 0) (hc0 : ct b = 166) (hL : scL b ≤ 3072) (hn : 6 * n + 6 ≤ scL b) (hi : n < 512) (hC : GI I) (hM : XC 0 n J) (hR : RN n I J) (hk : ∀ I2 J2, GI I2 → XC 0 (n + 1) J2 → RN (n + 1) I2 J2 → BW l b room_1 y_law (KC, ivm I2, RC) (KM, ivm J2, RM) 1228 (LVn n) []) : BW l b room_1 y_law (KC, ivm I, RC) (KM, ivm J, RM) 905 (LVn n) [] := by
  refine bw_aload_n rfl rfl dw_905 ?_
  refine bw_arg (j := 1) hL hn hi (by decide) (by decide) dw_906 dw_907 dw_908 dw_909 dw_910 ?_
  refine bw_arg (j := 2) hL hn hi (by decide) (by decide) dw_911 dw_912 dw_913 dw_914 dw_915 ?_
  obtain ⟨v1, I2, e1, q1, h1⟩ := cl_price fu (axX b (6 * n + 1)) (axX b (6 * n + 2)) I hfu hC ax_in ax_in
  refine bw_mC (as := [.int (iv (axX b (6 * n + 1))), .int (iv (axX b (6 * n + 2)))]) (d' := 8) hg hc0 mo_S_price lk_Z_113 rfl rfl (Nat.le_of_ble_eq_true rfl) (Nat.le_of_ble_eq_true rfl) rfl rfl (Nat.le_of_ble_eq_true rfl) dw_916 ⟨(Nat.le_of_ble_eq_true rfl), (Nat.le_of_ble_eq_true rfl)⟩ (t_S_price (l := l) (b := bG b) fu 0 (axX b (6 * n + 1)) (axX b (6 * n + 2)) I hC.1.1 rfl ax_in ax_in e1) (fun _ => ?_)
  refine bw_pop rfl dw_919 ?_
  refine bw_aload_n rfl rfl dw_920 ?_
  refine bw_arg (j := 1) hL hn hi (by decide) (by decide) dw_921 dw_922 dw_923 dw_924 dw_925 ?_
  refine bw_arg (j := 2) hL hn hi (by decide) (by decide) dw_926 dw_927 dw_928 dw_929 dw_930 ?_
  obtain ⟨v2, J2, e2, q2, h2⟩ := lx_price fu n 0 (axX b (6 * n + 1)) (axX b (6 * n + 2)) J hfu hi hM ax_in ax_in
  refine bw_mM (as := [.int (iv (axX b (6 * n + 1))), .int (iv (axX b (6 * n + 2)))]) (d' := 10) hg hc0 mo_X_price lk_Z_116 rfl rfl rfl (Nat.le_of_ble_eq_true rfl) (Nat.le_of_ble_eq_true rfl) rfl rfl (Nat.le_of_ble_eq_true rfl) dw_931 ⟨(Nat.le_of_ble_eq_true rfl), (Nat.le_of_ble_eq_true rfl)⟩ (t_X_price (l := l) (b := bM b) fu 0 (axX b (6 * n + 1)) (axX b (6 * n + 2)) J hM.1.1 rfl ax_in ax_in e2) (fun _ => ?_)
  refine bw_pop rfl dw_934 ?_
  exact bw_goto (tgt := 1228) (by decide) dw_935 (hk I2 J2 h1 h2 (jn_price fu n (axX b (6 * n + 1)) (axX b (6 * n + 2)) hfu hC hM hi ax_in ax_in e1 e2 hR).1)
theorem law_k24 {n fu : Nat} {I J : IMem} (hfu : 5000000000 < fu) (hg : gp b = 0) (hc0 : ct b = 166) (hL : scL b ≤ 3072) (hn : 6 * n + 6 ≤ scL b) (hi : n < 512) (hC : GI I) (hM : XC 0 n J) (hR : RN n I J) (hk : ∀ I2 J2, GI I2 → XC 0 (n + 1) J2 → RN (n + 1) I2 J2 → BW l b room_1 y_law (KC, ivm I2, RC) (KM, ivm J2, RM) 1228 (LVn n) []) : BW l b room_1 y_law (KC, ivm I, RC) (KM, ivm J, RM) 938 (LVn n) [] := by
  refine bw_aload_n rfl rfl dw_938 ?_
  refine bw_arg (j := 1) hL hn hi (by decide) (by decide) dw_939 dw_940 dw_941 dw_942 dw_943 ?_
  refine bw_arg (j := 2) hL hn hi (by decide) (by decide) dw_944 dw_945 dw_946 dw_947 dw_948 ?_
  obtain ⟨v1, I2, e1, q1, h1⟩ := cl_till fu (axX b (6 * n + 1)) (axX b (6 * n + 2)) I hfu hC ax_in ax_in
  refine bw_mC (as := [.int (iv (axX b (6 * n + 1))), .int (iv (axX b (6 * n + 2)))]) (d' := 8) hg hc0 mo_S_till lk_Z_117 rfl rfl (Nat.le_of_ble_eq_true rfl) (Nat.le_of_ble_eq_true rfl) rfl rfl (Nat.le_of_ble_eq_true rfl) dw_949 ⟨(Nat.le_of_ble_eq_true rfl), (Nat.le_of_ble_eq_true rfl)⟩ (t_S_till (l := l) (b := bG b) fu 0 (axX b (6 * n + 1)) (axX b (6 * n + 2)) I hC.1.1 rfl ax_in ax_in e1) (fun _ => ?_)
  refine bw_pop rfl dw_952 ?_
  refine bw_aload_n rfl rfl dw_953 ?_
  refine bw_arg (j := 1) hL hn hi (by decide) (by decide) dw_954 dw_955 dw_956 dw_957 dw_958 ?_
  refine bw_arg (j := 2) hL hn hi (by decide) (by decide) dw_959 dw_960 dw_961 dw_962 dw_963 ?_
  obtain ⟨v2, J2, e2, q2, h2⟩ := lx_till fu n 0 (axX b (6 * n + 1)) (axX b (6 * n + 2)) J hfu hi hM ax_in ax_in
  refine bw_mM (as := [.int (iv (axX b (6 * n + 1))), .int (iv (axX b (6 * n + 2)))]) (d' := 9) hg hc0 mo_X_till lk_Z_120 rfl rfl rfl (Nat.le_of_ble_eq_true rfl) (Nat.le_of_ble_eq_true rfl) rfl rfl (Nat.le_of_ble_eq_true rfl) dw_964 ⟨(Nat.le_of_ble_eq_true rfl), (Nat.le_of_ble_eq_true rfl)⟩ (t_X_till (l := l) (b := bM b) fu 0 (axX b (6 * n + 1)) (axX b (6 * n + 2)) J hM.1.1 rfl ax_in ax_in e2) (fun _ => ?_)
  refine bw_pop rfl dw_967 ?_
  exact bw_goto (tgt := 1228) (by decide) dw_968 (hk I2 J2 h1 h2 (jn_till fu n (axX b (6 * n + 1)) (axX b (6 * n + 2)) hfu hC hM hi ax_in ax_in e1 e2 hR).1)
theorem law_k25 {n fu : Nat} {I J : IMem} (hfu : 5000000000 < fu) (hg : gp b = 0) (hc0 : ct b = 166) (hL : scL b ≤ 3072) (hn : 6 * n + 6 ≤ scL b) (hi : n < 512) (hC : GI I) (hM : XC 0 n J) (hR : RN n I J) (hk : ∀ I2 J2, GI I2 → XC 0 (n + 1) J2 → RN (n + 1) I2 J2 → BW l b room_1 y_law (KC, ivm I2, RC) (KM, ivm J2, RM) 1228 (LVn n) []) : BW l b room_1 y_law (KC, ivm I, RC) (KM, ivm J, RM) 971 (LVn n) [] := by
  refine bw_aload_n rfl rfl dw_971 ?_
  refine bw_arg (j := 1) hL hn hi (by decide) (by decide) dw_972 dw_973 dw_974 dw_975 dw_976 ?_
  refine bw_arg (j := 2) hL hn hi (by decide) (by decide) dw_977 dw_978 dw_979 dw_980 dw_981 ?_
  refine bw_arg (j := 3) hL hn hi (by decide) (by decide) dw_982 dw_983 dw_984 dw_985 dw_986 ?_
  refine bw_arg (j := 4) hL hn hi (by decide) (by decide) dw_987 dw_988 dw_989 dw_990 dw_991 ?_
  refine bw_arg (j := 5) hL hn hi (by decide) (by decide) dw_992 dw_993 dw_994 dw_995 dw_996 ?_
  obtain ⟨v1, I2, e1, q1, h1⟩ := cl_together fu (axX b (6 * n + 1)) (axX b (6 * n + 2)) (axX b (6 * n + 3)) (axX b (6 * n + 4)) (axX b (6 * n + 5)) I hfu hC ax_in ax_in ax_in ax_in ax_in
  refine bw_mC (as := [.int (iv (axX b (6 * n + 1))), .int (iv (axX b (6 * n + 2))), .int (iv (axX b (6 * n + 3))), .int (iv (axX b (6 * n + 4))), .int (iv (axX b (6 * n + 5)))]) (d' := 8) hg hc0 mo_S_together lk_Z_121 rfl rfl (Nat.le_of_ble_eq_true rfl) (Nat.le_of_ble_eq_true rfl) rfl rfl (Nat.le_of_ble_eq_true rfl) dw_997 ⟨(Nat.le_of_ble_eq_true rfl), (Nat.le_of_ble_eq_true rfl)⟩ (t_S_together (l := l) (b := bG b) fu 0 (axX b (6 * n + 1)) (axX b (6 * n + 2)) (axX b (6 * n + 3)) (axX b (6 * n + 4)) (axX b (6 * n + 5)) I hC.1.1 rfl ax_in ax_in ax_in ax_in ax_in e1) (fun _ => ?_)
  refine bw_aload_n rfl rfl dw_1000 ?_
  refine bw_arg (j := 1) hL hn hi (by decide) (by decide) dw_1001 dw_1002 dw_1003 dw_1004 dw_1005 ?_
  refine bw_arg (j := 2) hL hn hi (by decide) (by decide) dw_1006 dw_1007 dw_1008 dw_1009 dw_1010 ?_
  refine bw_arg (j := 3) hL hn hi (by decide) (by decide) dw_1011 dw_1012 dw_1013 dw_1014 dw_1015 ?_
  refine bw_arg (j := 4) hL hn hi (by decide) (by decide) dw_1016 dw_1017 dw_1018 dw_1019 dw_1020 ?_
  refine bw_arg (j := 5) hL hn hi (by decide) (by decide) dw_1021 dw_1022 dw_1023 dw_1024 dw_1025 ?_
  obtain ⟨v2, J2, e2, q2, h2⟩ := lx_together fu n 0 (axX b (6 * n + 1)) (axX b (6 * n + 2)) (axX b (6 * n + 3)) (axX b (6 * n + 4)) (axX b (6 * n + 5)) J hfu hi hM ax_in ax_in ax_in ax_in ax_in
  refine bw_mM (as := [.int (iv (axX b (6 * n + 1))), .int (iv (axX b (6 * n + 2))), .int (iv (axX b (6 * n + 3))), .int (iv (axX b (6 * n + 4))), .int (iv (axX b (6 * n + 5)))]) (d' := 10) hg hc0 mo_X_together lk_Z_124 rfl rfl rfl (Nat.le_of_ble_eq_true rfl) (Nat.le_of_ble_eq_true rfl) rfl rfl (Nat.le_of_ble_eq_true rfl) dw_1026 ⟨(Nat.le_of_ble_eq_true rfl), (Nat.le_of_ble_eq_true rfl)⟩ (t_X_together (l := l) (b := bM b) fu 0 (axX b (6 * n + 1)) (axX b (6 * n + 2)) (axX b (6 * n + 3)) (axX b (6 * n + 4)) (axX b (6 * n + 5)) J hM.1.1 rfl ax_in ax_in ax_in ax_in ax_in e2) (fun _ => ?_)
  exact bw_icmp_eq (tgt := 1228) (by decide) dw_1029 (fun _ => hk I2 J2 h1 h2 (jn_together fu n (axX b (6 * n + 1)) (axX b (6 * n + 2)) (axX b (6 * n + 3)) (axX b (6 * n + 4)) (axX b (6 * n + 5)) hfu hC hM hi ax_in ax_in ax_in ax_in ax_in e1 e2 hR).1) (fun h => absurd (congrArg iv (jn_together fu n (axX b (6 * n + 1)) (axX b (6 * n + 2)) (axX b (6 * n + 3)) (axX b (6 * n + 4)) (axX b (6 * n + 5)) hfu hC hM hi ax_in ax_in ax_in ax_in ax_in e1 e2 hR).2) h)
theorem law_k26 {n fu : Nat} {I J : IMem} (hfu : 5000000000 < fu) (hg : gp b = 0) (hc0 : ct b = 166) (hL : scL b ≤ 3072) (hn : 6 * n + 6 ≤ scL b) (hi : n < 512) (hC : GI I) (hM : XC 0 n J) (hR : RN n I J) (hk : ∀ I2 J2, GI I2 → XC 0 (n + 1) J2 → RN (n + 1) I2 J2 → BW l b room_1 y_law (KC, ivm I2, RC) (KM, ivm J2, RM) 1228 (LVn n) []) : BW l b room_1 y_law (KC, ivm I, RC) (KM, ivm J, RM) 1034 (LVn n) [] := by
  refine bw_aload_n rfl rfl dw_1034 ?_
  refine bw_arg (j := 1) hL hn hi (by decide) (by decide) dw_1035 dw_1036 dw_1037 dw_1038 dw_1039 ?_
  obtain ⟨v1, I2, e1, q1, h1⟩ := cl_needed fu (axX b (6 * n + 1)) I hfu hC ax_in
  refine bw_mC (as := [.int (iv (axX b (6 * n + 1)))]) (d' := 8) hg hc0 mo_S_needed lk_Z_125 rfl rfl (Nat.le_of_ble_eq_true rfl) (Nat.le_of_ble_eq_true rfl) rfl rfl (Nat.le_of_ble_eq_true rfl) dw_1040 ⟨(Nat.le_of_ble_eq_true rfl), (Nat.le_of_ble_eq_true rfl)⟩ (t_S_needed (l := l) (b := bG b) fu 0 (axX b (6 * n + 1)) I hC.1.1 rfl ax_in e1) (fun _ => ?_)
  refine bw_pop rfl dw_1043 ?_
  refine bw_aload_n rfl rfl dw_1044 ?_
  refine bw_arg (j := 1) hL hn hi (by decide) (by decide) dw_1045 dw_1046 dw_1047 dw_1048 dw_1049 ?_
  obtain ⟨v2, J2, e2, q2, h2⟩ := lx_needed fu n 0 (axX b (6 * n + 1)) J hfu hi hM ax_in
  refine bw_mM (as := [.int (iv (axX b (6 * n + 1)))]) (d' := 8) hg hc0 mo_X_needed lk_Z_128 rfl rfl rfl (Nat.le_of_ble_eq_true rfl) (Nat.le_of_ble_eq_true rfl) rfl rfl (Nat.le_of_ble_eq_true rfl) dw_1050 ⟨(Nat.le_of_ble_eq_true rfl), (Nat.le_of_ble_eq_true rfl)⟩ (t_X_needed (l := l) (b := bM b) fu 0 (axX b (6 * n + 1)) J hM.1.1 rfl ax_in e2) (fun _ => ?_)
  refine bw_pop rfl dw_1053 ?_
  exact bw_goto (tgt := 1228) (by decide) dw_1054 (hk I2 J2 h1 h2 (jn_needed fu n (axX b (6 * n + 1)) hfu hC hM hi ax_in e1 e2 hR).1)
theorem law_k27 {n fu : Nat} {I J : IMem} (hfu : 5000000000 < fu) (hg : gp b = 0) (hc0 : ct b = 166) (hL : scL b ≤ 3072) (hn : 6 * n + 6 ≤ scL b) (hi : n < 512) (hC : GI I) (hM : XC 0 n J) (hR : RN n I J) (hk : ∀ I2 J2, GI I2 → XC 0 (n + 1) J2 → RN (n + 1) I2 J2 → BW l b room_1 y_law (KC, ivm I2, RC) (KM, ivm J2, RM) 1228 (LVn n) []) : BW l b room_1 y_law (KC, ivm I, RC) (KM, ivm J, RM) 1057 (LVn n) [] := by
  refine bw_aload_n rfl rfl dw_1057 ?_
  refine bw_arg (j := 1) hL hn hi (by decide) (by decide) dw_1058 dw_1059 dw_1060 dw_1061 dw_1062 ?_
  refine bw_arg (j := 2) hL hn hi (by decide) (by decide) dw_1063 dw_1064 dw_1065 dw_1066 dw_1067 ?_
  obtain ⟨v1, I2, e1, q1, h1⟩ := cl_past fu (axX b (6 * n + 1)) (axX b (6 * n + 2)) I hfu hC ax_in ax_in
  refine bw_mC (as := [.int (iv (axX b (6 * n + 1))), .int (iv (axX b (6 * n + 2)))]) (d' := 4) hg hc0 mo_S_past lk_Z_129 rfl rfl (Nat.le_of_ble_eq_true rfl) (Nat.le_of_ble_eq_true rfl) rfl rfl (Nat.le_of_ble_eq_true rfl) dw_1068 ⟨(Nat.le_of_ble_eq_true rfl), (Nat.le_of_ble_eq_true rfl)⟩ (t_S_past (l := l) (b := bG b) fu 0 (axX b (6 * n + 1)) (axX b (6 * n + 2)) I hC.1.1 rfl ax_in ax_in e1) (fun _ => ?_)
  refine bw_pop rfl dw_1071 ?_
  refine bw_aload_n rfl rfl dw_1072 ?_
  refine bw_arg (j := 1) hL hn hi (by decide) (by decide) dw_1073 dw_1074 dw_1075 dw_1076 dw_1077 ?_
  refine bw_arg (j := 2) hL hn hi (by decide) (by decide) dw_1078 dw_1079 dw_1080 dw_1081 dw_1082 ?_
  obtain ⟨v2, J2, e2, q2, h2⟩ := lx_past fu n 0 (axX b (6 * n + 1)) (axX b (6 * n + 2)) J hfu hi hM ax_in ax_in
  refine bw_mM (as := [.int (iv (axX b (6 * n + 1))), .int (iv (axX b (6 * n + 2)))]) (d' := 2) hg hc0 mo_X_past lk_Z_132 rfl rfl rfl (Nat.le_of_ble_eq_true rfl) (Nat.le_of_ble_eq_true rfl) rfl rfl (Nat.le_of_ble_eq_true rfl) dw_1083 ⟨(Nat.le_of_ble_eq_true rfl), (Nat.le_of_ble_eq_true rfl)⟩ (t_X_past (l := l) (b := bM b) fu 0 (axX b (6 * n + 1)) (axX b (6 * n + 2)) J hM.1.1 rfl ax_in ax_in e2) (fun _ => ?_)
  refine bw_pop rfl dw_1086 ?_
  exact bw_goto (tgt := 1228) (by decide) dw_1087 (hk I2 J2 h1 h2 (jn_past fu n (axX b (6 * n + 1)) (axX b (6 * n + 2)) hfu hC hM hi ax_in ax_in e1 e2 hR).1)
theorem law_k28 {n fu : Nat} {I J : IMem} (hfu : 5000000000 < fu) (hg : gp b = 0) (hc0 : ct b = 166) (hL : scL b ≤ 3072) (hn : 6 * n + 6 ≤ scL b) (hi : n < 512) (hC : GI I) (hM : XC 0 n J) (hR : RN n I J) (hk : ∀ I2 J2, GI I2 → XC 0 (n + 1) J2 → RN (n + 1) I2 J2 → BW l b room_1 y_law (KC, ivm I2, RC) (KM, ivm J2, RM) 1228 (LVn n) []) : BW l b room_1 y_law (KC, ivm I, RC) (KM, ivm J, RM) 1090 (LVn n) [] := by
  refine bw_aload_n rfl rfl dw_1090 ?_
  refine bw_arg (j := 1) hL hn hi (by decide) (by decide) dw_1091 dw_1092 dw_1093 dw_1094 dw_1095 ?_
  refine bw_arg (j := 2) hL hn hi (by decide) (by decide) dw_1096 dw_1097 dw_1098 dw_1099 dw_1100 ?_
  obtain ⟨v1, I2, e1, q1, h1⟩ := cl_which fu (axX b (6 * n + 1)) (axX b (6 * n + 2)) I hfu hC ax_in ax_in
  refine bw_mC (as := [.int (iv (axX b (6 * n + 1))), .int (iv (axX b (6 * n + 2)))]) (d' := 8) hg hc0 mo_S_which lk_Z_133 rfl rfl (Nat.le_of_ble_eq_true rfl) (Nat.le_of_ble_eq_true rfl) rfl rfl (Nat.le_of_ble_eq_true rfl) dw_1101 ⟨(Nat.le_of_ble_eq_true rfl), (Nat.le_of_ble_eq_true rfl)⟩ (t_S_which (l := l) (b := bG b) fu 0 (axX b (6 * n + 1)) (axX b (6 * n + 2)) I hC.1.1 rfl ax_in ax_in e1) (fun _ => ?_)
  refine bw_pop rfl dw_1104 ?_
  refine bw_aload_n rfl rfl dw_1105 ?_
  refine bw_arg (j := 1) hL hn hi (by decide) (by decide) dw_1106 dw_1107 dw_1108 dw_1109 dw_1110 ?_
  refine bw_arg (j := 2) hL hn hi (by decide) (by decide) dw_1111 dw_1112 dw_1113 dw_1114 dw_1115 ?_
  obtain ⟨v2, J2, e2, q2, h2⟩ := lx_which fu n 0 (axX b (6 * n + 1)) (axX b (6 * n + 2)) J hfu hi hM ax_in ax_in
  refine bw_mM (as := [.int (iv (axX b (6 * n + 1))), .int (iv (axX b (6 * n + 2)))]) (d' := 10) hg hc0 mo_X_which lk_Z_136 rfl rfl rfl (Nat.le_of_ble_eq_true rfl) (Nat.le_of_ble_eq_true rfl) rfl rfl (Nat.le_of_ble_eq_true rfl) dw_1116 ⟨(Nat.le_of_ble_eq_true rfl), (Nat.le_of_ble_eq_true rfl)⟩ (t_X_which (l := l) (b := bM b) fu 0 (axX b (6 * n + 1)) (axX b (6 * n + 2)) J hM.1.1 rfl ax_in ax_in e2) (fun _ => ?_)
  refine bw_pop rfl dw_1119 ?_
  exact bw_goto (tgt := 1228) (by decide) dw_1120 (hk I2 J2 h1 h2 (jn_which fu n (axX b (6 * n + 1)) (axX b (6 * n + 2)) hfu hC hM hi ax_in ax_in e1 e2 hR).1)
theorem law_k29 {n fu : Nat} {I J : IMem} (hfu : 5000000000 < fu) (hg : gp b = 0) (hc0 : ct b = 166) (hL : scL b ≤ 3072) (hn : 6 * n + 6 ≤ scL b) (hi : n < 512) (hC : GI I) (hM : XC 0 n J) (hR : RN n I J) (hk : ∀ I2 J2, GI I2 → XC 0 (n + 1) J2 → RN (n + 1) I2 J2 → BW l b room_1 y_law (KC, ivm I2, RC) (KM, ivm J2, RM) 1228 (LVn n) []) : BW l b room_1 y_law (KC, ivm I, RC) (KM, ivm J, RM) 1123 (LVn n) [] := by
  refine bw_aload_n rfl rfl dw_1123 ?_
  refine bw_arg (j := 1) hL hn hi (by decide) (by decide) dw_1124 dw_1125 dw_1126 dw_1127 dw_1128 ?_
  refine bw_arg (j := 2) hL hn hi (by decide) (by decide) dw_1129 dw_1130 dw_1131 dw_1132 dw_1133 ?_
  refine bw_arg (j := 3) hL hn hi (by decide) (by decide) dw_1134 dw_1135 dw_1136 dw_1137 dw_1138 ?_
  obtain ⟨v1, I2, e1, q1, h1⟩ := cl_folded fu (axX b (6 * n + 1)) (axX b (6 * n + 2)) (axX b (6 * n + 3)) I hfu hC ax_in ax_in ax_in
  refine bw_mC (as := [.int (iv (axX b (6 * n + 1))), .int (iv (axX b (6 * n + 2))), .int (iv (axX b (6 * n + 3)))]) (d' := 4) hg hc0 mo_S_folded lk_Z_137 rfl rfl (Nat.le_of_ble_eq_true rfl) (Nat.le_of_ble_eq_true rfl) rfl rfl (Nat.le_of_ble_eq_true rfl) dw_1139 ⟨(Nat.le_of_ble_eq_true rfl), (Nat.le_of_ble_eq_true rfl)⟩ (t_S_folded (l := l) (b := bG b) fu 0 (axX b (6 * n + 1)) (axX b (6 * n + 2)) (axX b (6 * n + 3)) I hC.1.1 rfl ax_in ax_in ax_in e1) (fun _ => ?_)
  refine bw_pop rfl dw_1142 ?_
  refine bw_aload_n rfl rfl dw_1143 ?_
  refine bw_arg (j := 1) hL hn hi (by decide) (by decide) dw_1144 dw_1145 dw_1146 dw_1147 dw_1148 ?_
  refine bw_arg (j := 2) hL hn hi (by decide) (by decide) dw_1149 dw_1150 dw_1151 dw_1152 dw_1153 ?_
  refine bw_arg (j := 3) hL hn hi (by decide) (by decide) dw_1154 dw_1155 dw_1156 dw_1157 dw_1158 ?_
  obtain ⟨v2, J2, e2, q2, h2⟩ := lx_folded fu n 0 (axX b (6 * n + 1)) (axX b (6 * n + 2)) (axX b (6 * n + 3)) J hfu hi hM ax_in ax_in ax_in
  refine bw_mM (as := [.int (iv (axX b (6 * n + 1))), .int (iv (axX b (6 * n + 2))), .int (iv (axX b (6 * n + 3)))]) (d' := 3) hg hc0 mo_X_folded lk_Z_140 rfl rfl rfl (Nat.le_of_ble_eq_true rfl) (Nat.le_of_ble_eq_true rfl) rfl rfl (Nat.le_of_ble_eq_true rfl) dw_1159 ⟨(Nat.le_of_ble_eq_true rfl), (Nat.le_of_ble_eq_true rfl)⟩ (t_X_folded (l := l) (b := bM b) fu 0 (axX b (6 * n + 1)) (axX b (6 * n + 2)) (axX b (6 * n + 3)) J hM.1.1 rfl ax_in ax_in ax_in e2) (fun _ => ?_)
  refine bw_pop rfl dw_1162 ?_
  exact bw_goto (tgt := 1228) (by decide) dw_1163 (hk I2 J2 h1 h2 (jn_folded fu n (axX b (6 * n + 1)) (axX b (6 * n + 2)) (axX b (6 * n + 3)) hfu hC hM hi ax_in ax_in ax_in e1 e2 hR).1)
theorem law_k30 {n fu : Nat} {I J : IMem} (hfu : 5000000000 < fu) (hg : gp b = 0) (hc0 : ct b = 166) (hL : scL b ≤ 3072) (hn : 6 * n + 6 ≤ scL b) (hi : n < 512) (hC : GI I) (hM : XC 0 n J) (hR : RN n I J) (hk : ∀ I2 J2, GI I2 → XC 0 (n + 1) J2 → RN (n + 1) I2 J2 → BW l b room_1 y_law (KC, ivm I2, RC) (KM, ivm J2, RM) 1228 (LVn n) []) : BW l b room_1 y_law (KC, ivm I, RC) (KM, ivm J, RM) 1166 (LVn n) [] := by
  refine bw_aload_n rfl rfl dw_1166 ?_
  refine bw_arg (j := 1) hL hn hi (by decide) (by decide) dw_1167 dw_1168 dw_1169 dw_1170 dw_1171 ?_
  refine bw_if_eq (tgt := 1179) (by decide) dw_1172 (fun e => ?_) (fun e => ?_)
  · refine bw_iconst (v := iv 0) rfl dw_1179 ?_
    obtain ⟨v1, I2, e1, q1, h1⟩ := cl_image fu (0 : Int) I hfu hC (lit_in rfl)
    obtain ⟨v2, J2, e2, q2, h2⟩ := lx_image fu n 0 (0 : Int) J hfu hi hM (lit_in rfl)
    refine bw_mC (as := [.int (iv (0 : Int))]) (d' := 4) hg hc0 mo_S_image lk_Z_141 rfl rfl (Nat.le_of_ble_eq_true rfl) (Nat.le_of_ble_eq_true rfl) rfl rfl (Nat.le_of_ble_eq_true rfl) dw_1180 ⟨(Nat.le_of_ble_eq_true rfl), (Nat.le_of_ble_eq_true rfl)⟩ (t_S_image (l := l) (b := bG b) fu 0 (0 : Int) I hC.1.1 rfl (lit_in rfl) e1) (fun _ => ?_)
    refine bw_pop rfl dw_1183 ?_
    refine bw_aload_n rfl rfl dw_1184 ?_
    refine bw_arg (j := 1) hL hn hi (by decide) (by decide) dw_1185 dw_1186 dw_1187 dw_1188 dw_1189 ?_
    refine bw_if_eq (tgt := 1197) (by decide) dw_1190 (fun e3 => ?_) (fun e3 => ?_)
    · refine bw_iconst (v := iv 0) rfl dw_1197 ?_
      refine bw_mM (as := [.int (iv (0 : Int))]) (d' := 2) hg hc0 mo_X_image lk_Z_145 rfl rfl rfl (Nat.le_of_ble_eq_true rfl) (Nat.le_of_ble_eq_true rfl) rfl rfl (Nat.le_of_ble_eq_true rfl) dw_1198 ⟨(Nat.le_of_ble_eq_true rfl), (Nat.le_of_ble_eq_true rfl)⟩ (t_X_image (l := l) (b := bM b) fu 0 (0 : Int) J hM.1.1 rfl (lit_in rfl) e2) (fun _ => ?_)
      refine bw_pop rfl dw_1201 ?_
      exact bw_goto (tgt := 1228) (by decide) dw_1202 (hk I2 J2 h1 h2 (jn_image fu n (0 : Int) hfu hC hM hi (lit_in rfl) e1 e2 hR).1)
    · exact absurd e e3
  · refine bw_iconst (v := iv 1) rfl dw_1175 ?_
    refine bw_goto (tgt := 1180) (by decide) dw_1176 ?_
    obtain ⟨v1, I2, e1, q1, h1⟩ := cl_image fu (1 : Int) I hfu hC (lit_in rfl)
    obtain ⟨v2, J2, e2, q2, h2⟩ := lx_image fu n 0 (1 : Int) J hfu hi hM (lit_in rfl)
    refine bw_mC (as := [.int (iv (1 : Int))]) (d' := 4) hg hc0 mo_S_image lk_Z_141 rfl rfl (Nat.le_of_ble_eq_true rfl) (Nat.le_of_ble_eq_true rfl) rfl rfl (Nat.le_of_ble_eq_true rfl) dw_1180 ⟨(Nat.le_of_ble_eq_true rfl), (Nat.le_of_ble_eq_true rfl)⟩ (t_S_image (l := l) (b := bG b) fu 0 (1 : Int) I hC.1.1 rfl (lit_in rfl) e1) (fun _ => ?_)
    refine bw_pop rfl dw_1183 ?_
    refine bw_aload_n rfl rfl dw_1184 ?_
    refine bw_arg (j := 1) hL hn hi (by decide) (by decide) dw_1185 dw_1186 dw_1187 dw_1188 dw_1189 ?_
    refine bw_if_eq (tgt := 1197) (by decide) dw_1190 (fun e3 => ?_) (fun e3 => ?_)
    · exact absurd e3 e
    · refine bw_iconst (v := iv 1) rfl dw_1193 ?_
      refine bw_goto (tgt := 1198) (by decide) dw_1194 ?_
      refine bw_mM (as := [.int (iv (1 : Int))]) (d' := 2) hg hc0 mo_X_image lk_Z_145 rfl rfl rfl (Nat.le_of_ble_eq_true rfl) (Nat.le_of_ble_eq_true rfl) rfl rfl (Nat.le_of_ble_eq_true rfl) dw_1198 ⟨(Nat.le_of_ble_eq_true rfl), (Nat.le_of_ble_eq_true rfl)⟩ (t_X_image (l := l) (b := bM b) fu 0 (1 : Int) J hM.1.1 rfl (lit_in rfl) e2) (fun _ => ?_)
      refine bw_pop rfl dw_1201 ?_
      exact bw_goto (tgt := 1228) (by decide) dw_1202 (hk I2 J2 h1 h2 (jn_image fu n (1 : Int) hfu hC hM hi (lit_in rfl) e1 e2 hR).1)
theorem law_k31 {n fu : Nat} {I J : IMem} (hfu : 5000000000 < fu) (hg : gp b = 0) (hc0 : ct b = 166) (hL : scL b ≤ 3072) (hn : 6 * n + 6 ≤ scL b) (hi : n < 512) (hC : GI I) (hM : XC 0 n J) (hR : RN n I J) (hk : ∀ I2 J2, GI I2 → XC 0 (n + 1) J2 → RN (n + 1) I2 J2 → BW l b room_1 y_law (KC, ivm I2, RC) (KM, ivm J2, RM) 1228 (LVn n) []) : BW l b room_1 y_law (KC, ivm I, RC) (KM, ivm J, RM) 1205 (LVn n) [] := by
  refine bw_aload_n rfl rfl dw_1205 ?_
  refine bw_arg (j := 1) hL hn hi (by decide) (by decide) dw_1206 dw_1207 dw_1208 dw_1209 dw_1210 ?_
  obtain ⟨v1, I2, e1, q1, h1⟩ := cl_told fu (axX b (6 * n + 1)) I hfu hC ax_in
  refine bw_mC (as := [.int (iv (axX b (6 * n + 1)))]) (d' := 1) hg hc0 mo_S_told lk_Z_146 rfl rfl (Nat.le_of_ble_eq_true rfl) (Nat.le_of_ble_eq_true rfl) rfl rfl (Nat.le_of_ble_eq_true rfl) dw_1211 ⟨(Nat.le_of_ble_eq_true rfl), (Nat.le_of_ble_eq_true rfl)⟩ (t_S_told (l := l) (b := bG b) fu 0 (axX b (6 * n + 1)) I hC.1.1 rfl ax_in e1) (fun _ => ?_)
  refine bw_pop rfl dw_1214 ?_
  refine bw_aload_n rfl rfl dw_1215 ?_
  refine bw_arg (j := 1) hL hn hi (by decide) (by decide) dw_1216 dw_1217 dw_1218 dw_1219 dw_1220 ?_
  obtain ⟨v2, J2, e2, q2, h2⟩ := lx_told fu n 0 (axX b (6 * n + 1)) J hfu hi hM ax_in
  refine bw_mM (as := [.int (iv (axX b (6 * n + 1)))]) (d' := 2) hg hc0 mo_X_told lk_Z_149 rfl rfl rfl (Nat.le_of_ble_eq_true rfl) (Nat.le_of_ble_eq_true rfl) rfl rfl (Nat.le_of_ble_eq_true rfl) dw_1221 ⟨(Nat.le_of_ble_eq_true rfl), (Nat.le_of_ble_eq_true rfl)⟩ (t_X_told (l := l) (b := bM b) fu 0 (axX b (6 * n + 1)) J hM.1.1 rfl ax_in e2) (fun _ => ?_)
  refine bw_pop rfl dw_1224 ?_
  exact bw_goto (tgt := 1228) (by decide) dw_1225 (hk I2 J2 h1 h2 (jn_told fu n (axX b (6 * n + 1)) hfu hC hM hi ax_in e1 e2 hR).1)
end AMZ
