/-! the law's calls, its loop (by program) -/
section LC
variable {G : dh_G} {Z : lZ} {h : dh_H} {j : Nat}
theorem lY_13 : dh_Y R_law 13 8 1 true mX9_feed := ⟨Or.inl (dh_in 315 (by decide +kernel) rfl), (dh_in 318 (by decide +kernel) rfl), (dh_in 1 (by decide +kernel) rfl), by decide, by decide +kernel, by decide, by decide, ⟨(dh_in 316 (by decide +kernel) rfl), (dh_in 317 (by decide +kernel) rfl)⟩⟩
theorem lY_17 : dh_Y R_law 17 8 1 true mX10_feed := ⟨Or.inl (dh_in 878 (by decide +kernel) rfl), (dh_in 881 (by decide +kernel) rfl), (dh_in 11 (by decide +kernel) rfl), by decide, by decide +kernel, by decide, by decide, ⟨(dh_in 879 (by decide +kernel) rfl), (dh_in 880 (by decide +kernel) rfl)⟩⟩
theorem l_c0 (hL : lL Z ≤ 256) (hj : j + 4 ≤ lL Z) (I : Inv h) (nx : ∀ h2, Inv h2 → lJ G Z 937 (nI j) [] h2) : lJ G Z 172 (nI j) [] h := by -- feed
  refine l_ax dL_law_172 ?_
  refine l_arg (kk := 1) (by omega) hL (by decide) dL_law_173 dL_law_174 dL_law_175 dL_law_176 dL_law_177 ?_
  refine l_call1 dL_law_178 lY_13 rfl rfl (Nat.le_of_ble_eq_true rfl) (dh_C_mono (sim_feed I) (fun v h1 hv => ?_))
  obtain ⟨r, rfl, hM⟩ := hv
  refine ⟨r, rfl, ?_⟩
  refine l_am dL_law_181 ?_
  refine l_arg (kk := 1) (by omega) hL (by decide) dL_law_182 dL_law_183 dL_law_184 dL_law_185 dL_law_186 ?_
  refine l_call1 dL_law_187 lY_17 rfl rfl (Nat.le_of_ble_eq_true rfl) (dh_C_mono hM (fun v2 h2 hv2 => ?_))
  obtain ⟨rfl, I2⟩ := hv2
  refine ⟨r, rfl, ?_⟩
  exact l_eq 937 dL_law_190 (by decide) (nx h2 I2)
theorem lY_18 : dh_Y R_law 18 8 0 true mX9_nursery := ⟨Or.inl (dh_in 325 (by decide +kernel) rfl), (dh_in 328 (by decide +kernel) rfl), (dh_in 1 (by decide +kernel) rfl), by decide, by decide +kernel, by decide, by decide, ⟨(dh_in 326 (by decide +kernel) rfl), (dh_in 327 (by decide +kernel) rfl)⟩⟩
theorem lY_22 : dh_Y R_law 22 8 0 true mX10_nursery := ⟨Or.inl (dh_in 887 (by decide +kernel) rfl), (dh_in 890 (by decide +kernel) rfl), (dh_in 11 (by decide +kernel) rfl), by decide, by decide +kernel, by decide, by decide, ⟨(dh_in 888 (by decide +kernel) rfl), (dh_in 889 (by decide +kernel) rfl)⟩⟩
theorem l_c1 (hL : lL Z ≤ 256) (hj : j + 4 ≤ lL Z) (I : Inv h) (nx : ∀ h2, Inv h2 → lJ G Z 937 (nI j) [] h2) : lJ G Z 195 (nI j) [] h := by -- nursery
  refine l_ax dL_law_195 ?_
  refine l_call0 dL_law_196 lY_18 rfl rfl (Nat.le_of_ble_eq_true rfl) (dh_C_mono (sim_nursery I) (fun v h1 hv => ?_))
  obtain ⟨r, rfl, hM⟩ := hv
  refine ⟨r, rfl, ?_⟩
  refine l_am dL_law_199 ?_
  refine l_call0 dL_law_200 lY_22 rfl rfl (Nat.le_of_ble_eq_true rfl) (dh_C_mono hM (fun v2 h2 hv2 => ?_))
  obtain ⟨rfl, I2⟩ := hv2
  refine ⟨r, rfl, ?_⟩
  exact l_eq 937 dL_law_203 (by decide) (nx h2 I2)
theorem lY_23 : dh_Y R_law 23 8 0 true mX9_fault := ⟨Or.inl (dh_in 415 (by decide +kernel) rfl), (dh_in 418 (by decide +kernel) rfl), (dh_in 1 (by decide +kernel) rfl), by decide, by decide +kernel, by decide, by decide, ⟨(dh_in 416 (by decide +kernel) rfl), (dh_in 417 (by decide +kernel) rfl)⟩⟩
theorem lY_26 : dh_Y R_law 26 8 0 true mX10_fault := ⟨Or.inl (dh_in 934 (by decide +kernel) rfl), (dh_in 937 (by decide +kernel) rfl), (dh_in 11 (by decide +kernel) rfl), by decide, by decide +kernel, by decide, by decide, ⟨(dh_in 935 (by decide +kernel) rfl), (dh_in 936 (by decide +kernel) rfl)⟩⟩
theorem l_c2 (hL : lL Z ≤ 256) (hj : j + 4 ≤ lL Z) (I : Inv h) (nx : ∀ h2, Inv h2 → lJ G Z 937 (nI j) [] h2) : lJ G Z 208 (nI j) [] h := by -- fault
  refine l_ax dL_law_208 ?_
  refine l_call0 dL_law_209 lY_23 rfl rfl (Nat.le_of_ble_eq_true rfl) (dh_C_mono (sim_fault I) (fun v h1 hv => ?_))
  obtain ⟨r, rfl, hM⟩ := hv
  refine ⟨r, rfl, ?_⟩
  refine l_am dL_law_212 ?_
  refine l_call0 dL_law_213 lY_26 rfl rfl (Nat.le_of_ble_eq_true rfl) (dh_C_mono hM (fun v2 h2 hv2 => ?_))
  obtain ⟨rfl, I2⟩ := hv2
  refine ⟨r, rfl, ?_⟩
  exact l_eq 937 dL_law_216 (by decide) (nx h2 I2)
theorem lY_27 : dh_Y R_law 27 8 1 true mX9_told := ⟨Or.inl (dh_in 419 (by decide +kernel) rfl), (dh_in 422 (by decide +kernel) rfl), (dh_in 1 (by decide +kernel) rfl), by decide, by decide +kernel, by decide, by decide, ⟨(dh_in 420 (by decide +kernel) rfl), (dh_in 421 (by decide +kernel) rfl)⟩⟩
theorem lY_30 : dh_Y R_law 30 8 1 true mX10_told := ⟨Or.inl (dh_in 938 (by decide +kernel) rfl), (dh_in 941 (by decide +kernel) rfl), (dh_in 11 (by decide +kernel) rfl), by decide, by decide +kernel, by decide, by decide, ⟨(dh_in 939 (by decide +kernel) rfl), (dh_in 940 (by decide +kernel) rfl)⟩⟩
theorem l_c3 (hL : lL Z ≤ 256) (hj : j + 4 ≤ lL Z) (I : Inv h) (nx : ∀ h2, Inv h2 → lJ G Z 937 (nI j) [] h2) : lJ G Z 221 (nI j) [] h := by -- told
  refine l_ax dL_law_221 ?_
  refine l_arg (kk := 1) (by omega) hL (by decide) dL_law_222 dL_law_223 dL_law_224 dL_law_225 dL_law_226 ?_
  refine l_call1 dL_law_227 lY_27 rfl rfl (Nat.le_of_ble_eq_true rfl) (dh_C_mono (sim_told I) (fun v h1 hv => ?_))
  obtain ⟨r, rfl, hM⟩ := hv
  refine ⟨r, rfl, ?_⟩
  refine l_am dL_law_230 ?_
  refine l_arg (kk := 1) (by omega) hL (by decide) dL_law_231 dL_law_232 dL_law_233 dL_law_234 dL_law_235 ?_
  refine l_call1 dL_law_236 lY_30 rfl rfl (Nat.le_of_ble_eq_true rfl) (dh_C_mono hM (fun v2 h2 hv2 => ?_))
  obtain ⟨rfl, I2⟩ := hv2
  refine ⟨r, rfl, ?_⟩
  exact l_eq 937 dL_law_239 (by decide) (nx h2 I2)
theorem lY_31 : dh_Y R_law 31 8 2 true mX9_child := ⟨Or.inl (dh_in 455 (by decide +kernel) rfl), (dh_in 458 (by decide +kernel) rfl), (dh_in 1 (by decide +kernel) rfl), by decide, by decide +kernel, by decide, by decide, ⟨(dh_in 456 (by decide +kernel) rfl), (dh_in 457 (by decide +kernel) rfl)⟩⟩
theorem lY_35 : dh_Y R_law 35 8 2 true mX10_child := ⟨Or.inl (dh_in 966 (by decide +kernel) rfl), (dh_in 969 (by decide +kernel) rfl), (dh_in 11 (by decide +kernel) rfl), by decide, by decide +kernel, by decide, by decide, ⟨(dh_in 967 (by decide +kernel) rfl), (dh_in 968 (by decide +kernel) rfl)⟩⟩
theorem l_c4 (hL : lL Z ≤ 256) (hj : j + 4 ≤ lL Z) (I : Inv h) (nx : ∀ h2, Inv h2 → lJ G Z 937 (nI j) [] h2) : lJ G Z 244 (nI j) [] h := by -- child
  refine l_ax dL_law_244 ?_
  refine l_arg (kk := 1) (by omega) hL (by decide) dL_law_245 dL_law_246 dL_law_247 dL_law_248 dL_law_249 ?_
  refine l_arg (kk := 2) (by omega) hL (by decide) dL_law_250 dL_law_251 dL_law_252 dL_law_253 dL_law_254 ?_
  refine l_call2 dL_law_255 lY_31 rfl rfl (Nat.le_of_ble_eq_true rfl) (dh_C_mono (sim_child I) (fun v h1 hv => ?_))
  obtain ⟨r, rfl, hM⟩ := hv
  refine ⟨r, rfl, ?_⟩
  refine l_am dL_law_258 ?_
  refine l_arg (kk := 1) (by omega) hL (by decide) dL_law_259 dL_law_260 dL_law_261 dL_law_262 dL_law_263 ?_
  refine l_arg (kk := 2) (by omega) hL (by decide) dL_law_264 dL_law_265 dL_law_266 dL_law_267 dL_law_268 ?_
  refine l_call2 dL_law_269 lY_35 rfl rfl (Nat.le_of_ble_eq_true rfl) (dh_C_mono hM (fun v2 h2 hv2 => ?_))
  obtain ⟨rfl, I2⟩ := hv2
  refine ⟨r, rfl, ?_⟩
  exact l_eq 937 dL_law_272 (by decide) (nx h2 I2)
theorem lY_36 : dh_Y R_law 36 8 2 true mX9_dummy := ⟨Or.inl (dh_in 462 (by decide +kernel) rfl), (dh_in 465 (by decide +kernel) rfl), (dh_in 1 (by decide +kernel) rfl), by decide, by decide +kernel, by decide, by decide, ⟨(dh_in 463 (by decide +kernel) rfl), (dh_in 464 (by decide +kernel) rfl)⟩⟩
theorem lY_39 : dh_Y R_law 39 8 2 true mX10_dummy := ⟨Or.inl (dh_in 975 (by decide +kernel) rfl), (dh_in 978 (by decide +kernel) rfl), (dh_in 11 (by decide +kernel) rfl), by decide, by decide +kernel, by decide, by decide, ⟨(dh_in 976 (by decide +kernel) rfl), (dh_in 977 (by decide +kernel) rfl)⟩⟩
theorem l_c5 (hL : lL Z ≤ 256) (hj : j + 4 ≤ lL Z) (I : Inv h) (nx : ∀ h2, Inv h2 → lJ G Z 937 (nI j) [] h2) : lJ G Z 277 (nI j) [] h := by -- dummy
  refine l_ax dL_law_277 ?_
  refine l_arg (kk := 1) (by omega) hL (by decide) dL_law_278 dL_law_279 dL_law_280 dL_law_281 dL_law_282 ?_
  refine l_arg (kk := 2) (by omega) hL (by decide) dL_law_283 dL_law_284 dL_law_285 dL_law_286 dL_law_287 ?_
  refine l_call2 dL_law_288 lY_36 rfl rfl (Nat.le_of_ble_eq_true rfl) (dh_C_mono (sim_dummy I) (fun v h1 hv => ?_))
  obtain ⟨r, rfl, hM⟩ := hv
  refine ⟨r, rfl, ?_⟩
  refine l_am dL_law_291 ?_
  refine l_arg (kk := 1) (by omega) hL (by decide) dL_law_292 dL_law_293 dL_law_294 dL_law_295 dL_law_296 ?_
  refine l_arg (kk := 2) (by omega) hL (by decide) dL_law_297 dL_law_298 dL_law_299 dL_law_300 dL_law_301 ?_
  refine l_call2 dL_law_302 lY_39 rfl rfl (Nat.le_of_ble_eq_true rfl) (dh_C_mono hM (fun v2 h2 hv2 => ?_))
  obtain ⟨rfl, I2⟩ := hv2
  refine ⟨r, rfl, ?_⟩
  exact l_eq 937 dL_law_305 (by decide) (nx h2 I2)
theorem lY_40 : dh_Y R_law 40 8 1 true mX9_hour := ⟨Or.inl (dh_in 477 (by decide +kernel) rfl), (dh_in 480 (by decide +kernel) rfl), (dh_in 1 (by decide +kernel) rfl), by decide, by decide +kernel, by decide, by decide, ⟨(dh_in 478 (by decide +kernel) rfl), (dh_in 479 (by decide +kernel) rfl)⟩⟩
theorem lY_43 : dh_Y R_law 43 8 1 true mX10_hour := ⟨Or.inl (dh_in 990 (by decide +kernel) rfl), (dh_in 993 (by decide +kernel) rfl), (dh_in 11 (by decide +kernel) rfl), by decide, by decide +kernel, by decide, by decide, ⟨(dh_in 991 (by decide +kernel) rfl), (dh_in 992 (by decide +kernel) rfl)⟩⟩
theorem l_c6 (hL : lL Z ≤ 256) (hj : j + 4 ≤ lL Z) (I : Inv h) (nx : ∀ h2, Inv h2 → lJ G Z 937 (nI j) [] h2) : lJ G Z 310 (nI j) [] h := by -- hour
  refine l_ax dL_law_310 ?_
  refine l_arg (kk := 1) (by omega) hL (by decide) dL_law_311 dL_law_312 dL_law_313 dL_law_314 dL_law_315 ?_
  refine l_call1 dL_law_316 lY_40 rfl rfl (Nat.le_of_ble_eq_true rfl) (dh_C_mono (sim_hour I) (fun v h1 hv => ?_))
  obtain ⟨r, rfl, hM⟩ := hv
  refine ⟨r, rfl, ?_⟩
  refine l_am dL_law_319 ?_
  refine l_arg (kk := 1) (by omega) hL (by decide) dL_law_320 dL_law_321 dL_law_322 dL_law_323 dL_law_324 ?_
  refine l_call1 dL_law_325 lY_43 rfl rfl (Nat.le_of_ble_eq_true rfl) (dh_C_mono hM (fun v2 h2 hv2 => ?_))
  obtain ⟨rfl, I2⟩ := hv2
  refine ⟨r, rfl, ?_⟩
  exact l_eq 937 dL_law_328 (by decide) (nx h2 I2)
theorem lY_44 : dh_Y R_law 44 8 2 true mX9_give := ⟨Or.inl (dh_in 506 (by decide +kernel) rfl), (dh_in 509 (by decide +kernel) rfl), (dh_in 1 (by decide +kernel) rfl), by decide, by decide +kernel, by decide, by decide, ⟨(dh_in 507 (by decide +kernel) rfl), (dh_in 508 (by decide +kernel) rfl)⟩⟩
theorem lY_47 : dh_Y R_law 47 8 2 true mX10_give := ⟨Or.inl (dh_in 1007 (by decide +kernel) rfl), (dh_in 1010 (by decide +kernel) rfl), (dh_in 11 (by decide +kernel) rfl), by decide, by decide +kernel, by decide, by decide, ⟨(dh_in 1008 (by decide +kernel) rfl), (dh_in 1009 (by decide +kernel) rfl)⟩⟩
theorem l_c7 (hL : lL Z ≤ 256) (hj : j + 4 ≤ lL Z) (I : Inv h) (nx : ∀ h2, Inv h2 → lJ G Z 937 (nI j) [] h2) : lJ G Z 333 (nI j) [] h := by -- give
  refine l_ax dL_law_333 ?_
  refine l_arg (kk := 1) (by omega) hL (by decide) dL_law_334 dL_law_335 dL_law_336 dL_law_337 dL_law_338 ?_
  refine l_arg (kk := 2) (by omega) hL (by decide) dL_law_339 dL_law_340 dL_law_341 dL_law_342 dL_law_343 ?_
  refine l_call2 dL_law_344 lY_44 rfl rfl (Nat.le_of_ble_eq_true rfl) (dh_C_mono (sim_give I) (fun v h1 hv => ?_))
  obtain ⟨r, rfl, hM⟩ := hv
  refine ⟨r, rfl, ?_⟩
  refine l_am dL_law_347 ?_
  refine l_arg (kk := 1) (by omega) hL (by decide) dL_law_348 dL_law_349 dL_law_350 dL_law_351 dL_law_352 ?_
  refine l_arg (kk := 2) (by omega) hL (by decide) dL_law_353 dL_law_354 dL_law_355 dL_law_356 dL_law_357 ?_
  refine l_call2 dL_law_358 lY_47 rfl rfl (Nat.le_of_ble_eq_true rfl) (dh_C_mono hM (fun v2 h2 hv2 => ?_))
  obtain ⟨rfl, I2⟩ := hv2
  refine ⟨r, rfl, ?_⟩
  exact l_eq 937 dL_law_361 (by decide) (nx h2 I2)
theorem lY_48 : dh_Y R_law 48 8 1 true mX9_drop := ⟨Or.inl (dh_in 525 (by decide +kernel) rfl), (dh_in 528 (by decide +kernel) rfl), (dh_in 1 (by decide +kernel) rfl), by decide, by decide +kernel, by decide, by decide, ⟨(dh_in 526 (by decide +kernel) rfl), (dh_in 527 (by decide +kernel) rfl)⟩⟩
theorem lY_51 : dh_Y R_law 51 8 1 true mX10_drop := ⟨Or.inl (dh_in 1019 (by decide +kernel) rfl), (dh_in 1022 (by decide +kernel) rfl), (dh_in 11 (by decide +kernel) rfl), by decide, by decide +kernel, by decide, by decide, ⟨(dh_in 1020 (by decide +kernel) rfl), (dh_in 1021 (by decide +kernel) rfl)⟩⟩
theorem l_c8 (hL : lL Z ≤ 256) (hj : j + 4 ≤ lL Z) (I : Inv h) (nx : ∀ h2, Inv h2 → lJ G Z 937 (nI j) [] h2) : lJ G Z 366 (nI j) [] h := by -- drop
  refine l_ax dL_law_366 ?_
  refine l_arg (kk := 1) (by omega) hL (by decide) dL_law_367 dL_law_368 dL_law_369 dL_law_370 dL_law_371 ?_
  refine l_call1 dL_law_372 lY_48 rfl rfl (Nat.le_of_ble_eq_true rfl) (dh_C_mono (sim_drop I) (fun v h1 hv => ?_))
  obtain ⟨r, rfl, hM⟩ := hv
  refine ⟨r, rfl, ?_⟩
  refine l_am dL_law_375 ?_
  refine l_arg (kk := 1) (by omega) hL (by decide) dL_law_376 dL_law_377 dL_law_378 dL_law_379 dL_law_380 ?_
  refine l_call1 dL_law_381 lY_51 rfl rfl (Nat.le_of_ble_eq_true rfl) (dh_C_mono hM (fun v2 h2 hv2 => ?_))
  obtain ⟨rfl, I2⟩ := hv2
  refine ⟨r, rfl, ?_⟩
  exact l_eq 937 dL_law_384 (by decide) (nx h2 I2)
theorem lY_52 : dh_Y R_law 52 8 1 true mX9_pick := ⟨Or.inl (dh_in 529 (by decide +kernel) rfl), (dh_in 532 (by decide +kernel) rfl), (dh_in 1 (by decide +kernel) rfl), by decide, by decide +kernel, by decide, by decide, ⟨(dh_in 530 (by decide +kernel) rfl), (dh_in 531 (by decide +kernel) rfl)⟩⟩
theorem lY_55 : dh_Y R_law 55 8 1 true mX10_pick := ⟨Or.inl (dh_in 1027 (by decide +kernel) rfl), (dh_in 1030 (by decide +kernel) rfl), (dh_in 11 (by decide +kernel) rfl), by decide, by decide +kernel, by decide, by decide, ⟨(dh_in 1028 (by decide +kernel) rfl), (dh_in 1029 (by decide +kernel) rfl)⟩⟩
theorem l_c9 (hL : lL Z ≤ 256) (hj : j + 4 ≤ lL Z) (I : Inv h) (nx : ∀ h2, Inv h2 → lJ G Z 937 (nI j) [] h2) : lJ G Z 389 (nI j) [] h := by -- pick
  refine l_ax dL_law_389 ?_
  refine l_arg (kk := 1) (by omega) hL (by decide) dL_law_390 dL_law_391 dL_law_392 dL_law_393 dL_law_394 ?_
  refine l_call1 dL_law_395 lY_52 rfl rfl (Nat.le_of_ble_eq_true rfl) (dh_C_mono (sim_pick I) (fun v h1 hv => ?_))
  obtain ⟨r, rfl, hM⟩ := hv
  refine ⟨r, rfl, ?_⟩
  refine l_am dL_law_398 ?_
  refine l_arg (kk := 1) (by omega) hL (by decide) dL_law_399 dL_law_400 dL_law_401 dL_law_402 dL_law_403 ?_
  refine l_call1 dL_law_404 lY_55 rfl rfl (Nat.le_of_ble_eq_true rfl) (dh_C_mono hM (fun v2 h2 hv2 => ?_))
  obtain ⟨rfl, I2⟩ := hv2
  refine ⟨r, rfl, ?_⟩
  exact l_eq 937 dL_law_407 (by decide) (nx h2 I2)
theorem lY_56 : dh_Y R_law 56 8 0 true mX9_boil := ⟨Or.inl (dh_in 533 (by decide +kernel) rfl), (dh_in 536 (by decide +kernel) rfl), (dh_in 1 (by decide +kernel) rfl), by decide, by decide +kernel, by decide, by decide, ⟨(dh_in 534 (by decide +kernel) rfl), (dh_in 535 (by decide +kernel) rfl)⟩⟩
theorem lY_59 : dh_Y R_law 59 8 0 true mX10_boil := ⟨Or.inl (dh_in 1031 (by decide +kernel) rfl), (dh_in 1034 (by decide +kernel) rfl), (dh_in 11 (by decide +kernel) rfl), by decide, by decide +kernel, by decide, by decide, ⟨(dh_in 1032 (by decide +kernel) rfl), (dh_in 1033 (by decide +kernel) rfl)⟩⟩
theorem l_c10 (hL : lL Z ≤ 256) (hj : j + 4 ≤ lL Z) (I : Inv h) (nx : ∀ h2, Inv h2 → lJ G Z 937 (nI j) [] h2) : lJ G Z 412 (nI j) [] h := by -- boil
  refine l_ax dL_law_412 ?_
  refine l_call0 dL_law_413 lY_56 rfl rfl (Nat.le_of_ble_eq_true rfl) (dh_C_mono (sim_boil I) (fun v h1 hv => ?_))
  obtain ⟨r, rfl, hM⟩ := hv
  refine ⟨r, rfl, ?_⟩
  refine l_am dL_law_416 ?_
  refine l_call0 dL_law_417 lY_59 rfl rfl (Nat.le_of_ble_eq_true rfl) (dh_C_mono hM (fun v2 h2 hv2 => ?_))
  obtain ⟨rfl, I2⟩ := hv2
  refine ⟨r, rfl, ?_⟩
  exact l_eq 937 dL_law_420 (by decide) (nx h2 I2)
theorem lY_60 : dh_Y R_law 60 8 1 true mX9_cold := ⟨Or.inl (dh_in 541 (by decide +kernel) rfl), (dh_in 544 (by decide +kernel) rfl), (dh_in 1 (by decide +kernel) rfl), by decide, by decide +kernel, by decide, by decide, ⟨(dh_in 542 (by decide +kernel) rfl), (dh_in 543 (by decide +kernel) rfl)⟩⟩
theorem lY_63 : dh_Y R_law 63 8 1 true mX10_cold := ⟨Or.inl (dh_in 1035 (by decide +kernel) rfl), (dh_in 1038 (by decide +kernel) rfl), (dh_in 11 (by decide +kernel) rfl), by decide, by decide +kernel, by decide, by decide, ⟨(dh_in 1036 (by decide +kernel) rfl), (dh_in 1037 (by decide +kernel) rfl)⟩⟩
theorem l_c11 (hL : lL Z ≤ 256) (hj : j + 4 ≤ lL Z) (I : Inv h) (nx : ∀ h2, Inv h2 → lJ G Z 937 (nI j) [] h2) : lJ G Z 425 (nI j) [] h := by -- cold
  refine l_ax dL_law_425 ?_
  refine l_arg (kk := 1) (by omega) hL (by decide) dL_law_426 dL_law_427 dL_law_428 dL_law_429 dL_law_430 ?_
  refine l_call1 dL_law_431 lY_60 rfl rfl (Nat.le_of_ble_eq_true rfl) (dh_C_mono (sim_cold I) (fun v h1 hv => ?_))
  obtain ⟨r, rfl, hM⟩ := hv
  refine ⟨r, rfl, ?_⟩
  refine l_am dL_law_434 ?_
  refine l_arg (kk := 1) (by omega) hL (by decide) dL_law_435 dL_law_436 dL_law_437 dL_law_438 dL_law_439 ?_
  refine l_call1 dL_law_440 lY_63 rfl rfl (Nat.le_of_ble_eq_true rfl) (dh_C_mono hM (fun v2 h2 hv2 => ?_))
  obtain ⟨rfl, I2⟩ := hv2
  refine ⟨r, rfl, ?_⟩
  exact l_eq 937 dL_law_443 (by decide) (nx h2 I2)
theorem lY_64 : dh_Y R_law 64 8 1 true mX9_drift := ⟨Or.inl (dh_in 545 (by decide +kernel) rfl), (dh_in 548 (by decide +kernel) rfl), (dh_in 1 (by decide +kernel) rfl), by decide, by decide +kernel, by decide, by decide, ⟨(dh_in 546 (by decide +kernel) rfl), (dh_in 547 (by decide +kernel) rfl)⟩⟩
theorem lY_67 : dh_Y R_law 67 8 1 true mX10_drift := ⟨Or.inl (dh_in 1039 (by decide +kernel) rfl), (dh_in 1042 (by decide +kernel) rfl), (dh_in 11 (by decide +kernel) rfl), by decide, by decide +kernel, by decide, by decide, ⟨(dh_in 1040 (by decide +kernel) rfl), (dh_in 1041 (by decide +kernel) rfl)⟩⟩
theorem l_c12 (hL : lL Z ≤ 256) (hj : j + 4 ≤ lL Z) (I : Inv h) (nx : ∀ h2, Inv h2 → lJ G Z 937 (nI j) [] h2) : lJ G Z 448 (nI j) [] h := by -- drift
  refine l_ax dL_law_448 ?_
  refine l_arg (kk := 1) (by omega) hL (by decide) dL_law_449 dL_law_450 dL_law_451 dL_law_452 dL_law_453 ?_
  refine l_call1 dL_law_454 lY_64 rfl rfl (Nat.le_of_ble_eq_true rfl) (dh_C_mono (sim_drift I) (fun v h1 hv => ?_))
  obtain ⟨r, rfl, hM⟩ := hv
  refine ⟨r, rfl, ?_⟩
  refine l_am dL_law_457 ?_
  refine l_arg (kk := 1) (by omega) hL (by decide) dL_law_458 dL_law_459 dL_law_460 dL_law_461 dL_law_462 ?_
  refine l_call1 dL_law_463 lY_67 rfl rfl (Nat.le_of_ble_eq_true rfl) (dh_C_mono hM (fun v2 h2 hv2 => ?_))
  obtain ⟨rfl, I2⟩ := hv2
  refine ⟨r, rfl, ?_⟩
  exact l_eq 937 dL_law_466 (by decide) (nx h2 I2)
theorem lY_68 : dh_Y R_law 68 8 0 true mX9_undo := ⟨Or.inl (dh_in 561 (by decide +kernel) rfl), (dh_in 564 (by decide +kernel) rfl), (dh_in 1 (by decide +kernel) rfl), by decide, by decide +kernel, by decide, by decide, ⟨(dh_in 562 (by decide +kernel) rfl), (dh_in 563 (by decide +kernel) rfl)⟩⟩
theorem lY_71 : dh_Y R_law 71 8 0 true mX10_undo := ⟨Or.inl (dh_in 1055 (by decide +kernel) rfl), (dh_in 1058 (by decide +kernel) rfl), (dh_in 11 (by decide +kernel) rfl), by decide, by decide +kernel, by decide, by decide, ⟨(dh_in 1056 (by decide +kernel) rfl), (dh_in 1057 (by decide +kernel) rfl)⟩⟩
theorem l_c13 (hL : lL Z ≤ 256) (hj : j + 4 ≤ lL Z) (I : Inv h) (nx : ∀ h2, Inv h2 → lJ G Z 937 (nI j) [] h2) : lJ G Z 471 (nI j) [] h := by -- undo
  refine l_ax dL_law_471 ?_
  refine l_call0 dL_law_472 lY_68 rfl rfl (Nat.le_of_ble_eq_true rfl) (dh_C_mono (sim_undo I) (fun v h1 hv => ?_))
  obtain ⟨r, rfl, hM⟩ := hv
  refine ⟨r, rfl, ?_⟩
  refine l_am dL_law_475 ?_
  refine l_call0 dL_law_476 lY_71 rfl rfl (Nat.le_of_ble_eq_true rfl) (dh_C_mono hM (fun v2 h2 hv2 => ?_))
  obtain ⟨rfl, I2⟩ := hv2
  refine ⟨r, rfl, ?_⟩
  exact l_eq 937 dL_law_479 (by decide) (nx h2 I2)
theorem lY_72 : dh_Y R_law 72 8 2 true mX9_mostCalm := ⟨Or.inl (dh_in 573 (by decide +kernel) rfl), (dh_in 576 (by decide +kernel) rfl), (dh_in 1 (by decide +kernel) rfl), by decide, by decide +kernel, by decide, by decide, ⟨(dh_in 574 (by decide +kernel) rfl), (dh_in 575 (by decide +kernel) rfl)⟩⟩
theorem lY_76 : dh_Y R_law 76 8 2 true mX10_mostCalm := ⟨Or.inl (dh_in 1059 (by decide +kernel) rfl), (dh_in 1062 (by decide +kernel) rfl), (dh_in 11 (by decide +kernel) rfl), by decide, by decide +kernel, by decide, by decide, ⟨(dh_in 1060 (by decide +kernel) rfl), (dh_in 1061 (by decide +kernel) rfl)⟩⟩
theorem l_c14 (hL : lL Z ≤ 256) (hj : j + 4 ≤ lL Z) (I : Inv h) (nx : ∀ h2, Inv h2 → lJ G Z 937 (nI j) [] h2) : lJ G Z 484 (nI j) [] h := by -- mostCalm
  refine l_ax dL_law_484 ?_
  refine l_arg (kk := 1) (by omega) hL (by decide) dL_law_485 dL_law_486 dL_law_487 dL_law_488 dL_law_489 ?_
  refine l_bool dL_law_490 (tgt := 497) (by decide) dL_law_493 dL_law_494 (tg2 := 498) (by decide) dL_law_497 rfl ?_
  refine l_arg (kk := 2) (by omega) hL (by decide) dL_law_498 dL_law_499 dL_law_500 dL_law_501 dL_law_502 ?_
  refine l_call2 dL_law_503 lY_72 rfl rfl (Nat.le_of_ble_eq_true rfl) (dh_C_mono (sim_mostCalm I) (fun v h1 hv => ?_))
  obtain ⟨r, rfl, hM⟩ := hv
  refine ⟨r, rfl, ?_⟩
  refine l_am dL_law_506 ?_
  refine l_arg (kk := 1) (by omega) hL (by decide) dL_law_507 dL_law_508 dL_law_509 dL_law_510 dL_law_511 ?_
  refine l_bool dL_law_512 (tgt := 519) (by decide) dL_law_515 dL_law_516 (tg2 := 520) (by decide) dL_law_519 rfl ?_
  refine l_arg (kk := 2) (by omega) hL (by decide) dL_law_520 dL_law_521 dL_law_522 dL_law_523 dL_law_524 ?_
  refine l_call2 dL_law_525 lY_76 rfl rfl (Nat.le_of_ble_eq_true rfl) (dh_C_mono hM (fun v2 h2 hv2 => ?_))
  obtain ⟨rfl, I2⟩ := hv2
  refine ⟨r, rfl, ?_⟩
  exact l_eq 937 dL_law_528 (by decide) (nx h2 I2)
theorem lY_77 : dh_Y R_law 77 8 1 true mX9_trades := ⟨Or.inl (dh_in 607 (by decide +kernel) rfl), (dh_in 610 (by decide +kernel) rfl), (dh_in 1 (by decide +kernel) rfl), by decide, by decide +kernel, by decide, by decide, ⟨(dh_in 608 (by decide +kernel) rfl), (dh_in 609 (by decide +kernel) rfl)⟩⟩
theorem lY_80 : dh_Y R_law 80 8 1 true mX10_trades := ⟨Or.inl (dh_in 1071 (by decide +kernel) rfl), (dh_in 1074 (by decide +kernel) rfl), (dh_in 11 (by decide +kernel) rfl), by decide, by decide +kernel, by decide, by decide, ⟨(dh_in 1072 (by decide +kernel) rfl), (dh_in 1073 (by decide +kernel) rfl)⟩⟩
theorem l_c15 (hL : lL Z ≤ 256) (hj : j + 4 ≤ lL Z) (I : Inv h) (nx : ∀ h2, Inv h2 → lJ G Z 937 (nI j) [] h2) : lJ G Z 533 (nI j) [] h := by -- trades
  refine l_ax dL_law_533 ?_
  refine l_arg (kk := 1) (by omega) hL (by decide) dL_law_534 dL_law_535 dL_law_536 dL_law_537 dL_law_538 ?_
  refine l_call1 dL_law_539 lY_77 rfl rfl (Nat.le_of_ble_eq_true rfl) (dh_C_mono (sim_trades I) (fun v h1 hv => ?_))
  obtain ⟨r, rfl, hM⟩ := hv
  refine ⟨r, rfl, ?_⟩
  refine l_am dL_law_542 ?_
  refine l_arg (kk := 1) (by omega) hL (by decide) dL_law_543 dL_law_544 dL_law_545 dL_law_546 dL_law_547 ?_
  refine l_call1 dL_law_548 lY_80 rfl rfl (Nat.le_of_ble_eq_true rfl) (dh_C_mono hM (fun v2 h2 hv2 => ?_))
  obtain ⟨rfl, I2⟩ := hv2
  refine ⟨r, rfl, ?_⟩
  exact l_eq 937 dL_law_551 (by decide) (nx h2 I2)
theorem lY_81 : dh_Y R_law 81 8 1 true mX9_wants := ⟨Or.inl (dh_in 619 (by decide +kernel) rfl), (dh_in 622 (by decide +kernel) rfl), (dh_in 1 (by decide +kernel) rfl), by decide, by decide +kernel, by decide, by decide, ⟨(dh_in 620 (by decide +kernel) rfl), (dh_in 621 (by decide +kernel) rfl)⟩⟩
theorem lY_84 : dh_Y R_law 84 8 1 true mX10_wants := ⟨Or.inl (dh_in 1075 (by decide +kernel) rfl), (dh_in 1078 (by decide +kernel) rfl), (dh_in 11 (by decide +kernel) rfl), by decide, by decide +kernel, by decide, by decide, ⟨(dh_in 1076 (by decide +kernel) rfl), (dh_in 1077 (by decide +kernel) rfl)⟩⟩
theorem l_c16 (hL : lL Z ≤ 256) (hj : j + 4 ≤ lL Z) (I : Inv h) (nx : ∀ h2, Inv h2 → lJ G Z 937 (nI j) [] h2) : lJ G Z 556 (nI j) [] h := by -- wants
  refine l_ax dL_law_556 ?_
  refine l_arg (kk := 1) (by omega) hL (by decide) dL_law_557 dL_law_558 dL_law_559 dL_law_560 dL_law_561 ?_
  refine l_call1 dL_law_562 lY_81 rfl rfl (Nat.le_of_ble_eq_true rfl) (dh_C_mono (sim_wants I) (fun v h1 hv => ?_))
  obtain ⟨r, rfl, hM⟩ := hv
  refine ⟨r, rfl, ?_⟩
  refine l_am dL_law_565 ?_
  refine l_arg (kk := 1) (by omega) hL (by decide) dL_law_566 dL_law_567 dL_law_568 dL_law_569 dL_law_570 ?_
  refine l_call1 dL_law_571 lY_84 rfl rfl (Nat.le_of_ble_eq_true rfl) (dh_C_mono hM (fun v2 h2 hv2 => ?_))
  obtain ⟨rfl, I2⟩ := hv2
  refine ⟨r, rfl, ?_⟩
  exact l_eq 937 dL_law_574 (by decide) (nx h2 I2)
theorem lY_85 : dh_Y R_law 85 8 1 true mX9_wanted := ⟨Or.inl (dh_in 623 (by decide +kernel) rfl), (dh_in 626 (by decide +kernel) rfl), (dh_in 1 (by decide +kernel) rfl), by decide, by decide +kernel, by decide, by decide, ⟨(dh_in 624 (by decide +kernel) rfl), (dh_in 625 (by decide +kernel) rfl)⟩⟩
theorem lY_88 : dh_Y R_law 88 8 1 true mX10_wanted := ⟨Or.inl (dh_in 1079 (by decide +kernel) rfl), (dh_in 1082 (by decide +kernel) rfl), (dh_in 11 (by decide +kernel) rfl), by decide, by decide +kernel, by decide, by decide, ⟨(dh_in 1080 (by decide +kernel) rfl), (dh_in 1081 (by decide +kernel) rfl)⟩⟩
theorem l_c17 (hL : lL Z ≤ 256) (hj : j + 4 ≤ lL Z) (I : Inv h) (nx : ∀ h2, Inv h2 → lJ G Z 937 (nI j) [] h2) : lJ G Z 579 (nI j) [] h := by -- wanted
  refine l_ax dL_law_579 ?_
  refine l_arg (kk := 1) (by omega) hL (by decide) dL_law_580 dL_law_581 dL_law_582 dL_law_583 dL_law_584 ?_
  refine l_call1 dL_law_585 lY_85 rfl rfl (Nat.le_of_ble_eq_true rfl) (dh_C_mono (sim_wanted I) (fun v h1 hv => ?_))
  obtain ⟨r, rfl, hM⟩ := hv
  refine ⟨r, rfl, ?_⟩
  refine l_am dL_law_588 ?_
  refine l_arg (kk := 1) (by omega) hL (by decide) dL_law_589 dL_law_590 dL_law_591 dL_law_592 dL_law_593 ?_
  refine l_call1 dL_law_594 lY_88 rfl rfl (Nat.le_of_ble_eq_true rfl) (dh_C_mono hM (fun v2 h2 hv2 => ?_))
  obtain ⟨rfl, I2⟩ := hv2
  refine ⟨r, rfl, ?_⟩
  exact l_eq 937 dL_law_597 (by decide) (nx h2 I2)
theorem lY_89 : dh_Y R_law 89 8 3 true mX9_lost := ⟨Or.inl (dh_in 627 (by decide +kernel) rfl), (dh_in 630 (by decide +kernel) rfl), (dh_in 1 (by decide +kernel) rfl), by decide, by decide +kernel, by decide, by decide, ⟨(dh_in 628 (by decide +kernel) rfl), (dh_in 629 (by decide +kernel) rfl)⟩⟩
theorem lY_93 : dh_Y R_law 93 8 3 true mX10_lost := ⟨Or.inl (dh_in 1083 (by decide +kernel) rfl), (dh_in 1086 (by decide +kernel) rfl), (dh_in 11 (by decide +kernel) rfl), by decide, by decide +kernel, by decide, by decide, ⟨(dh_in 1084 (by decide +kernel) rfl), (dh_in 1085 (by decide +kernel) rfl)⟩⟩
theorem l_c18 (hL : lL Z ≤ 256) (hj : j + 4 ≤ lL Z) (I : Inv h) (nx : ∀ h2, Inv h2 → lJ G Z 937 (nI j) [] h2) : lJ G Z 602 (nI j) [] h := by -- lost
  refine l_ax dL_law_602 ?_
  refine l_arg (kk := 1) (by omega) hL (by decide) dL_law_603 dL_law_604 dL_law_605 dL_law_606 dL_law_607 ?_
  refine l_arg (kk := 2) (by omega) hL (by decide) dL_law_608 dL_law_609 dL_law_610 dL_law_611 dL_law_612 ?_
  refine l_arg (kk := 3) (by omega) hL (by decide) dL_law_613 dL_law_614 dL_law_615 dL_law_616 dL_law_617 ?_
  refine l_call3 dL_law_618 lY_89 rfl rfl (Nat.le_of_ble_eq_true rfl) (dh_C_mono (sim_lost I) (fun v h1 hv => ?_))
  obtain ⟨r, rfl, hM⟩ := hv
  refine ⟨r, rfl, ?_⟩
  refine l_am dL_law_621 ?_
  refine l_arg (kk := 1) (by omega) hL (by decide) dL_law_622 dL_law_623 dL_law_624 dL_law_625 dL_law_626 ?_
  refine l_arg (kk := 2) (by omega) hL (by decide) dL_law_627 dL_law_628 dL_law_629 dL_law_630 dL_law_631 ?_
  refine l_arg (kk := 3) (by omega) hL (by decide) dL_law_632 dL_law_633 dL_law_634 dL_law_635 dL_law_636 ?_
  refine l_call3 dL_law_637 lY_93 rfl rfl (Nat.le_of_ble_eq_true rfl) (dh_C_mono hM (fun v2 h2 hv2 => ?_))
  obtain ⟨rfl, I2⟩ := hv2
  refine ⟨r, rfl, ?_⟩
  exact l_eq 937 dL_law_640 (by decide) (nx h2 I2)
theorem lY_94 : dh_Y R_law 94 8 1 true mX9_spares := ⟨Or.inl (dh_in 636 (by decide +kernel) rfl), (dh_in 639 (by decide +kernel) rfl), (dh_in 1 (by decide +kernel) rfl), by decide, by decide +kernel, by decide, by decide, ⟨(dh_in 637 (by decide +kernel) rfl), (dh_in 638 (by decide +kernel) rfl)⟩⟩
theorem lY_97 : dh_Y R_law 97 8 1 true mX10_spares := ⟨Or.inl (dh_in 1089 (by decide +kernel) rfl), (dh_in 1092 (by decide +kernel) rfl), (dh_in 11 (by decide +kernel) rfl), by decide, by decide +kernel, by decide, by decide, ⟨(dh_in 1090 (by decide +kernel) rfl), (dh_in 1091 (by decide +kernel) rfl)⟩⟩
theorem l_c19 (hL : lL Z ≤ 256) (hj : j + 4 ≤ lL Z) (I : Inv h) (nx : ∀ h2, Inv h2 → lJ G Z 937 (nI j) [] h2) : lJ G Z 645 (nI j) [] h := by -- spares
  refine l_ax dL_law_645 ?_
  refine l_arg (kk := 1) (by omega) hL (by decide) dL_law_646 dL_law_647 dL_law_648 dL_law_649 dL_law_650 ?_
  refine l_call1 dL_law_651 lY_94 rfl rfl (Nat.le_of_ble_eq_true rfl) (dh_C_mono (sim_spares I) (fun v h1 hv => ?_))
  obtain ⟨r, rfl, hM⟩ := hv
  refine ⟨r, rfl, ?_⟩
  refine l_am dL_law_654 ?_
  refine l_arg (kk := 1) (by omega) hL (by decide) dL_law_655 dL_law_656 dL_law_657 dL_law_658 dL_law_659 ?_
  refine l_call1 dL_law_660 lY_97 rfl rfl (Nat.le_of_ble_eq_true rfl) (dh_C_mono hM (fun v2 h2 hv2 => ?_))
  obtain ⟨rfl, I2⟩ := hv2
  refine ⟨r, rfl, ?_⟩
  exact l_eq 937 dL_law_663 (by decide) (nx h2 I2)
theorem lY_98 : dh_Y R_law 98 8 1 true mX9_off := ⟨Or.inl (dh_in 640 (by decide +kernel) rfl), (dh_in 643 (by decide +kernel) rfl), (dh_in 1 (by decide +kernel) rfl), by decide, by decide +kernel, by decide, by decide, ⟨(dh_in 641 (by decide +kernel) rfl), (dh_in 642 (by decide +kernel) rfl)⟩⟩
theorem lY_101 : dh_Y R_law 101 8 1 true mX10_off := ⟨Or.inl (dh_in 1093 (by decide +kernel) rfl), (dh_in 1096 (by decide +kernel) rfl), (dh_in 11 (by decide +kernel) rfl), by decide, by decide +kernel, by decide, by decide, ⟨(dh_in 1094 (by decide +kernel) rfl), (dh_in 1095 (by decide +kernel) rfl)⟩⟩
theorem l_c20 (hL : lL Z ≤ 256) (hj : j + 4 ≤ lL Z) (I : Inv h) (nx : ∀ h2, Inv h2 → lJ G Z 937 (nI j) [] h2) : lJ G Z 668 (nI j) [] h := by -- off
  refine l_ax dL_law_668 ?_
  refine l_arg (kk := 1) (by omega) hL (by decide) dL_law_669 dL_law_670 dL_law_671 dL_law_672 dL_law_673 ?_
  refine l_call1 dL_law_674 lY_98 rfl rfl (Nat.le_of_ble_eq_true rfl) (dh_C_mono (sim_off I) (fun v h1 hv => ?_))
  obtain ⟨r, rfl, hM⟩ := hv
  refine ⟨r, rfl, ?_⟩
  refine l_am dL_law_677 ?_
  refine l_arg (kk := 1) (by omega) hL (by decide) dL_law_678 dL_law_679 dL_law_680 dL_law_681 dL_law_682 ?_
  refine l_call1 dL_law_683 lY_101 rfl rfl (Nat.le_of_ble_eq_true rfl) (dh_C_mono hM (fun v2 h2 hv2 => ?_))
  obtain ⟨rfl, I2⟩ := hv2
  refine ⟨r, rfl, ?_⟩
  exact l_eq 937 dL_law_686 (by decide) (nx h2 I2)
theorem lY_102 : dh_Y R_law 102 8 1 true mX9_quiet := ⟨Or.inl (dh_in 644 (by decide +kernel) rfl), (dh_in 647 (by decide +kernel) rfl), (dh_in 1 (by decide +kernel) rfl), by decide, by decide +kernel, by decide, by decide, ⟨(dh_in 645 (by decide +kernel) rfl), (dh_in 646 (by decide +kernel) rfl)⟩⟩
theorem lY_105 : dh_Y R_law 105 8 1 true mX10_quiet := ⟨Or.inl (dh_in 1097 (by decide +kernel) rfl), (dh_in 1100 (by decide +kernel) rfl), (dh_in 11 (by decide +kernel) rfl), by decide, by decide +kernel, by decide, by decide, ⟨(dh_in 1098 (by decide +kernel) rfl), (dh_in 1099 (by decide +kernel) rfl)⟩⟩
theorem l_c21 (hL : lL Z ≤ 256) (hj : j + 4 ≤ lL Z) (I : Inv h) (nx : ∀ h2, Inv h2 → lJ G Z 937 (nI j) [] h2) : lJ G Z 691 (nI j) [] h := by -- quiet
  refine l_ax dL_law_691 ?_
  refine l_arg (kk := 1) (by omega) hL (by decide) dL_law_692 dL_law_693 dL_law_694 dL_law_695 dL_law_696 ?_
  refine l_call1 dL_law_697 lY_102 rfl rfl (Nat.le_of_ble_eq_true rfl) (dh_C_mono (sim_quiet I) (fun v h1 hv => ?_))
  obtain ⟨r, rfl, hM⟩ := hv
  refine ⟨r, rfl, ?_⟩
  refine l_am dL_law_700 ?_
  refine l_arg (kk := 1) (by omega) hL (by decide) dL_law_701 dL_law_702 dL_law_703 dL_law_704 dL_law_705 ?_
  refine l_call1 dL_law_706 lY_105 rfl rfl (Nat.le_of_ble_eq_true rfl) (dh_C_mono hM (fun v2 h2 hv2 => ?_))
  obtain ⟨rfl, I2⟩ := hv2
  refine ⟨r, rfl, ?_⟩
  exact l_eq 937 dL_law_709 (by decide) (nx h2 I2)
theorem lY_106 : dh_Y R_law 106 8 3 true mX9_trial := ⟨Or.inl (dh_in 648 (by decide +kernel) rfl), (dh_in 651 (by decide +kernel) rfl), (dh_in 1 (by decide +kernel) rfl), by decide, by decide +kernel, by decide, by decide, ⟨(dh_in 649 (by decide +kernel) rfl), (dh_in 650 (by decide +kernel) rfl)⟩⟩
theorem lY_110 : dh_Y R_law 110 8 3 true mX10_trial := ⟨Or.inl (dh_in 1101 (by decide +kernel) rfl), (dh_in 1104 (by decide +kernel) rfl), (dh_in 11 (by decide +kernel) rfl), by decide, by decide +kernel, by decide, by decide, ⟨(dh_in 1102 (by decide +kernel) rfl), (dh_in 1103 (by decide +kernel) rfl)⟩⟩
theorem l_c22 (hL : lL Z ≤ 256) (hj : j + 4 ≤ lL Z) (I : Inv h) (nx : ∀ h2, Inv h2 → lJ G Z 937 (nI j) [] h2) : lJ G Z 714 (nI j) [] h := by -- trial
  refine l_ax dL_law_714 ?_
  refine l_arg (kk := 1) (by omega) hL (by decide) dL_law_715 dL_law_716 dL_law_717 dL_law_718 dL_law_719 ?_
  refine l_arg (kk := 2) (by omega) hL (by decide) dL_law_720 dL_law_721 dL_law_722 dL_law_723 dL_law_724 ?_
  refine l_arg (kk := 3) (by omega) hL (by decide) dL_law_725 dL_law_726 dL_law_727 dL_law_728 dL_law_729 ?_
  refine l_bool dL_law_730 (tgt := 737) (by decide) dL_law_733 dL_law_734 (tg2 := 738) (by decide) dL_law_737 rfl ?_
  refine l_call3 dL_law_738 lY_106 rfl rfl (Nat.le_of_ble_eq_true rfl) (dh_C_mono (sim_trial (lz_01 _) I) (fun v h1 hv => ?_))
  obtain ⟨r, rfl, hM⟩ := hv
  refine ⟨r, rfl, ?_⟩
  refine l_am dL_law_741 ?_
  refine l_arg (kk := 1) (by omega) hL (by decide) dL_law_742 dL_law_743 dL_law_744 dL_law_745 dL_law_746 ?_
  refine l_arg (kk := 2) (by omega) hL (by decide) dL_law_747 dL_law_748 dL_law_749 dL_law_750 dL_law_751 ?_
  refine l_arg (kk := 3) (by omega) hL (by decide) dL_law_752 dL_law_753 dL_law_754 dL_law_755 dL_law_756 ?_
  refine l_bool dL_law_757 (tgt := 764) (by decide) dL_law_760 dL_law_761 (tg2 := 765) (by decide) dL_law_764 rfl ?_
  refine l_call3 dL_law_765 lY_110 rfl rfl (Nat.le_of_ble_eq_true rfl) (dh_C_mono hM (fun v2 h2 hv2 => ?_))
  obtain ⟨rfl, I2⟩ := hv2
  refine ⟨r, rfl, ?_⟩
  exact l_eq 937 dL_law_768 (by decide) (nx h2 I2)
theorem lY_111 : dh_Y R_law 111 8 1 true mX9_whose := ⟨Or.inl (dh_in 656 (by decide +kernel) rfl), (dh_in 659 (by decide +kernel) rfl), (dh_in 1 (by decide +kernel) rfl), by decide, by decide +kernel, by decide, by decide, ⟨(dh_in 657 (by decide +kernel) rfl), (dh_in 658 (by decide +kernel) rfl)⟩⟩
theorem lY_114 : dh_Y R_law 114 8 1 true mX10_whose := ⟨Or.inl (dh_in 1105 (by decide +kernel) rfl), (dh_in 1108 (by decide +kernel) rfl), (dh_in 11 (by decide +kernel) rfl), by decide, by decide +kernel, by decide, by decide, ⟨(dh_in 1106 (by decide +kernel) rfl), (dh_in 1107 (by decide +kernel) rfl)⟩⟩
theorem l_c23 (hL : lL Z ≤ 256) (hj : j + 4 ≤ lL Z) (I : Inv h) (nx : ∀ h2, Inv h2 → lJ G Z 937 (nI j) [] h2) : lJ G Z 773 (nI j) [] h := by -- whose
  refine l_ax dL_law_773 ?_
  refine l_arg (kk := 1) (by omega) hL (by decide) dL_law_774 dL_law_775 dL_law_776 dL_law_777 dL_law_778 ?_
  refine l_call1 dL_law_779 lY_111 rfl rfl (Nat.le_of_ble_eq_true rfl) (dh_C_mono (sim_whose I) (fun v h1 hv => ?_))
  obtain ⟨r, rfl, hM⟩ := hv
  refine ⟨r, rfl, ?_⟩
  refine l_am dL_law_782 ?_
  refine l_arg (kk := 1) (by omega) hL (by decide) dL_law_783 dL_law_784 dL_law_785 dL_law_786 dL_law_787 ?_
  refine l_call1 dL_law_788 lY_114 rfl rfl (Nat.le_of_ble_eq_true rfl) (dh_C_mono hM (fun v2 h2 hv2 => ?_))
  obtain ⟨rfl, I2⟩ := hv2
  refine ⟨r, rfl, ?_⟩
  exact l_eq 937 dL_law_791 (by decide) (nx h2 I2)
theorem lY_115 : dh_Y R_law 115 8 0 true mX9_next := ⟨Or.inl (dh_in 694 (by decide +kernel) rfl), (dh_in 697 (by decide +kernel) rfl), (dh_in 1 (by decide +kernel) rfl), by decide, by decide +kernel, by decide, by decide, ⟨(dh_in 695 (by decide +kernel) rfl), (dh_in 696 (by decide +kernel) rfl)⟩⟩
theorem lY_118 : dh_Y R_law 118 8 0 true mX10_next := ⟨Or.inl (dh_in 1117 (by decide +kernel) rfl), (dh_in 1120 (by decide +kernel) rfl), (dh_in 11 (by decide +kernel) rfl), by decide, by decide +kernel, by decide, by decide, ⟨(dh_in 1118 (by decide +kernel) rfl), (dh_in 1119 (by decide +kernel) rfl)⟩⟩
theorem l_c24 (hL : lL Z ≤ 256) (hj : j + 4 ≤ lL Z) (I : Inv h) (nx : ∀ h2, Inv h2 → lJ G Z 937 (nI j) [] h2) : lJ G Z 796 (nI j) [] h := by -- next
  refine l_ax dL_law_796 ?_
  refine l_call0 dL_law_797 lY_115 rfl rfl (Nat.le_of_ble_eq_true rfl) (dh_C_mono (sim_next I) (fun v h1 hv => ?_))
  obtain ⟨r, rfl, hM⟩ := hv
  refine ⟨r, rfl, ?_⟩
  refine l_am dL_law_800 ?_
  refine l_call0 dL_law_801 lY_118 rfl rfl (Nat.le_of_ble_eq_true rfl) (dh_C_mono hM (fun v2 h2 hv2 => ?_))
  obtain ⟨rfl, I2⟩ := hv2
  refine ⟨r, rfl, ?_⟩
  exact l_eq 937 dL_law_804 (by decide) (nx h2 I2)
theorem lY_119 : dh_Y R_law 119 8 2 true mX9_write := ⟨Or.inl (dh_in 707 (by decide +kernel) rfl), (dh_in 710 (by decide +kernel) rfl), (dh_in 1 (by decide +kernel) rfl), by decide, by decide +kernel, by decide, by decide, ⟨(dh_in 708 (by decide +kernel) rfl), (dh_in 709 (by decide +kernel) rfl)⟩⟩
theorem lY_122 : dh_Y R_law 122 8 2 true mX10_write := ⟨Or.inl (dh_in 1121 (by decide +kernel) rfl), (dh_in 1124 (by decide +kernel) rfl), (dh_in 11 (by decide +kernel) rfl), by decide, by decide +kernel, by decide, by decide, ⟨(dh_in 1122 (by decide +kernel) rfl), (dh_in 1123 (by decide +kernel) rfl)⟩⟩
theorem l_c25 (hL : lL Z ≤ 256) (hj : j + 4 ≤ lL Z) (I : Inv h) (nx : ∀ h2, Inv h2 → lJ G Z 937 (nI j) [] h2) : lJ G Z 809 (nI j) [] h := by -- write
  refine l_ax dL_law_809 ?_
  refine l_arg (kk := 1) (by omega) hL (by decide) dL_law_810 dL_law_811 dL_law_812 dL_law_813 dL_law_814 ?_
  refine l_arg (kk := 2) (by omega) hL (by decide) dL_law_815 dL_law_816 dL_law_817 dL_law_818 dL_law_819 ?_
  refine l_call2 dL_law_820 lY_119 rfl rfl (Nat.le_of_ble_eq_true rfl) (dh_C_mono (sim_write I) (fun v h1 hv => ?_))
  obtain ⟨r, rfl, hM⟩ := hv
  refine ⟨r, rfl, ?_⟩
  refine l_am dL_law_823 ?_
  refine l_arg (kk := 1) (by omega) hL (by decide) dL_law_824 dL_law_825 dL_law_826 dL_law_827 dL_law_828 ?_
  refine l_arg (kk := 2) (by omega) hL (by decide) dL_law_829 dL_law_830 dL_law_831 dL_law_832 dL_law_833 ?_
  refine l_call2 dL_law_834 lY_122 rfl rfl (Nat.le_of_ble_eq_true rfl) (dh_C_mono hM (fun v2 h2 hv2 => ?_))
  obtain ⟨rfl, I2⟩ := hv2
  refine ⟨r, rfl, ?_⟩
  exact l_eq 937 dL_law_837 (by decide) (nx h2 I2)
theorem lY_123 : dh_Y R_law 123 8 0 true mX9_tear := ⟨Or.inl (dh_in 715 (by decide +kernel) rfl), (dh_in 718 (by decide +kernel) rfl), (dh_in 1 (by decide +kernel) rfl), by decide, by decide +kernel, by decide, by decide, ⟨(dh_in 716 (by decide +kernel) rfl), (dh_in 717 (by decide +kernel) rfl)⟩⟩
theorem lY_126 : dh_Y R_law 126 8 0 true mX10_tear := ⟨Or.inl (dh_in 1125 (by decide +kernel) rfl), (dh_in 1128 (by decide +kernel) rfl), (dh_in 11 (by decide +kernel) rfl), by decide, by decide +kernel, by decide, by decide, ⟨(dh_in 1126 (by decide +kernel) rfl), (dh_in 1127 (by decide +kernel) rfl)⟩⟩
theorem l_c26 (hL : lL Z ≤ 256) (hj : j + 4 ≤ lL Z) (I : Inv h) (nx : ∀ h2, Inv h2 → lJ G Z 937 (nI j) [] h2) : lJ G Z 842 (nI j) [] h := by -- tear
  refine l_ax dL_law_842 ?_
  refine l_call0 dL_law_843 lY_123 rfl rfl (Nat.le_of_ble_eq_true rfl) (dh_C_mono (sim_tear I) (fun v h1 hv => ?_))
  obtain ⟨r, rfl, hM⟩ := hv
  refine ⟨r, rfl, ?_⟩
  refine l_am dL_law_846 ?_
  refine l_call0 dL_law_847 lY_126 rfl rfl (Nat.le_of_ble_eq_true rfl) (dh_C_mono hM (fun v2 h2 hv2 => ?_))
  obtain ⟨rfl, I2⟩ := hv2
  refine ⟨r, rfl, ?_⟩
  exact l_eq 937 dL_law_850 (by decide) (nx h2 I2)
theorem lY_127 : dh_Y R_law 127 8 0 true mX9_judge := ⟨Or.inl (dh_in 719 (by decide +kernel) rfl), (dh_in 722 (by decide +kernel) rfl), (dh_in 1 (by decide +kernel) rfl), by decide, by decide +kernel, by decide, by decide, ⟨(dh_in 720 (by decide +kernel) rfl), (dh_in 721 (by decide +kernel) rfl)⟩⟩
theorem lY_130 : dh_Y R_law 130 8 0 true mX10_judge := ⟨Or.inl (dh_in 1129 (by decide +kernel) rfl), (dh_in 1132 (by decide +kernel) rfl), (dh_in 11 (by decide +kernel) rfl), by decide, by decide +kernel, by decide, by decide, ⟨(dh_in 1130 (by decide +kernel) rfl), (dh_in 1131 (by decide +kernel) rfl)⟩⟩
theorem l_c27 (hL : lL Z ≤ 256) (hj : j + 4 ≤ lL Z) (I : Inv h) (nx : ∀ h2, Inv h2 → lJ G Z 937 (nI j) [] h2) : lJ G Z 855 (nI j) [] h := by -- judge
  refine l_ax dL_law_855 ?_
  refine l_call0 dL_law_856 lY_127 rfl rfl (Nat.le_of_ble_eq_true rfl) (dh_C_mono (sim_judge I) (fun v h1 hv => ?_))
  obtain ⟨r, rfl, hM⟩ := hv
  refine ⟨r, rfl, ?_⟩
  refine l_am dL_law_859 ?_
  refine l_call0 dL_law_860 lY_130 rfl rfl (Nat.le_of_ble_eq_true rfl) (dh_C_mono hM (fun v2 h2 hv2 => ?_))
  obtain ⟨rfl, I2⟩ := hv2
  refine ⟨r, rfl, ?_⟩
  exact l_eq 937 dL_law_863 (by decide) (nx h2 I2)
theorem lY_131 : dh_Y R_law 131 8 1 true mX9_seed := ⟨Or.inl (dh_in 728 (by decide +kernel) rfl), (dh_in 731 (by decide +kernel) rfl), (dh_in 1 (by decide +kernel) rfl), by decide, by decide +kernel, by decide, by decide, ⟨(dh_in 729 (by decide +kernel) rfl), (dh_in 730 (by decide +kernel) rfl)⟩⟩
theorem lY_134 : dh_Y R_law 134 8 1 true mX10_seed := ⟨Or.inl (dh_in 1133 (by decide +kernel) rfl), (dh_in 1136 (by decide +kernel) rfl), (dh_in 11 (by decide +kernel) rfl), by decide, by decide +kernel, by decide, by decide, ⟨(dh_in 1134 (by decide +kernel) rfl), (dh_in 1135 (by decide +kernel) rfl)⟩⟩
theorem l_c28 (hL : lL Z ≤ 256) (hj : j + 4 ≤ lL Z) (I : Inv h) (nx : ∀ h2, Inv h2 → lJ G Z 937 (nI j) [] h2) : lJ G Z 868 (nI j) [] h := by -- seed
  refine l_ax dL_law_868 ?_
  refine l_arg (kk := 1) (by omega) hL (by decide) dL_law_869 dL_law_870 dL_law_871 dL_law_872 dL_law_873 ?_
  refine l_call1 dL_law_874 lY_131 rfl rfl (Nat.le_of_ble_eq_true rfl) (dh_C_mono (sim_seed I) (fun v h1 hv => ?_))
  obtain ⟨r, rfl, hM⟩ := hv
  refine ⟨r, rfl, ?_⟩
  refine l_am dL_law_877 ?_
  refine l_arg (kk := 1) (by omega) hL (by decide) dL_law_878 dL_law_879 dL_law_880 dL_law_881 dL_law_882 ?_
  refine l_call1 dL_law_883 lY_134 rfl rfl (Nat.le_of_ble_eq_true rfl) (dh_C_mono hM (fun v2 h2 hv2 => ?_))
  obtain ⟨rfl, I2⟩ := hv2
  refine ⟨r, rfl, ?_⟩
  exact l_eq 937 dL_law_886 (by decide) (nx h2 I2)
theorem lY_135 : dh_Y R_law 135 8 1 true mX9_keep := ⟨Or.inl (dh_in 732 (by decide +kernel) rfl), (dh_in 735 (by decide +kernel) rfl), (dh_in 1 (by decide +kernel) rfl), by decide, by decide +kernel, by decide, by decide, ⟨(dh_in 733 (by decide +kernel) rfl), (dh_in 734 (by decide +kernel) rfl)⟩⟩
theorem lY_138 : dh_Y R_law 138 8 1 true mX10_keep := ⟨Or.inl (dh_in 1137 (by decide +kernel) rfl), (dh_in 1140 (by decide +kernel) rfl), (dh_in 11 (by decide +kernel) rfl), by decide, by decide +kernel, by decide, by decide, ⟨(dh_in 1138 (by decide +kernel) rfl), (dh_in 1139 (by decide +kernel) rfl)⟩⟩
theorem l_c29 (hL : lL Z ≤ 256) (hj : j + 4 ≤ lL Z) (I : Inv h) (nx : ∀ h2, Inv h2 → lJ G Z 937 (nI j) [] h2) : lJ G Z 891 (nI j) [] h := by -- keep
  refine l_ax dL_law_891 ?_
  refine l_arg (kk := 1) (by omega) hL (by decide) dL_law_892 dL_law_893 dL_law_894 dL_law_895 dL_law_896 ?_
  refine l_call1 dL_law_897 lY_135 rfl rfl (Nat.le_of_ble_eq_true rfl) (dh_C_mono (sim_keep I) (fun v h1 hv => ?_))
  obtain ⟨r, rfl, hM⟩ := hv
  refine ⟨r, rfl, ?_⟩
  refine l_am dL_law_900 ?_
  refine l_arg (kk := 1) (by omega) hL (by decide) dL_law_901 dL_law_902 dL_law_903 dL_law_904 dL_law_905 ?_
  refine l_call1 dL_law_906 lY_138 rfl rfl (Nat.le_of_ble_eq_true rfl) (dh_C_mono hM (fun v2 h2 hv2 => ?_))
  obtain ⟨rfl, I2⟩ := hv2
  refine ⟨r, rfl, ?_⟩
  exact l_eq 937 dL_law_909 (by decide) (nx h2 I2)
theorem lY_139 : dh_Y R_law 139 8 1 true mX9_goBack := ⟨Or.inl (dh_in 745 (by decide +kernel) rfl), (dh_in 748 (by decide +kernel) rfl), (dh_in 1 (by decide +kernel) rfl), by decide, by decide +kernel, by decide, by decide, ⟨(dh_in 746 (by decide +kernel) rfl), (dh_in 747 (by decide +kernel) rfl)⟩⟩
theorem lY_142 : dh_Y R_law 142 8 1 true mX10_goBack := ⟨Or.inl (dh_in 1141 (by decide +kernel) rfl), (dh_in 1144 (by decide +kernel) rfl), (dh_in 11 (by decide +kernel) rfl), by decide, by decide +kernel, by decide, by decide, ⟨(dh_in 1142 (by decide +kernel) rfl), (dh_in 1143 (by decide +kernel) rfl)⟩⟩
theorem l_c30 (hL : lL Z ≤ 256) (hj : j + 4 ≤ lL Z) (I : Inv h) (nx : ∀ h2, Inv h2 → lJ G Z 937 (nI j) [] h2) : lJ G Z 914 (nI j) [] h := by -- goBack
  refine l_ax dL_law_914 ?_
  refine l_arg (kk := 1) (by omega) hL (by decide) dL_law_915 dL_law_916 dL_law_917 dL_law_918 dL_law_919 ?_
  refine l_call1 dL_law_920 lY_139 rfl rfl (Nat.le_of_ble_eq_true rfl) (dh_C_mono (sim_goBack I) (fun v h1 hv => ?_))
  obtain ⟨r, rfl, hM⟩ := hv
  refine ⟨r, rfl, ?_⟩
  refine l_am dL_law_923 ?_
  refine l_arg (kk := 1) (by omega) hL (by decide) dL_law_924 dL_law_925 dL_law_926 dL_law_927 dL_law_928 ?_
  refine l_call1 dL_law_929 lY_142 rfl rfl (Nat.le_of_ble_eq_true rfl) (dh_C_mono hM (fun v2 h2 hv2 => ?_))
  obtain ⟨rfl, I2⟩ := hv2
  refine ⟨r, rfl, ?_⟩
  exact l_eq 937 dL_law_932 (by decide) (nx h2 I2)
theorem l_sw {a : Int32} (hL : lL Z ≤ 256) (hj : j + 4 ≤ lL Z) (I : Inv h) (nx : ∀ h2, Inv h2 → lJ G Z 937 (nI j) [] h2) : lJ G Z 32 (nI j) [.int a] h := by
  by_cases hx : a.toInt < 0 ∨ 30 < a.toInt
  · exact l_out 937 dL_law_32 hx (by decide) (nx h I)
  · obtain ⟨i, hi, e⟩ := dh_tab (n := 30) (by decide) hx
    match i, hi, e with
    | 0, _, e =>
      subst e
      exact l_in (off := 140) 172 dL_law_32 (fun q => hx (Or.inl q)) (fun q => hx (Or.inr q)) (by decide +kernel) (by decide) (l_c0 hL hj I nx)
    | 1, _, e =>
      subst e
      exact l_in (off := 163) 195 dL_law_32 (fun q => hx (Or.inl q)) (fun q => hx (Or.inr q)) (by decide +kernel) (by decide) (l_c1 hL hj I nx)
    | 2, _, e =>
      subst e
      exact l_in (off := 176) 208 dL_law_32 (fun q => hx (Or.inl q)) (fun q => hx (Or.inr q)) (by decide +kernel) (by decide) (l_c2 hL hj I nx)
    | 3, _, e =>
      subst e
      exact l_in (off := 189) 221 dL_law_32 (fun q => hx (Or.inl q)) (fun q => hx (Or.inr q)) (by decide +kernel) (by decide) (l_c3 hL hj I nx)
    | 4, _, e =>
      subst e
      exact l_in (off := 212) 244 dL_law_32 (fun q => hx (Or.inl q)) (fun q => hx (Or.inr q)) (by decide +kernel) (by decide) (l_c4 hL hj I nx)
    | 5, _, e =>
      subst e
      exact l_in (off := 245) 277 dL_law_32 (fun q => hx (Or.inl q)) (fun q => hx (Or.inr q)) (by decide +kernel) (by decide) (l_c5 hL hj I nx)
    | 6, _, e =>
      subst e
      exact l_in (off := 278) 310 dL_law_32 (fun q => hx (Or.inl q)) (fun q => hx (Or.inr q)) (by decide +kernel) (by decide) (l_c6 hL hj I nx)
    | 7, _, e =>
      subst e
      exact l_in (off := 301) 333 dL_law_32 (fun q => hx (Or.inl q)) (fun q => hx (Or.inr q)) (by decide +kernel) (by decide) (l_c7 hL hj I nx)
    | 8, _, e =>
      subst e
      exact l_in (off := 334) 366 dL_law_32 (fun q => hx (Or.inl q)) (fun q => hx (Or.inr q)) (by decide +kernel) (by decide) (l_c8 hL hj I nx)
    | 9, _, e =>
      subst e
      exact l_in (off := 357) 389 dL_law_32 (fun q => hx (Or.inl q)) (fun q => hx (Or.inr q)) (by decide +kernel) (by decide) (l_c9 hL hj I nx)
    | 10, _, e =>
      subst e
      exact l_in (off := 380) 412 dL_law_32 (fun q => hx (Or.inl q)) (fun q => hx (Or.inr q)) (by decide +kernel) (by decide) (l_c10 hL hj I nx)
    | 11, _, e =>
      subst e
      exact l_in (off := 393) 425 dL_law_32 (fun q => hx (Or.inl q)) (fun q => hx (Or.inr q)) (by decide +kernel) (by decide) (l_c11 hL hj I nx)
    | 12, _, e =>
      subst e
      exact l_in (off := 416) 448 dL_law_32 (fun q => hx (Or.inl q)) (fun q => hx (Or.inr q)) (by decide +kernel) (by decide) (l_c12 hL hj I nx)
    | 13, _, e =>
      subst e
      exact l_in (off := 439) 471 dL_law_32 (fun q => hx (Or.inl q)) (fun q => hx (Or.inr q)) (by decide +kernel) (by decide) (l_c13 hL hj I nx)
    | 14, _, e =>
      subst e
      exact l_in (off := 452) 484 dL_law_32 (fun q => hx (Or.inl q)) (fun q => hx (Or.inr q)) (by decide +kernel) (by decide) (l_c14 hL hj I nx)
    | 15, _, e =>
      subst e
      exact l_in (off := 501) 533 dL_law_32 (fun q => hx (Or.inl q)) (fun q => hx (Or.inr q)) (by decide +kernel) (by decide) (l_c15 hL hj I nx)
    | 16, _, e =>
      subst e
      exact l_in (off := 524) 556 dL_law_32 (fun q => hx (Or.inl q)) (fun q => hx (Or.inr q)) (by decide +kernel) (by decide) (l_c16 hL hj I nx)
    | 17, _, e =>
      subst e
      exact l_in (off := 547) 579 dL_law_32 (fun q => hx (Or.inl q)) (fun q => hx (Or.inr q)) (by decide +kernel) (by decide) (l_c17 hL hj I nx)
    | 18, _, e =>
      subst e
      exact l_in (off := 570) 602 dL_law_32 (fun q => hx (Or.inl q)) (fun q => hx (Or.inr q)) (by decide +kernel) (by decide) (l_c18 hL hj I nx)
    | 19, _, e =>
      subst e
      exact l_in (off := 613) 645 dL_law_32 (fun q => hx (Or.inl q)) (fun q => hx (Or.inr q)) (by decide +kernel) (by decide) (l_c19 hL hj I nx)
    | 20, _, e =>
      subst e
      exact l_in (off := 636) 668 dL_law_32 (fun q => hx (Or.inl q)) (fun q => hx (Or.inr q)) (by decide +kernel) (by decide) (l_c20 hL hj I nx)
    | 21, _, e =>
      subst e
      exact l_in (off := 659) 691 dL_law_32 (fun q => hx (Or.inl q)) (fun q => hx (Or.inr q)) (by decide +kernel) (by decide) (l_c21 hL hj I nx)
    | 22, _, e =>
      subst e
      exact l_in (off := 682) 714 dL_law_32 (fun q => hx (Or.inl q)) (fun q => hx (Or.inr q)) (by decide +kernel) (by decide) (l_c22 hL hj I nx)
    | 23, _, e =>
      subst e
      exact l_in (off := 741) 773 dL_law_32 (fun q => hx (Or.inl q)) (fun q => hx (Or.inr q)) (by decide +kernel) (by decide) (l_c23 hL hj I nx)
    | 24, _, e =>
      subst e
      exact l_in (off := 764) 796 dL_law_32 (fun q => hx (Or.inl q)) (fun q => hx (Or.inr q)) (by decide +kernel) (by decide) (l_c24 hL hj I nx)
    | 25, _, e =>
      subst e
      exact l_in (off := 777) 809 dL_law_32 (fun q => hx (Or.inl q)) (fun q => hx (Or.inr q)) (by decide +kernel) (by decide) (l_c25 hL hj I nx)
    | 26, _, e =>
      subst e
      exact l_in (off := 810) 842 dL_law_32 (fun q => hx (Or.inl q)) (fun q => hx (Or.inr q)) (by decide +kernel) (by decide) (l_c26 hL hj I nx)
    | 27, _, e =>
      subst e
      exact l_in (off := 823) 855 dL_law_32 (fun q => hx (Or.inl q)) (fun q => hx (Or.inr q)) (by decide +kernel) (by decide) (l_c27 hL hj I nx)
    | 28, _, e =>
      subst e
      exact l_in (off := 836) 868 dL_law_32 (fun q => hx (Or.inl q)) (fun q => hx (Or.inr q)) (by decide +kernel) (by decide) (l_c28 hL hj I nx)
    | 29, _, e =>
      subst e
      exact l_in (off := 859) 891 dL_law_32 (fun q => hx (Or.inl q)) (fun q => hx (Or.inr q)) (by decide +kernel) (by decide) (l_c29 hL hj I nx)
    | 30, _, e =>
      subst e
      exact l_in (off := 882) 914 dL_law_32 (fun q => hx (Or.inl q)) (fun q => hx (Or.inr q)) (by decide +kernel) (by decide) (l_c30 hL hj I nx)
    | i + 31, hi, _ => exact absurd hi (by omega)
theorem l_loop (hL : lL Z ≤ 256) (n : Nat) : ∀ (j : Nat) (h : dh_H), j ≤ lL Z + 4 → lL Z + 4 - j ≤ n → Inv h → lJ G Z 18 (nI j) [] h := by
  induction n with
  | zero =>
    intro j h h1 h2 I
    refine l_i3 dL_law_18 (l_a0 dL_law_19 (l_len dL_law_20 (l_iconst (nI 4) dL_law_21 (by decide) (l_isub dL_law_22 ?_))))
    refine l_gt 943 dL_law_23 (by decide) (fun _ => l_iconst 1 dL_law_943 (by decide) (l_ret dL_law_944)) (fun q => ?_)
    rw [Int32.lt_iff_toInt_lt, pk_sub_toInt (by omega) (by decide), nI_toInt (by omega)] at q
    omega
  | succ n ih =>
    intro j h h1 h2 I
    refine l_i3 dL_law_18 (l_a0 dL_law_19 (l_len dL_law_20 (l_iconst (nI 4) dL_law_21 (by decide) (l_isub dL_law_22 ?_))))
    refine l_gt 943 dL_law_23 (by decide) (fun _ => l_iconst 1 dL_law_943 (by decide) (l_ret dL_law_944)) (fun q => ?_)
    rw [Int32.lt_iff_toInt_lt, pk_sub_toInt (by omega) (by decide), nI_toInt (by omega)] at q
    have hj : j + 4 ≤ lL Z := by omega
    refine l_a0 dL_law_26 (l_i3 dL_law_27 (l_ld (vp_in_nI (by omega) (by omega)) dL_law_28 (l_bipush (nI 31) dL_law_29 (by decide) (l_iand dL_law_31 ?_))))
    refine l_sw hL hj I (fun h2 I2 => l_iinc (nI (j + 4)) dL_law_937 ?_ (l_goto 18 dL_law_940 (by decide) (ih (j + 4) h2 (by omega) (by omega) I2)))
    exact nI_add j 4
end LC
