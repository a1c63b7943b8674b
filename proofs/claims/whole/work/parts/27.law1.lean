/-! the law, by cases -/
section Law
variable {G : Gx} {I : (Nat → Nat → Int32) → Prop} {mm : Nat → Nat → Int32} {lm : Nat → Int64} {o : Ou} {a b k : Nat}
theorem law_0 (hk : k + 5 < Gn G) (hL : Gn G < 2 ^ 31) (hop : OpW G I M_L_append M_X10_append [.int (Gs G (k + 1)), .int (Gs G (k + 2)), .int (Gs G (k + 3)), .int (Gs G (k + 4)), .int (Gs G (k + 5))] cmpI) (hI : I mm) (hc : ∀ mm2 l1, I mm2 → ∃ z, J G M_L_law 23 [(4, .int (nI k + 6)), (3, .ref 85), (2, .ref 63), (1, .ref 0), (0, .ref 1000)] [] (SH, mm2, l1) false o z false a b) :
    ∃ z, J G M_L_law 248 [(4, .int (nI k)), (3, .ref 85), (2, .ref 63), (1, .ref 0), (0, .ref 1000)] [] (SH, mm, lm) false o z false (a + 1) (b + 6) := by
  obtain ⟨kk, mm1, l1, bb, mm2, h1, h2, h3, h4, h5⟩ := hop mm lm hI
  obtain ⟨z, hz⟩ := hc mm2 l1 h5
  refine ⟨z, ?_⟩
  refine J_aload_n rfl (i := 1) rfl dL_law_248 ?_
  refine J_aload_n rfl (i := 0) rfl dL_law_249 ?_
  refine J_iload (i := 4) rfl dL_law_250 ?_
  refine J_iconst (v := 1) (by decide) dL_law_252 ?_
  refine J_iadd dL_law_253 ?_
  refine J_sld (nI_add k 1) (by omega) hL dL_law_254 ?_
  refine J_aload_n rfl (i := 0) rfl dL_law_255 ?_
  refine J_iload (i := 4) rfl dL_law_256 ?_
  refine J_iconst (v := 2) (by decide) dL_law_258 ?_
  refine J_iadd dL_law_259 ?_
  refine J_sld (nI_add k 2) (by omega) hL dL_law_260 ?_
  refine J_aload_n rfl (i := 0) rfl dL_law_261 ?_
  refine J_iload (i := 4) rfl dL_law_262 ?_
  refine J_iconst (v := 3) (by decide) dL_law_264 ?_
  refine J_iadd dL_law_265 ?_
  refine J_sld (nI_add k 3) (by omega) hL dL_law_266 ?_
  refine J_aload_n rfl (i := 0) rfl dL_law_267 ?_
  refine J_iload (i := 4) rfl dL_law_268 ?_
  refine J_iconst (v := 4) (by decide) dL_law_270 ?_
  refine J_iadd dL_law_271 ?_
  refine J_sld (nI_add k 4) (by omega) hL dL_law_272 ?_
  refine J_aload_n rfl (i := 0) rfl dL_law_273 ?_
  refine J_iload (i := 4) rfl dL_law_274 ?_
  refine J_iconst (v := 5) (by decide) dL_law_276 ?_
  refine J_iadd dL_law_277 ?_
  refine J_sld (nI_add k 5) (by omega) hL dL_law_278 ?_
  refine J_aload_n rfl (i := 3) rfl dL_law_279 ?_
  refine J_callSH (Mc := M_L_append) (as := [.ref 0, .int (Gs G (k + 1)), .int (Gs G (k + 2)), .int (Gs G (k + 3)), .int (Gs G (k + 4)), .int (Gs G (k + 5)), .ref 85]) (st := []) rfl gw_622 gw_107 ⟨by decide, by decide⟩ gw_621 gw_620 ⟨by decide, by decide⟩ cnt_L_append rfl (Nat.le_of_ble_eq_true rfl) dL_law_280 (Nat.add_comm a 1) (Nat.add_comm b 6) h1 ?_
  refine J_istore [(5, .int kk), (4, .int (nI k)), (3, .ref 85), (2, .ref 63), (1, .ref 0), (0, .ref 1000)] (i := 5) (by decide) rfl dL_law_283 ?_
  refine J_aload_n rfl (i := 2) rfl dL_law_285 ?_
  refine J_aload_n rfl (i := 0) rfl dL_law_286 ?_
  refine J_iload (i := 4) rfl dL_law_287 ?_
  refine J_iconst (v := 1) (by decide) dL_law_289 ?_
  refine J_iadd dL_law_290 ?_
  refine J_sld (nI_add k 1) (by omega) hL dL_law_291 ?_
  refine J_aload_n rfl (i := 0) rfl dL_law_292 ?_
  refine J_iload (i := 4) rfl dL_law_293 ?_
  refine J_iconst (v := 2) (by decide) dL_law_295 ?_
  refine J_iadd dL_law_296 ?_
  refine J_sld (nI_add k 2) (by omega) hL dL_law_297 ?_
  refine J_aload_n rfl (i := 0) rfl dL_law_298 ?_
  refine J_iload (i := 4) rfl dL_law_299 ?_
  refine J_iconst (v := 3) (by decide) dL_law_301 ?_
  refine J_iadd dL_law_302 ?_
  refine J_sld (nI_add k 3) (by omega) hL dL_law_303 ?_
  refine J_aload_n rfl (i := 0) rfl dL_law_304 ?_
  refine J_iload (i := 4) rfl dL_law_305 ?_
  refine J_iconst (v := 4) (by decide) dL_law_307 ?_
  refine J_iadd dL_law_308 ?_
  refine J_sld (nI_add k 4) (by omega) hL dL_law_309 ?_
  refine J_aload_n rfl (i := 0) rfl dL_law_310 ?_
  refine J_iload (i := 4) rfl dL_law_311 ?_
  refine J_iconst (v := 5) (by decide) dL_law_313 ?_
  refine J_iadd dL_law_314 ?_
  refine J_sld (nI_add k 5) (by omega) hL dL_law_315 ?_
  refine J_callV (as := [.int (Gs G (k + 1)), .int (Gs G (k + 2)), .int (Gs G (k + 3)), .int (Gs G (k + 4)), .int (Gs G (k + 5))]) (k := 63) (st := []) cal_X10_append cai_X10_append gw_1561 ⟨by decide, by decide⟩ cnt_X10_append sh_63 rfl rfl (Nat.le_of_ble_eq_true rfl) dL_law_316 (Nat.zero_add _).symm (Nat.zero_add _).symm h2 ?_
  refine J_istore [(6, .int bb), (5, .int kk), (4, .int (nI k)), (3, .ref 85), (2, .ref 63), (1, .ref 0), (0, .ref 1000)] (i := 6) (by decide) rfl dL_law_319 ?_
  refine J_aload_n rfl (i := 2) rfl dL_law_321 ?_
  refine J_callV (as := []) (k := 63) (st := []) cal_X10_thrown cai_X10_thrown gw_1557 ⟨by decide, by decide⟩ cnt_X10_thrown sh_63 rfl rfl (Nat.le_of_ble_eq_true rfl) dL_law_322 (Nat.zero_add _).symm (Nat.zero_add _).symm th_hyp ?_
  refine J_iload (i := 5) rfl dL_law_325 ?_
  refine J_icmp_eq (tgt := 332) dL_law_327 (by decide) (fun _ => ?_) (fun hn => absurd h3 hn)
  refine J_iload (i := 5) rfl dL_law_332 ?_
  refine J_if_ne (tgt := 349) dL_law_334 (by decide) (fun _ => ?_) (fun h0 => ?_)
  · refine J_goto (tgt := 3001) dL_law_349 (by decide) ?_
    refine J_iinc [(4, .int (nI k + 6)), (6, .int bb), (5, .int kk), (3, .ref 85), (2, .ref 63), (1, .ref 0), (0, .ref 1000)] (i := 4) (v := nI k + 6) rfl rfl (by decide) rfl dL_law_3001 ?_
    refine J_goto (tgt := 23) dL_law_3004 (by decide) ?_
    exact J_sub [0, 3, 4, 5, 6] rfl hz
  · refine J_aload_n rfl (i := 3) rfl dL_law_337 ?_
    refine J_iconst (v := 0) (by decide) dL_law_338 ?_
    refine J_lald sh_85 (by unfold vp_in; decide) dL_law_339 ?_
    refine J_iload (i := 6) rfl dL_law_340 ?_
    refine J_i2l dL_law_342 ?_
    refine J_lcmp dL_law_343 ?_
    refine J_if_eq (tgt := 349) dL_law_344 (by decide) (fun _ => ?_) (fun hn => absurd ((lg_cmp_eq _ _).mpr (h4 h0)) hn)
    refine J_goto (tgt := 3001) dL_law_349 (by decide) ?_
    refine J_iinc [(4, .int (nI k + 6)), (6, .int bb), (5, .int kk), (3, .ref 85), (2, .ref 63), (1, .ref 0), (0, .ref 1000)] (i := 4) (v := nI k + 6) rfl rfl (by decide) rfl dL_law_3001 ?_
    refine J_goto (tgt := 23) dL_law_3004 (by decide) ?_
    exact J_sub [0, 3, 4, 5, 6] rfl hz
theorem law_1 (hk : k + 5 < Gn G) (hL : Gn G < 2 ^ 31) (hop : OpW G I M_L_truncate M_X10_truncate [.int (Gs G (k + 1))] cmpI) (hI : I mm) (hc : ∀ mm2 l1, I mm2 → ∃ z, J G M_L_law 23 [(4, .int (nI k + 6)), (3, .ref 85), (2, .ref 63), (1, .ref 0), (0, .ref 1000)] [] (SH, mm2, l1) false o z false a b) :
    ∃ z, J G M_L_law 352 [(4, .int (nI k)), (3, .ref 85), (2, .ref 63), (1, .ref 0), (0, .ref 1000)] [] (SH, mm, lm) false o z false (a + 1) (b + 6) := by
  obtain ⟨kk, mm1, l1, bb, mm2, h1, h2, h3, h4, h5⟩ := hop mm lm hI
  obtain ⟨z, hz⟩ := hc mm2 l1 h5
  refine ⟨z, ?_⟩
  refine J_aload_n rfl (i := 1) rfl dL_law_352 ?_
  refine J_aload_n rfl (i := 0) rfl dL_law_353 ?_
  refine J_iload (i := 4) rfl dL_law_354 ?_
  refine J_iconst (v := 1) (by decide) dL_law_356 ?_
  refine J_iadd dL_law_357 ?_
  refine J_sld (nI_add k 1) (by omega) hL dL_law_358 ?_
  refine J_aload_n rfl (i := 3) rfl dL_law_359 ?_
  refine J_callSH (Mc := M_L_truncate) (as := [.ref 0, .int (Gs G (k + 1)), .ref 85]) (st := []) rfl gw_701 gw_107 ⟨by decide, by decide⟩ gw_700 gw_699 ⟨by decide, by decide⟩ cnt_L_truncate rfl (Nat.le_of_ble_eq_true rfl) dL_law_360 (Nat.add_comm a 1) (Nat.add_comm b 6) h1 ?_
  refine J_istore [(5, .int kk), (4, .int (nI k)), (3, .ref 85), (2, .ref 63), (1, .ref 0), (0, .ref 1000)] (i := 5) (by decide) rfl dL_law_363 ?_
  refine J_aload_n rfl (i := 2) rfl dL_law_365 ?_
  refine J_aload_n rfl (i := 0) rfl dL_law_366 ?_
  refine J_iload (i := 4) rfl dL_law_367 ?_
  refine J_iconst (v := 1) (by decide) dL_law_369 ?_
  refine J_iadd dL_law_370 ?_
  refine J_sld (nI_add k 1) (by omega) hL dL_law_371 ?_
  refine J_callV (as := [.int (Gs G (k + 1))]) (k := 63) (st := []) cal_X10_truncate cai_X10_truncate gw_1569 ⟨by decide, by decide⟩ cnt_X10_truncate sh_63 rfl rfl (Nat.le_of_ble_eq_true rfl) dL_law_372 (Nat.zero_add _).symm (Nat.zero_add _).symm h2 ?_
  refine J_istore [(6, .int bb), (5, .int kk), (4, .int (nI k)), (3, .ref 85), (2, .ref 63), (1, .ref 0), (0, .ref 1000)] (i := 6) (by decide) rfl dL_law_375 ?_
  refine J_aload_n rfl (i := 2) rfl dL_law_377 ?_
  refine J_callV (as := []) (k := 63) (st := []) cal_X10_thrown cai_X10_thrown gw_1557 ⟨by decide, by decide⟩ cnt_X10_thrown sh_63 rfl rfl (Nat.le_of_ble_eq_true rfl) dL_law_378 (Nat.zero_add _).symm (Nat.zero_add _).symm th_hyp ?_
  refine J_iload (i := 5) rfl dL_law_381 ?_
  refine J_icmp_eq (tgt := 388) dL_law_383 (by decide) (fun _ => ?_) (fun hn => absurd h3 hn)
  refine J_iload (i := 5) rfl dL_law_388 ?_
  refine J_if_ne (tgt := 405) dL_law_390 (by decide) (fun _ => ?_) (fun h0 => ?_)
  · refine J_goto (tgt := 3001) dL_law_405 (by decide) ?_
    refine J_iinc [(4, .int (nI k + 6)), (6, .int bb), (5, .int kk), (3, .ref 85), (2, .ref 63), (1, .ref 0), (0, .ref 1000)] (i := 4) (v := nI k + 6) rfl rfl (by decide) rfl dL_law_3001 ?_
    refine J_goto (tgt := 23) dL_law_3004 (by decide) ?_
    exact J_sub [0, 3, 4, 5, 6] rfl hz
  · refine J_aload_n rfl (i := 3) rfl dL_law_393 ?_
    refine J_iconst (v := 0) (by decide) dL_law_394 ?_
    refine J_lald sh_85 (by unfold vp_in; decide) dL_law_395 ?_
    refine J_iload (i := 6) rfl dL_law_396 ?_
    refine J_i2l dL_law_398 ?_
    refine J_lcmp dL_law_399 ?_
    refine J_if_eq (tgt := 405) dL_law_400 (by decide) (fun _ => ?_) (fun hn => absurd ((lg_cmp_eq _ _).mpr (h4 h0)) hn)
    refine J_goto (tgt := 3001) dL_law_405 (by decide) ?_
    refine J_iinc [(4, .int (nI k + 6)), (6, .int bb), (5, .int kk), (3, .ref 85), (2, .ref 63), (1, .ref 0), (0, .ref 1000)] (i := 4) (v := nI k + 6) rfl rfl (by decide) rfl dL_law_3001 ?_
    refine J_goto (tgt := 23) dL_law_3004 (by decide) ?_
    exact J_sub [0, 3, 4, 5, 6] rfl hz
theorem law_2 (hk : k + 5 < Gn G) (hL : Gn G < 2 ^ 31) (hop : OpD G I M_X9_load M_X10_load) (hI : I mm) (hc : ∀ mm2 l1, I mm2 → ∃ z, J G M_L_law 23 [(4, .int (nI k + 6)), (3, .ref 85), (2, .ref 63), (1, .ref 0), (0, .ref 1000)] [] (SH, mm2, l1) false o z false a b) :
    ∃ z, J G M_L_law 408 [(4, .int (nI k)), (3, .ref 85), (2, .ref 63), (1, .ref 0), (0, .ref 1000)] [] (SH, mm, lm) false o z false (a + 1) (b + 6) := by
  obtain ⟨v, mm1, mm2, h1, h2, h5⟩ := hop mm lm hI
  obtain ⟨z, hz⟩ := hc mm2 lm h5
  refine ⟨z, J_more (Nat.le_add_right a 1) (Nat.le_add_right b 6) ?_⟩
  refine J_aload_n rfl (i := 1) rfl dL_law_408 ?_
  refine J_callV (as := []) (k := 0) (st := []) cal_X9_load cai_X9_load gw_463 ⟨by decide, by decide⟩ cnt_X9_load sh_0 rfl rfl (Nat.le_of_ble_eq_true rfl) dL_law_409 (Nat.zero_add _).symm (Nat.zero_add _).symm h1 ?_
  refine J_aload_n rfl (i := 2) rfl dL_law_412 ?_
  refine J_callV (as := []) (k := 63) (st := [.int v]) cal_X10_load cai_X10_load gw_1576 ⟨by decide, by decide⟩ cnt_X10_load sh_63 rfl rfl (Nat.le_of_ble_eq_true rfl) dL_law_413 (Nat.zero_add _).symm (Nat.zero_add _).symm h2 ?_
  refine J_icmp_eq (tgt := 3001) dL_law_416 (by decide) (fun _ => ?_) (fun hn => absurd rfl hn)
  refine J_iinc [(4, .int (nI k + 6)), (3, .ref 85), (2, .ref 63), (1, .ref 0), (0, .ref 1000)] (i := 4) (v := nI k + 6) rfl rfl (by decide) rfl dL_law_3001 ?_
  refine J_goto (tgt := 23) dL_law_3004 (by decide) ?_
  exact J_sub [0, 1, 2, 3, 4] rfl hz
theorem law_3 (hk : k + 5 < Gn G) (hL : Gn G < 2 ^ 31) (hop : OpD G I M_X9_errorPosition M_X10_errorPosition) (hI : I mm) (hc : ∀ mm2 l1, I mm2 → ∃ z, J G M_L_law 23 [(4, .int (nI k + 6)), (3, .ref 85), (2, .ref 63), (1, .ref 0), (0, .ref 1000)] [] (SH, mm2, l1) false o z false a b) :
    ∃ z, J G M_L_law 421 [(4, .int (nI k)), (3, .ref 85), (2, .ref 63), (1, .ref 0), (0, .ref 1000)] [] (SH, mm, lm) false o z false (a + 1) (b + 6) := by
  obtain ⟨v, mm1, mm2, h1, h2, h5⟩ := hop mm lm hI
  obtain ⟨z, hz⟩ := hc mm2 lm h5
  refine ⟨z, J_more (Nat.le_add_right a 1) (Nat.le_add_right b 6) ?_⟩
  refine J_aload_n rfl (i := 1) rfl dL_law_421 ?_
  refine J_callV (as := []) (k := 0) (st := []) cal_X9_errorPosition cai_X9_errorPosition gw_616 ⟨by decide, by decide⟩ cnt_X9_errorPosition sh_0 rfl rfl (Nat.le_of_ble_eq_true rfl) dL_law_422 (Nat.zero_add _).symm (Nat.zero_add _).symm h1 ?_
  refine J_aload_n rfl (i := 2) rfl dL_law_425 ?_
  refine J_callV (as := []) (k := 63) (st := [.int v]) cal_X10_errorPosition cai_X10_errorPosition gw_1655 ⟨by decide, by decide⟩ cnt_X10_errorPosition sh_63 rfl rfl (Nat.le_of_ble_eq_true rfl) dL_law_426 (Nat.zero_add _).symm (Nat.zero_add _).symm h2 ?_
  refine J_icmp_eq (tgt := 3001) dL_law_429 (by decide) (fun _ => ?_) (fun hn => absurd rfl hn)
  refine J_iinc [(4, .int (nI k + 6)), (3, .ref 85), (2, .ref 63), (1, .ref 0), (0, .ref 1000)] (i := 4) (v := nI k + 6) rfl rfl (by decide) rfl dL_law_3001 ?_
  refine J_goto (tgt := 23) dL_law_3004 (by decide) ?_
  exact J_sub [0, 1, 2, 3, 4] rfl hz
theorem law_4 (hk : k + 5 < Gn G) (hL : Gn G < 2 ^ 31) (hop : OpW G I M_L_hang M_X10_hang [.int (Gs G (k + 1)), .int (Gs G (k + 2)), .int (Gs G (k + 3))] cmpI) (hI : I mm) (hc : ∀ mm2 l1, I mm2 → ∃ z, J G M_L_law 23 [(4, .int (nI k + 6)), (3, .ref 85), (2, .ref 63), (1, .ref 0), (0, .ref 1000)] [] (SH, mm2, l1) false o z false a b) :
    ∃ z, J G M_L_law 434 [(4, .int (nI k)), (3, .ref 85), (2, .ref 63), (1, .ref 0), (0, .ref 1000)] [] (SH, mm, lm) false o z false (a + 1) (b + 6) := by
  obtain ⟨kk, mm1, l1, bb, mm2, h1, h2, h3, h4, h5⟩ := hop mm lm hI
  obtain ⟨z, hz⟩ := hc mm2 l1 h5
  refine ⟨z, ?_⟩
  refine J_aload_n rfl (i := 1) rfl dL_law_434 ?_
  refine J_aload_n rfl (i := 0) rfl dL_law_435 ?_
  refine J_iload (i := 4) rfl dL_law_436 ?_
  refine J_iconst (v := 1) (by decide) dL_law_438 ?_
  refine J_iadd dL_law_439 ?_
  refine J_sld (nI_add k 1) (by omega) hL dL_law_440 ?_
  refine J_aload_n rfl (i := 0) rfl dL_law_441 ?_
  refine J_iload (i := 4) rfl dL_law_442 ?_
  refine J_iconst (v := 2) (by decide) dL_law_444 ?_
  refine J_iadd dL_law_445 ?_
  refine J_sld (nI_add k 2) (by omega) hL dL_law_446 ?_
  refine J_aload_n rfl (i := 0) rfl dL_law_447 ?_
  refine J_iload (i := 4) rfl dL_law_448 ?_
  refine J_iconst (v := 3) (by decide) dL_law_450 ?_
  refine J_iadd dL_law_451 ?_
  refine J_sld (nI_add k 3) (by omega) hL dL_law_452 ?_
  refine J_aload_n rfl (i := 3) rfl dL_law_453 ?_
  refine J_callSH (Mc := M_L_hang) (as := [.ref 0, .int (Gs G (k + 1)), .int (Gs G (k + 2)), .int (Gs G (k + 3)), .ref 85]) (st := []) rfl gw_728 gw_107 ⟨by decide, by decide⟩ gw_727 gw_726 ⟨by decide, by decide⟩ cnt_L_hang rfl (Nat.le_of_ble_eq_true rfl) dL_law_454 (Nat.add_comm a 1) (Nat.add_comm b 6) h1 ?_
  refine J_istore [(5, .int kk), (4, .int (nI k)), (3, .ref 85), (2, .ref 63), (1, .ref 0), (0, .ref 1000)] (i := 5) (by decide) rfl dL_law_457 ?_
  refine J_aload_n rfl (i := 2) rfl dL_law_459 ?_
  refine J_aload_n rfl (i := 0) rfl dL_law_460 ?_
  refine J_iload (i := 4) rfl dL_law_461 ?_
  refine J_iconst (v := 1) (by decide) dL_law_463 ?_
  refine J_iadd dL_law_464 ?_
  refine J_sld (nI_add k 1) (by omega) hL dL_law_465 ?_
  refine J_aload_n rfl (i := 0) rfl dL_law_466 ?_
  refine J_iload (i := 4) rfl dL_law_467 ?_
  refine J_iconst (v := 2) (by decide) dL_law_469 ?_
  refine J_iadd dL_law_470 ?_
  refine J_sld (nI_add k 2) (by omega) hL dL_law_471 ?_
  refine J_aload_n rfl (i := 0) rfl dL_law_472 ?_
  refine J_iload (i := 4) rfl dL_law_473 ?_
  refine J_iconst (v := 3) (by decide) dL_law_475 ?_
  refine J_iadd dL_law_476 ?_
  refine J_sld (nI_add k 3) (by omega) hL dL_law_477 ?_
  refine J_callV (as := [.int (Gs G (k + 1)), .int (Gs G (k + 2)), .int (Gs G (k + 3))]) (k := 63) (st := []) cal_X10_hang cai_X10_hang gw_1667 ⟨by decide, by decide⟩ cnt_X10_hang sh_63 rfl rfl (Nat.le_of_ble_eq_true rfl) dL_law_478 (Nat.zero_add _).symm (Nat.zero_add _).symm h2 ?_
  refine J_istore [(6, .int bb), (5, .int kk), (4, .int (nI k)), (3, .ref 85), (2, .ref 63), (1, .ref 0), (0, .ref 1000)] (i := 6) (by decide) rfl dL_law_481 ?_
  refine J_aload_n rfl (i := 2) rfl dL_law_483 ?_
  refine J_callV (as := []) (k := 63) (st := []) cal_X10_thrown cai_X10_thrown gw_1557 ⟨by decide, by decide⟩ cnt_X10_thrown sh_63 rfl rfl (Nat.le_of_ble_eq_true rfl) dL_law_484 (Nat.zero_add _).symm (Nat.zero_add _).symm th_hyp ?_
  refine J_iload (i := 5) rfl dL_law_487 ?_
  refine J_icmp_eq (tgt := 494) dL_law_489 (by decide) (fun _ => ?_) (fun hn => absurd h3 hn)
  refine J_iload (i := 5) rfl dL_law_494 ?_
  refine J_if_ne (tgt := 511) dL_law_496 (by decide) (fun _ => ?_) (fun h0 => ?_)
  · refine J_goto (tgt := 3001) dL_law_511 (by decide) ?_
    refine J_iinc [(4, .int (nI k + 6)), (6, .int bb), (5, .int kk), (3, .ref 85), (2, .ref 63), (1, .ref 0), (0, .ref 1000)] (i := 4) (v := nI k + 6) rfl rfl (by decide) rfl dL_law_3001 ?_
    refine J_goto (tgt := 23) dL_law_3004 (by decide) ?_
    exact J_sub [0, 3, 4, 5, 6] rfl hz
  · refine J_aload_n rfl (i := 3) rfl dL_law_499 ?_
    refine J_iconst (v := 0) (by decide) dL_law_500 ?_
    refine J_lald sh_85 (by unfold vp_in; decide) dL_law_501 ?_
    refine J_iload (i := 6) rfl dL_law_502 ?_
    refine J_i2l dL_law_504 ?_
    refine J_lcmp dL_law_505 ?_
    refine J_if_eq (tgt := 511) dL_law_506 (by decide) (fun _ => ?_) (fun hn => absurd ((lg_cmp_eq _ _).mpr (h4 h0)) hn)
    refine J_goto (tgt := 3001) dL_law_511 (by decide) ?_
    refine J_iinc [(4, .int (nI k + 6)), (6, .int bb), (5, .int kk), (3, .ref 85), (2, .ref 63), (1, .ref 0), (0, .ref 1000)] (i := 4) (v := nI k + 6) rfl rfl (by decide) rfl dL_law_3001 ?_
    refine J_goto (tgt := 23) dL_law_3004 (by decide) ?_
    exact J_sub [0, 3, 4, 5, 6] rfl hz
theorem law_5 (hk : k + 5 < Gn G) (hL : Gn G < 2 ^ 31) (hop : OpW G I M_L_takeDown M_X10_takeDown [.int (Gs G (k + 1))] cmpI) (hI : I mm) (hc : ∀ mm2 l1, I mm2 → ∃ z, J G M_L_law 23 [(4, .int (nI k + 6)), (3, .ref 85), (2, .ref 63), (1, .ref 0), (0, .ref 1000)] [] (SH, mm2, l1) false o z false a b) :
    ∃ z, J G M_L_law 514 [(4, .int (nI k)), (3, .ref 85), (2, .ref 63), (1, .ref 0), (0, .ref 1000)] [] (SH, mm, lm) false o z false (a + 1) (b + 6) := by
  obtain ⟨kk, mm1, l1, bb, mm2, h1, h2, h3, h4, h5⟩ := hop mm lm hI
  obtain ⟨z, hz⟩ := hc mm2 l1 h5
  refine ⟨z, ?_⟩
  refine J_aload_n rfl (i := 1) rfl dL_law_514 ?_
  refine J_aload_n rfl (i := 0) rfl dL_law_515 ?_
  refine J_iload (i := 4) rfl dL_law_516 ?_
  refine J_iconst (v := 1) (by decide) dL_law_518 ?_
  refine J_iadd dL_law_519 ?_
  refine J_sld (nI_add k 1) (by omega) hL dL_law_520 ?_
  refine J_aload_n rfl (i := 3) rfl dL_law_521 ?_
  refine J_callSH (Mc := M_L_takeDown) (as := [.ref 0, .int (Gs G (k + 1)), .ref 85]) (st := []) rfl gw_795 gw_107 ⟨by decide, by decide⟩ gw_794 gw_793 ⟨by decide, by decide⟩ cnt_L_takeDown rfl (Nat.le_of_ble_eq_true rfl) dL_law_522 (Nat.add_comm a 1) (Nat.add_comm b 6) h1 ?_
  refine J_istore [(5, .int kk), (4, .int (nI k)), (3, .ref 85), (2, .ref 63), (1, .ref 0), (0, .ref 1000)] (i := 5) (by decide) rfl dL_law_525 ?_
  refine J_aload_n rfl (i := 2) rfl dL_law_527 ?_
  refine J_aload_n rfl (i := 0) rfl dL_law_528 ?_
  refine J_iload (i := 4) rfl dL_law_529 ?_
  refine J_iconst (v := 1) (by decide) dL_law_531 ?_
  refine J_iadd dL_law_532 ?_
  refine J_sld (nI_add k 1) (by omega) hL dL_law_533 ?_
  refine J_callV (as := [.int (Gs G (k + 1))]) (k := 63) (st := []) cal_X10_takeDown cai_X10_takeDown gw_1719 ⟨by decide, by decide⟩ cnt_X10_takeDown sh_63 rfl rfl (Nat.le_of_ble_eq_true rfl) dL_law_534 (Nat.zero_add _).symm (Nat.zero_add _).symm h2 ?_
  refine J_istore [(6, .int bb), (5, .int kk), (4, .int (nI k)), (3, .ref 85), (2, .ref 63), (1, .ref 0), (0, .ref 1000)] (i := 6) (by decide) rfl dL_law_537 ?_
  refine J_aload_n rfl (i := 2) rfl dL_law_539 ?_
  refine J_callV (as := []) (k := 63) (st := []) cal_X10_thrown cai_X10_thrown gw_1557 ⟨by decide, by decide⟩ cnt_X10_thrown sh_63 rfl rfl (Nat.le_of_ble_eq_true rfl) dL_law_540 (Nat.zero_add _).symm (Nat.zero_add _).symm th_hyp ?_
  refine J_iload (i := 5) rfl dL_law_543 ?_
  refine J_icmp_eq (tgt := 550) dL_law_545 (by decide) (fun _ => ?_) (fun hn => absurd h3 hn)
  refine J_iload (i := 5) rfl dL_law_550 ?_
  refine J_if_ne (tgt := 567) dL_law_552 (by decide) (fun _ => ?_) (fun h0 => ?_)
  · refine J_goto (tgt := 3001) dL_law_567 (by decide) ?_
    refine J_iinc [(4, .int (nI k + 6)), (6, .int bb), (5, .int kk), (3, .ref 85), (2, .ref 63), (1, .ref 0), (0, .ref 1000)] (i := 4) (v := nI k + 6) rfl rfl (by decide) rfl dL_law_3001 ?_
    refine J_goto (tgt := 23) dL_law_3004 (by decide) ?_
    exact J_sub [0, 3, 4, 5, 6] rfl hz
  · refine J_aload_n rfl (i := 3) rfl dL_law_555 ?_
    refine J_iconst (v := 0) (by decide) dL_law_556 ?_
    refine J_lald sh_85 (by unfold vp_in; decide) dL_law_557 ?_
    refine J_iload (i := 6) rfl dL_law_558 ?_
    refine J_i2l dL_law_560 ?_
    refine J_lcmp dL_law_561 ?_
    refine J_if_eq (tgt := 567) dL_law_562 (by decide) (fun _ => ?_) (fun hn => absurd ((lg_cmp_eq _ _).mpr (h4 h0)) hn)
    refine J_goto (tgt := 3001) dL_law_567 (by decide) ?_
    refine J_iinc [(4, .int (nI k + 6)), (6, .int bb), (5, .int kk), (3, .ref 85), (2, .ref 63), (1, .ref 0), (0, .ref 1000)] (i := 4) (v := nI k + 6) rfl rfl (by decide) rfl dL_law_3001 ?_
    refine J_goto (tgt := 23) dL_law_3004 (by decide) ?_
    exact J_sub [0, 3, 4, 5, 6] rfl hz
theorem law_6 (hk : k + 5 < Gn G) (hL : Gn G < 2 ^ 31) (hop : OpW G I M_L_shift M_X10_shift [.int (Gs G (k + 1)), .int (Gs G (k + 2))] cmpI) (hI : I mm) (hc : ∀ mm2 l1, I mm2 → ∃ z, J G M_L_law 23 [(4, .int (nI k + 6)), (3, .ref 85), (2, .ref 63), (1, .ref 0), (0, .ref 1000)] [] (SH, mm2, l1) false o z false a b) :
    ∃ z, J G M_L_law 570 [(4, .int (nI k)), (3, .ref 85), (2, .ref 63), (1, .ref 0), (0, .ref 1000)] [] (SH, mm, lm) false o z false (a + 1) (b + 6) := by
  obtain ⟨kk, mm1, l1, bb, mm2, h1, h2, h3, h4, h5⟩ := hop mm lm hI
  obtain ⟨z, hz⟩ := hc mm2 l1 h5
  refine ⟨z, ?_⟩
  refine J_aload_n rfl (i := 1) rfl dL_law_570 ?_
  refine J_aload_n rfl (i := 0) rfl dL_law_571 ?_
  refine J_iload (i := 4) rfl dL_law_572 ?_
  refine J_iconst (v := 1) (by decide) dL_law_574 ?_
  refine J_iadd dL_law_575 ?_
  refine J_sld (nI_add k 1) (by omega) hL dL_law_576 ?_
  refine J_aload_n rfl (i := 0) rfl dL_law_577 ?_
  refine J_iload (i := 4) rfl dL_law_578 ?_
  refine J_iconst (v := 2) (by decide) dL_law_580 ?_
  refine J_iadd dL_law_581 ?_
  refine J_sld (nI_add k 2) (by omega) hL dL_law_582 ?_
  refine J_aload_n rfl (i := 3) rfl dL_law_583 ?_
  refine J_callSH (Mc := M_L_shift) (as := [.ref 0, .int (Gs G (k + 1)), .int (Gs G (k + 2)), .ref 85]) (st := []) rfl gw_804 gw_107 ⟨by decide, by decide⟩ gw_803 gw_802 ⟨by decide, by decide⟩ cnt_L_shift rfl (Nat.le_of_ble_eq_true rfl) dL_law_584 (Nat.add_comm a 1) (Nat.add_comm b 6) h1 ?_
  refine J_istore [(5, .int kk), (4, .int (nI k)), (3, .ref 85), (2, .ref 63), (1, .ref 0), (0, .ref 1000)] (i := 5) (by decide) rfl dL_law_587 ?_
  refine J_aload_n rfl (i := 2) rfl dL_law_589 ?_
  refine J_aload_n rfl (i := 0) rfl dL_law_590 ?_
  refine J_iload (i := 4) rfl dL_law_591 ?_
  refine J_iconst (v := 1) (by decide) dL_law_593 ?_
  refine J_iadd dL_law_594 ?_
  refine J_sld (nI_add k 1) (by omega) hL dL_law_595 ?_
  refine J_aload_n rfl (i := 0) rfl dL_law_596 ?_
  refine J_iload (i := 4) rfl dL_law_597 ?_
  refine J_iconst (v := 2) (by decide) dL_law_599 ?_
  refine J_iadd dL_law_600 ?_
  refine J_sld (nI_add k 2) (by omega) hL dL_law_601 ?_
  refine J_callV (as := [.int (Gs G (k + 1)), .int (Gs G (k + 2))]) (k := 63) (st := []) cal_X10_shift cai_X10_shift gw_1723 ⟨by decide, by decide⟩ cnt_X10_shift sh_63 rfl rfl (Nat.le_of_ble_eq_true rfl) dL_law_602 (Nat.zero_add _).symm (Nat.zero_add _).symm h2 ?_
  refine J_istore [(6, .int bb), (5, .int kk), (4, .int (nI k)), (3, .ref 85), (2, .ref 63), (1, .ref 0), (0, .ref 1000)] (i := 6) (by decide) rfl dL_law_605 ?_
  refine J_aload_n rfl (i := 2) rfl dL_law_607 ?_
  refine J_callV (as := []) (k := 63) (st := []) cal_X10_thrown cai_X10_thrown gw_1557 ⟨by decide, by decide⟩ cnt_X10_thrown sh_63 rfl rfl (Nat.le_of_ble_eq_true rfl) dL_law_608 (Nat.zero_add _).symm (Nat.zero_add _).symm th_hyp ?_
  refine J_iload (i := 5) rfl dL_law_611 ?_
  refine J_icmp_eq (tgt := 618) dL_law_613 (by decide) (fun _ => ?_) (fun hn => absurd h3 hn)
  refine J_iload (i := 5) rfl dL_law_618 ?_
  refine J_if_ne (tgt := 635) dL_law_620 (by decide) (fun _ => ?_) (fun h0 => ?_)
  · refine J_goto (tgt := 3001) dL_law_635 (by decide) ?_
    refine J_iinc [(4, .int (nI k + 6)), (6, .int bb), (5, .int kk), (3, .ref 85), (2, .ref 63), (1, .ref 0), (0, .ref 1000)] (i := 4) (v := nI k + 6) rfl rfl (by decide) rfl dL_law_3001 ?_
    refine J_goto (tgt := 23) dL_law_3004 (by decide) ?_
    exact J_sub [0, 3, 4, 5, 6] rfl hz
  · refine J_aload_n rfl (i := 3) rfl dL_law_623 ?_
    refine J_iconst (v := 0) (by decide) dL_law_624 ?_
    refine J_lald sh_85 (by unfold vp_in; decide) dL_law_625 ?_
    refine J_iload (i := 6) rfl dL_law_626 ?_
    refine J_i2l dL_law_628 ?_
    refine J_lcmp dL_law_629 ?_
    refine J_if_eq (tgt := 635) dL_law_630 (by decide) (fun _ => ?_) (fun hn => absurd ((lg_cmp_eq _ _).mpr (h4 h0)) hn)
    refine J_goto (tgt := 3001) dL_law_635 (by decide) ?_
    refine J_iinc [(4, .int (nI k + 6)), (6, .int bb), (5, .int kk), (3, .ref 85), (2, .ref 63), (1, .ref 0), (0, .ref 1000)] (i := 4) (v := nI k + 6) rfl rfl (by decide) rfl dL_law_3001 ?_
    refine J_goto (tgt := 23) dL_law_3004 (by decide) ?_
    exact J_sub [0, 3, 4, 5, 6] rfl hz
theorem law_7 (hk : k + 5 < Gn G) (hL : Gn G < 2 ^ 31) (hop : OpW G I M_L_beamOf M_X10_beamOf [.int (Gs G (k + 1))] cmpI) (hI : I mm) (hc : ∀ mm2 l1, I mm2 → ∃ z, J G M_L_law 23 [(4, .int (nI k + 6)), (3, .ref 85), (2, .ref 63), (1, .ref 0), (0, .ref 1000)] [] (SH, mm2, l1) false o z false a b) :
    ∃ z, J G M_L_law 638 [(4, .int (nI k)), (3, .ref 85), (2, .ref 63), (1, .ref 0), (0, .ref 1000)] [] (SH, mm, lm) false o z false (a + 1) (b + 6) := by
  obtain ⟨kk, mm1, l1, bb, mm2, h1, h2, h3, h4, h5⟩ := hop mm lm hI
  obtain ⟨z, hz⟩ := hc mm2 l1 h5
  refine ⟨z, ?_⟩
  refine J_aload_n rfl (i := 1) rfl dL_law_638 ?_
  refine J_aload_n rfl (i := 0) rfl dL_law_639 ?_
  refine J_iload (i := 4) rfl dL_law_640 ?_
  refine J_iconst (v := 1) (by decide) dL_law_642 ?_
  refine J_iadd dL_law_643 ?_
  refine J_sld (nI_add k 1) (by omega) hL dL_law_644 ?_
  refine J_aload_n rfl (i := 3) rfl dL_law_645 ?_
  refine J_callSH (Mc := M_L_beamOf) (as := [.ref 0, .int (Gs G (k + 1)), .ref 85]) (st := []) rfl gw_811 gw_107 ⟨by decide, by decide⟩ gw_810 gw_809 ⟨by decide, by decide⟩ cnt_L_beamOf rfl (Nat.le_of_ble_eq_true rfl) dL_law_646 (Nat.add_comm a 1) (Nat.add_comm b 6) h1 ?_
  refine J_istore [(5, .int kk), (4, .int (nI k)), (3, .ref 85), (2, .ref 63), (1, .ref 0), (0, .ref 1000)] (i := 5) (by decide) rfl dL_law_649 ?_
  refine J_aload_n rfl (i := 2) rfl dL_law_651 ?_
  refine J_aload_n rfl (i := 0) rfl dL_law_652 ?_
  refine J_iload (i := 4) rfl dL_law_653 ?_
  refine J_iconst (v := 1) (by decide) dL_law_655 ?_
  refine J_iadd dL_law_656 ?_
  refine J_sld (nI_add k 1) (by omega) hL dL_law_657 ?_
  refine J_callV (as := [.int (Gs G (k + 1))]) (k := 63) (st := []) cal_X10_beamOf cai_X10_beamOf gw_1727 ⟨by decide, by decide⟩ cnt_X10_beamOf sh_63 rfl rfl (Nat.le_of_ble_eq_true rfl) dL_law_658 (Nat.zero_add _).symm (Nat.zero_add _).symm h2 ?_
  refine J_istore [(6, .int bb), (5, .int kk), (4, .int (nI k)), (3, .ref 85), (2, .ref 63), (1, .ref 0), (0, .ref 1000)] (i := 6) (by decide) rfl dL_law_661 ?_
  refine J_aload_n rfl (i := 2) rfl dL_law_663 ?_
  refine J_callV (as := []) (k := 63) (st := []) cal_X10_thrown cai_X10_thrown gw_1557 ⟨by decide, by decide⟩ cnt_X10_thrown sh_63 rfl rfl (Nat.le_of_ble_eq_true rfl) dL_law_664 (Nat.zero_add _).symm (Nat.zero_add _).symm th_hyp ?_
  refine J_iload (i := 5) rfl dL_law_667 ?_
  refine J_icmp_eq (tgt := 674) dL_law_669 (by decide) (fun _ => ?_) (fun hn => absurd h3 hn)
  refine J_iload (i := 5) rfl dL_law_674 ?_
  refine J_if_ne (tgt := 691) dL_law_676 (by decide) (fun _ => ?_) (fun h0 => ?_)
  · refine J_goto (tgt := 3001) dL_law_691 (by decide) ?_
    refine J_iinc [(4, .int (nI k + 6)), (6, .int bb), (5, .int kk), (3, .ref 85), (2, .ref 63), (1, .ref 0), (0, .ref 1000)] (i := 4) (v := nI k + 6) rfl rfl (by decide) rfl dL_law_3001 ?_
    refine J_goto (tgt := 23) dL_law_3004 (by decide) ?_
    exact J_sub [0, 3, 4, 5, 6] rfl hz
  · refine J_aload_n rfl (i := 3) rfl dL_law_679 ?_
    refine J_iconst (v := 0) (by decide) dL_law_680 ?_
    refine J_lald sh_85 (by unfold vp_in; decide) dL_law_681 ?_
    refine J_iload (i := 6) rfl dL_law_682 ?_
    refine J_i2l dL_law_684 ?_
    refine J_lcmp dL_law_685 ?_
    refine J_if_eq (tgt := 691) dL_law_686 (by decide) (fun _ => ?_) (fun hn => absurd ((lg_cmp_eq _ _).mpr (h4 h0)) hn)
    refine J_goto (tgt := 3001) dL_law_691 (by decide) ?_
    refine J_iinc [(4, .int (nI k + 6)), (6, .int bb), (5, .int kk), (3, .ref 85), (2, .ref 63), (1, .ref 0), (0, .ref 1000)] (i := 4) (v := nI k + 6) rfl rfl (by decide) rfl dL_law_3001 ?_
    refine J_goto (tgt := 23) dL_law_3004 (by decide) ?_
    exact J_sub [0, 3, 4, 5, 6] rfl hz
theorem law_8 (hk : k + 5 < Gn G) (hL : Gn G < 2 ^ 31) (hop : OpW G I M_L_positionOf M_X10_positionOf [.int (Gs G (k + 1))] cmpI) (hI : I mm) (hc : ∀ mm2 l1, I mm2 → ∃ z, J G M_L_law 23 [(4, .int (nI k + 6)), (3, .ref 85), (2, .ref 63), (1, .ref 0), (0, .ref 1000)] [] (SH, mm2, l1) false o z false a b) :
    ∃ z, J G M_L_law 694 [(4, .int (nI k)), (3, .ref 85), (2, .ref 63), (1, .ref 0), (0, .ref 1000)] [] (SH, mm, lm) false o z false (a + 1) (b + 6) := by
  obtain ⟨kk, mm1, l1, bb, mm2, h1, h2, h3, h4, h5⟩ := hop mm lm hI
  obtain ⟨z, hz⟩ := hc mm2 l1 h5
  refine ⟨z, ?_⟩
  refine J_aload_n rfl (i := 1) rfl dL_law_694 ?_
  refine J_aload_n rfl (i := 0) rfl dL_law_695 ?_
  refine J_iload (i := 4) rfl dL_law_696 ?_
  refine J_iconst (v := 1) (by decide) dL_law_698 ?_
  refine J_iadd dL_law_699 ?_
  refine J_sld (nI_add k 1) (by omega) hL dL_law_700 ?_
  refine J_aload_n rfl (i := 3) rfl dL_law_701 ?_
  refine J_callSH (Mc := M_L_positionOf) (as := [.ref 0, .int (Gs G (k + 1)), .ref 85]) (st := []) rfl gw_818 gw_107 ⟨by decide, by decide⟩ gw_817 gw_816 ⟨by decide, by decide⟩ cnt_L_positionOf rfl (Nat.le_of_ble_eq_true rfl) dL_law_702 (Nat.add_comm a 1) (Nat.add_comm b 6) h1 ?_
  refine J_istore [(5, .int kk), (4, .int (nI k)), (3, .ref 85), (2, .ref 63), (1, .ref 0), (0, .ref 1000)] (i := 5) (by decide) rfl dL_law_705 ?_
  refine J_aload_n rfl (i := 2) rfl dL_law_707 ?_
  refine J_aload_n rfl (i := 0) rfl dL_law_708 ?_
  refine J_iload (i := 4) rfl dL_law_709 ?_
  refine J_iconst (v := 1) (by decide) dL_law_711 ?_
  refine J_iadd dL_law_712 ?_
  refine J_sld (nI_add k 1) (by omega) hL dL_law_713 ?_
  refine J_callV (as := [.int (Gs G (k + 1))]) (k := 63) (st := []) cal_X10_positionOf cai_X10_positionOf gw_1731 ⟨by decide, by decide⟩ cnt_X10_positionOf sh_63 rfl rfl (Nat.le_of_ble_eq_true rfl) dL_law_714 (Nat.zero_add _).symm (Nat.zero_add _).symm h2 ?_
  refine J_istore [(6, .int bb), (5, .int kk), (4, .int (nI k)), (3, .ref 85), (2, .ref 63), (1, .ref 0), (0, .ref 1000)] (i := 6) (by decide) rfl dL_law_717 ?_
  refine J_aload_n rfl (i := 2) rfl dL_law_719 ?_
  refine J_callV (as := []) (k := 63) (st := []) cal_X10_thrown cai_X10_thrown gw_1557 ⟨by decide, by decide⟩ cnt_X10_thrown sh_63 rfl rfl (Nat.le_of_ble_eq_true rfl) dL_law_720 (Nat.zero_add _).symm (Nat.zero_add _).symm th_hyp ?_
  refine J_iload (i := 5) rfl dL_law_723 ?_
  refine J_icmp_eq (tgt := 730) dL_law_725 (by decide) (fun _ => ?_) (fun hn => absurd h3 hn)
  refine J_iload (i := 5) rfl dL_law_730 ?_
  refine J_if_ne (tgt := 747) dL_law_732 (by decide) (fun _ => ?_) (fun h0 => ?_)
  · refine J_goto (tgt := 3001) dL_law_747 (by decide) ?_
    refine J_iinc [(4, .int (nI k + 6)), (6, .int bb), (5, .int kk), (3, .ref 85), (2, .ref 63), (1, .ref 0), (0, .ref 1000)] (i := 4) (v := nI k + 6) rfl rfl (by decide) rfl dL_law_3001 ?_
    refine J_goto (tgt := 23) dL_law_3004 (by decide) ?_
    exact J_sub [0, 3, 4, 5, 6] rfl hz
  · refine J_aload_n rfl (i := 3) rfl dL_law_735 ?_
    refine J_iconst (v := 0) (by decide) dL_law_736 ?_
    refine J_lald sh_85 (by unfold vp_in; decide) dL_law_737 ?_
    refine J_iload (i := 6) rfl dL_law_738 ?_
    refine J_i2l dL_law_740 ?_
    refine J_lcmp dL_law_741 ?_
    refine J_if_eq (tgt := 747) dL_law_742 (by decide) (fun _ => ?_) (fun hn => absurd ((lg_cmp_eq _ _).mpr (h4 h0)) hn)
    refine J_goto (tgt := 3001) dL_law_747 (by decide) ?_
    refine J_iinc [(4, .int (nI k + 6)), (6, .int bb), (5, .int kk), (3, .ref 85), (2, .ref 63), (1, .ref 0), (0, .ref 1000)] (i := 4) (v := nI k + 6) rfl rfl (by decide) rfl dL_law_3001 ?_
    refine J_goto (tgt := 23) dL_law_3004 (by decide) ?_
    exact J_sub [0, 3, 4, 5, 6] rfl hz
theorem law_9 (hk : k + 5 < Gn G) (hL : Gn G < 2 ^ 31) (hop : OpW G I M_L_torque M_X10_torque [.int (Gs G (k + 1))] cmpI) (hI : I mm) (hc : ∀ mm2 l1, I mm2 → ∃ z, J G M_L_law 23 [(4, .int (nI k + 6)), (3, .ref 85), (2, .ref 63), (1, .ref 0), (0, .ref 1000)] [] (SH, mm2, l1) false o z false a b) :
    ∃ z, J G M_L_law 750 [(4, .int (nI k)), (3, .ref 85), (2, .ref 63), (1, .ref 0), (0, .ref 1000)] [] (SH, mm, lm) false o z false (a + 1) (b + 6) := by
  obtain ⟨kk, mm1, l1, bb, mm2, h1, h2, h3, h4, h5⟩ := hop mm lm hI
  obtain ⟨z, hz⟩ := hc mm2 l1 h5
  refine ⟨z, ?_⟩
  refine J_aload_n rfl (i := 1) rfl dL_law_750 ?_
  refine J_aload_n rfl (i := 0) rfl dL_law_751 ?_
  refine J_iload (i := 4) rfl dL_law_752 ?_
  refine J_iconst (v := 1) (by decide) dL_law_754 ?_
  refine J_iadd dL_law_755 ?_
  refine J_sld (nI_add k 1) (by omega) hL dL_law_756 ?_
  refine J_aload_n rfl (i := 3) rfl dL_law_757 ?_
  refine J_callSH (Mc := M_L_torque) (as := [.ref 0, .int (Gs G (k + 1)), .ref 85]) (st := []) rfl gw_846 gw_107 ⟨by decide, by decide⟩ gw_845 gw_844 ⟨by decide, by decide⟩ cnt_L_torque rfl (Nat.le_of_ble_eq_true rfl) dL_law_758 (Nat.add_comm a 1) (Nat.add_comm b 6) h1 ?_
  refine J_istore [(5, .int kk), (4, .int (nI k)), (3, .ref 85), (2, .ref 63), (1, .ref 0), (0, .ref 1000)] (i := 5) (by decide) rfl dL_law_761 ?_
  refine J_aload_n rfl (i := 2) rfl dL_law_763 ?_
  refine J_aload_n rfl (i := 0) rfl dL_law_764 ?_
  refine J_iload (i := 4) rfl dL_law_765 ?_
  refine J_iconst (v := 1) (by decide) dL_law_767 ?_
  refine J_iadd dL_law_768 ?_
  refine J_sld (nI_add k 1) (by omega) hL dL_law_769 ?_
  refine J_callV (as := [.int (Gs G (k + 1))]) (k := 63) (st := []) cal_X10_torque cai_X10_torque gw_1735 ⟨by decide, by decide⟩ cnt_X10_torque sh_63 rfl rfl (Nat.le_of_ble_eq_true rfl) dL_law_770 (Nat.zero_add _).symm (Nat.zero_add _).symm h2 ?_
  refine J_istore [(6, .int bb), (5, .int kk), (4, .int (nI k)), (3, .ref 85), (2, .ref 63), (1, .ref 0), (0, .ref 1000)] (i := 6) (by decide) rfl dL_law_773 ?_
  refine J_aload_n rfl (i := 2) rfl dL_law_775 ?_
  refine J_callV (as := []) (k := 63) (st := []) cal_X10_thrown cai_X10_thrown gw_1557 ⟨by decide, by decide⟩ cnt_X10_thrown sh_63 rfl rfl (Nat.le_of_ble_eq_true rfl) dL_law_776 (Nat.zero_add _).symm (Nat.zero_add _).symm th_hyp ?_
  refine J_iload (i := 5) rfl dL_law_779 ?_
  refine J_icmp_eq (tgt := 786) dL_law_781 (by decide) (fun _ => ?_) (fun hn => absurd h3 hn)
  refine J_iload (i := 5) rfl dL_law_786 ?_
  refine J_if_ne (tgt := 803) dL_law_788 (by decide) (fun _ => ?_) (fun h0 => ?_)
  · refine J_goto (tgt := 3001) dL_law_803 (by decide) ?_
    refine J_iinc [(4, .int (nI k + 6)), (6, .int bb), (5, .int kk), (3, .ref 85), (2, .ref 63), (1, .ref 0), (0, .ref 1000)] (i := 4) (v := nI k + 6) rfl rfl (by decide) rfl dL_law_3001 ?_
    refine J_goto (tgt := 23) dL_law_3004 (by decide) ?_
    exact J_sub [0, 3, 4, 5, 6] rfl hz
  · refine J_aload_n rfl (i := 3) rfl dL_law_791 ?_
    refine J_iconst (v := 0) (by decide) dL_law_792 ?_
    refine J_lald sh_85 (by unfold vp_in; decide) dL_law_793 ?_
    refine J_iload (i := 6) rfl dL_law_794 ?_
    refine J_i2l dL_law_796 ?_
    refine J_lcmp dL_law_797 ?_
    refine J_if_eq (tgt := 803) dL_law_798 (by decide) (fun _ => ?_) (fun hn => absurd ((lg_cmp_eq _ _).mpr (h4 h0)) hn)
    refine J_goto (tgt := 3001) dL_law_803 (by decide) ?_
    refine J_iinc [(4, .int (nI k + 6)), (6, .int bb), (5, .int kk), (3, .ref 85), (2, .ref 63), (1, .ref 0), (0, .ref 1000)] (i := 4) (v := nI k + 6) rfl rfl (by decide) rfl dL_law_3001 ?_
    refine J_goto (tgt := 23) dL_law_3004 (by decide) ?_
    exact J_sub [0, 3, 4, 5, 6] rfl hz
theorem law_10 (hk : k + 5 < Gn G) (hL : Gn G < 2 ^ 31) (hop : OpW G I M_L_bellAt M_X10_bellAt [.int (Gs G (k + 1)), .int (Gs G (k + 2))] cmpI) (hI : I mm) (hc : ∀ mm2 l1, I mm2 → ∃ z, J G M_L_law 23 [(4, .int (nI k + 6)), (3, .ref 85), (2, .ref 63), (1, .ref 0), (0, .ref 1000)] [] (SH, mm2, l1) false o z false a b) :
    ∃ z, J G M_L_law 806 [(4, .int (nI k)), (3, .ref 85), (2, .ref 63), (1, .ref 0), (0, .ref 1000)] [] (SH, mm, lm) false o z false (a + 1) (b + 6) := by
  obtain ⟨kk, mm1, l1, bb, mm2, h1, h2, h3, h4, h5⟩ := hop mm lm hI
  obtain ⟨z, hz⟩ := hc mm2 l1 h5
  refine ⟨z, ?_⟩
  refine J_aload_n rfl (i := 1) rfl dL_law_806 ?_
  refine J_aload_n rfl (i := 0) rfl dL_law_807 ?_
  refine J_iload (i := 4) rfl dL_law_808 ?_
  refine J_iconst (v := 1) (by decide) dL_law_810 ?_
  refine J_iadd dL_law_811 ?_
  refine J_sld (nI_add k 1) (by omega) hL dL_law_812 ?_
  refine J_aload_n rfl (i := 0) rfl dL_law_813 ?_
  refine J_iload (i := 4) rfl dL_law_814 ?_
  refine J_iconst (v := 2) (by decide) dL_law_816 ?_
  refine J_iadd dL_law_817 ?_
  refine J_sld (nI_add k 2) (by omega) hL dL_law_818 ?_
  refine J_aload_n rfl (i := 3) rfl dL_law_819 ?_
  refine J_callSH (Mc := M_L_bellAt) (as := [.ref 0, .int (Gs G (k + 1)), .int (Gs G (k + 2)), .ref 85]) (st := []) rfl gw_853 gw_107 ⟨by decide, by decide⟩ gw_852 gw_851 ⟨by decide, by decide⟩ cnt_L_bellAt rfl (Nat.le_of_ble_eq_true rfl) dL_law_820 (Nat.add_comm a 1) (Nat.add_comm b 6) h1 ?_
  refine J_istore [(5, .int kk), (4, .int (nI k)), (3, .ref 85), (2, .ref 63), (1, .ref 0), (0, .ref 1000)] (i := 5) (by decide) rfl dL_law_823 ?_
  refine J_aload_n rfl (i := 2) rfl dL_law_825 ?_
  refine J_aload_n rfl (i := 0) rfl dL_law_826 ?_
  refine J_iload (i := 4) rfl dL_law_827 ?_
  refine J_iconst (v := 1) (by decide) dL_law_829 ?_
  refine J_iadd dL_law_830 ?_
  refine J_sld (nI_add k 1) (by omega) hL dL_law_831 ?_
  refine J_aload_n rfl (i := 0) rfl dL_law_832 ?_
  refine J_iload (i := 4) rfl dL_law_833 ?_
  refine J_iconst (v := 2) (by decide) dL_law_835 ?_
  refine J_iadd dL_law_836 ?_
  refine J_sld (nI_add k 2) (by omega) hL dL_law_837 ?_
  refine J_callV (as := [.int (Gs G (k + 1)), .int (Gs G (k + 2))]) (k := 63) (st := []) cal_X10_bellAt cai_X10_bellAt gw_1739 ⟨by decide, by decide⟩ cnt_X10_bellAt sh_63 rfl rfl (Nat.le_of_ble_eq_true rfl) dL_law_838 (Nat.zero_add _).symm (Nat.zero_add _).symm h2 ?_
  refine J_istore [(6, .int bb), (5, .int kk), (4, .int (nI k)), (3, .ref 85), (2, .ref 63), (1, .ref 0), (0, .ref 1000)] (i := 6) (by decide) rfl dL_law_841 ?_
  refine J_aload_n rfl (i := 2) rfl dL_law_843 ?_
  refine J_callV (as := []) (k := 63) (st := []) cal_X10_thrown cai_X10_thrown gw_1557 ⟨by decide, by decide⟩ cnt_X10_thrown sh_63 rfl rfl (Nat.le_of_ble_eq_true rfl) dL_law_844 (Nat.zero_add _).symm (Nat.zero_add _).symm th_hyp ?_
  refine J_iload (i := 5) rfl dL_law_847 ?_
  refine J_icmp_eq (tgt := 854) dL_law_849 (by decide) (fun _ => ?_) (fun hn => absurd h3 hn)
  refine J_iload (i := 5) rfl dL_law_854 ?_
  refine J_if_ne (tgt := 871) dL_law_856 (by decide) (fun _ => ?_) (fun h0 => ?_)
  · refine J_goto (tgt := 3001) dL_law_871 (by decide) ?_
    refine J_iinc [(4, .int (nI k + 6)), (6, .int bb), (5, .int kk), (3, .ref 85), (2, .ref 63), (1, .ref 0), (0, .ref 1000)] (i := 4) (v := nI k + 6) rfl rfl (by decide) rfl dL_law_3001 ?_
    refine J_goto (tgt := 23) dL_law_3004 (by decide) ?_
    exact J_sub [0, 3, 4, 5, 6] rfl hz
  · refine J_aload_n rfl (i := 3) rfl dL_law_859 ?_
    refine J_iconst (v := 0) (by decide) dL_law_860 ?_
    refine J_lald sh_85 (by unfold vp_in; decide) dL_law_861 ?_
    refine J_iload (i := 6) rfl dL_law_862 ?_
    refine J_i2l dL_law_864 ?_
    refine J_lcmp dL_law_865 ?_
    refine J_if_eq (tgt := 871) dL_law_866 (by decide) (fun _ => ?_) (fun hn => absurd ((lg_cmp_eq _ _).mpr (h4 h0)) hn)
    refine J_goto (tgt := 3001) dL_law_871 (by decide) ?_
    refine J_iinc [(4, .int (nI k + 6)), (6, .int bb), (5, .int kk), (3, .ref 85), (2, .ref 63), (1, .ref 0), (0, .ref 1000)] (i := 4) (v := nI k + 6) rfl rfl (by decide) rfl dL_law_3001 ?_
    refine J_goto (tgt := 23) dL_law_3004 (by decide) ?_
    exact J_sub [0, 3, 4, 5, 6] rfl hz
theorem law_11 (hk : k + 5 < Gn G) (hL : Gn G < 2 ^ 31) (hop : OpW G I M_L_freePositions M_X10_freePositions [.int (Gs G (k + 1)), .int (Gs G (k + 2))] cmpI) (hI : I mm) (hc : ∀ mm2 l1, I mm2 → ∃ z, J G M_L_law 23 [(4, .int (nI k + 6)), (3, .ref 85), (2, .ref 63), (1, .ref 0), (0, .ref 1000)] [] (SH, mm2, l1) false o z false a b) :
    ∃ z, J G M_L_law 874 [(4, .int (nI k)), (3, .ref 85), (2, .ref 63), (1, .ref 0), (0, .ref 1000)] [] (SH, mm, lm) false o z false (a + 1) (b + 6) := by
  obtain ⟨kk, mm1, l1, bb, mm2, h1, h2, h3, h4, h5⟩ := hop mm lm hI
  obtain ⟨z, hz⟩ := hc mm2 l1 h5
  refine ⟨z, ?_⟩
  refine J_aload_n rfl (i := 1) rfl dL_law_874 ?_
  refine J_aload_n rfl (i := 0) rfl dL_law_875 ?_
  refine J_iload (i := 4) rfl dL_law_876 ?_
  refine J_iconst (v := 1) (by decide) dL_law_878 ?_
  refine J_iadd dL_law_879 ?_
  refine J_sld (nI_add k 1) (by omega) hL dL_law_880 ?_
  refine J_aload_n rfl (i := 0) rfl dL_law_881 ?_
  refine J_iload (i := 4) rfl dL_law_882 ?_
  refine J_iconst (v := 2) (by decide) dL_law_884 ?_
  refine J_iadd dL_law_885 ?_
  refine J_sld (nI_add k 2) (by omega) hL dL_law_886 ?_
  refine J_aload_n rfl (i := 3) rfl dL_law_887 ?_
  refine J_callSH (Mc := M_L_freePositions) (as := [.ref 0, .int (Gs G (k + 1)), .int (Gs G (k + 2)), .ref 85]) (st := []) rfl gw_874 gw_107 ⟨by decide, by decide⟩ gw_873 gw_872 ⟨by decide, by decide⟩ cnt_L_freePositions rfl (Nat.le_of_ble_eq_true rfl) dL_law_888 (Nat.add_comm a 1) (Nat.add_comm b 6) h1 ?_
  refine J_istore [(5, .int kk), (4, .int (nI k)), (3, .ref 85), (2, .ref 63), (1, .ref 0), (0, .ref 1000)] (i := 5) (by decide) rfl dL_law_891 ?_
  refine J_aload_n rfl (i := 2) rfl dL_law_893 ?_
  refine J_aload_n rfl (i := 0) rfl dL_law_894 ?_
  refine J_iload (i := 4) rfl dL_law_895 ?_
  refine J_iconst (v := 1) (by decide) dL_law_897 ?_
  refine J_iadd dL_law_898 ?_
  refine J_sld (nI_add k 1) (by omega) hL dL_law_899 ?_
  refine J_aload_n rfl (i := 0) rfl dL_law_900 ?_
  refine J_iload (i := 4) rfl dL_law_901 ?_
  refine J_iconst (v := 2) (by decide) dL_law_903 ?_
  refine J_iadd dL_law_904 ?_
  refine J_sld (nI_add k 2) (by omega) hL dL_law_905 ?_
  refine J_callV (as := [.int (Gs G (k + 1)), .int (Gs G (k + 2))]) (k := 63) (st := []) cal_X10_freePositions cai_X10_freePositions gw_1743 ⟨by decide, by decide⟩ cnt_X10_freePositions sh_63 rfl rfl (Nat.le_of_ble_eq_true rfl) dL_law_906 (Nat.zero_add _).symm (Nat.zero_add _).symm h2 ?_
  refine J_istore [(6, .int bb), (5, .int kk), (4, .int (nI k)), (3, .ref 85), (2, .ref 63), (1, .ref 0), (0, .ref 1000)] (i := 6) (by decide) rfl dL_law_909 ?_
  refine J_aload_n rfl (i := 2) rfl dL_law_911 ?_
  refine J_callV (as := []) (k := 63) (st := []) cal_X10_thrown cai_X10_thrown gw_1557 ⟨by decide, by decide⟩ cnt_X10_thrown sh_63 rfl rfl (Nat.le_of_ble_eq_true rfl) dL_law_912 (Nat.zero_add _).symm (Nat.zero_add _).symm th_hyp ?_
  refine J_iload (i := 5) rfl dL_law_915 ?_
  refine J_icmp_eq (tgt := 922) dL_law_917 (by decide) (fun _ => ?_) (fun hn => absurd h3 hn)
  refine J_iload (i := 5) rfl dL_law_922 ?_
  refine J_if_ne (tgt := 939) dL_law_924 (by decide) (fun _ => ?_) (fun h0 => ?_)
  · refine J_goto (tgt := 3001) dL_law_939 (by decide) ?_
    refine J_iinc [(4, .int (nI k + 6)), (6, .int bb), (5, .int kk), (3, .ref 85), (2, .ref 63), (1, .ref 0), (0, .ref 1000)] (i := 4) (v := nI k + 6) rfl rfl (by decide) rfl dL_law_3001 ?_
    refine J_goto (tgt := 23) dL_law_3004 (by decide) ?_
    exact J_sub [0, 3, 4, 5, 6] rfl hz
  · refine J_aload_n rfl (i := 3) rfl dL_law_927 ?_
    refine J_iconst (v := 0) (by decide) dL_law_928 ?_
    refine J_lald sh_85 (by unfold vp_in; decide) dL_law_929 ?_
    refine J_iload (i := 6) rfl dL_law_930 ?_
    refine J_i2l dL_law_932 ?_
    refine J_lcmp dL_law_933 ?_
    refine J_if_eq (tgt := 939) dL_law_934 (by decide) (fun _ => ?_) (fun hn => absurd ((lg_cmp_eq _ _).mpr (h4 h0)) hn)
    refine J_goto (tgt := 3001) dL_law_939 (by decide) ?_
    refine J_iinc [(4, .int (nI k + 6)), (6, .int bb), (5, .int kk), (3, .ref 85), (2, .ref 63), (1, .ref 0), (0, .ref 1000)] (i := 4) (v := nI k + 6) rfl rfl (by decide) rfl dL_law_3001 ?_
    refine J_goto (tgt := 23) dL_law_3004 (by decide) ?_
    exact J_sub [0, 3, 4, 5, 6] rfl hz
end Law
