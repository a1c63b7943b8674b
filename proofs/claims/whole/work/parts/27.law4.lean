/-! the law, by cases -/
section Law
variable {G : Gx} {I : (Nat → Nat → Int32) → Prop} {mm : Nat → Nat → Int32} {lm : Nat → Int64} {o : Ou} {a b k : Nat}
theorem law_36 (hk : k + 5 < Gn G) (hL : Gn G < 2 ^ 31) (hop : OpW G I M_L_soundsAt M_X10_soundsAt [.int (Gs G (k + 1))] cmpI) (hI : I mm) (hc : ∀ mm2 l1, I mm2 → ∃ z, J G M_L_law 23 [(4, .int (nI k + 6)), (3, .ref 85), (2, .ref 63), (1, .ref 0), (0, .ref 1000)] [] (SH, mm2, l1) false o z false a b) :
    ∃ z, J G M_L_law 2377 [(4, .int (nI k)), (3, .ref 85), (2, .ref 63), (1, .ref 0), (0, .ref 1000)] [] (SH, mm, lm) false o z false (a + 1) (b + 6) := by
  obtain ⟨kk, mm1, l1, bb, mm2, h1, h2, h3, h4, h5⟩ := hop mm lm hI
  obtain ⟨z, hz⟩ := hc mm2 l1 h5
  refine ⟨z, ?_⟩
  refine J_aload_n rfl (i := 1) rfl dL_law_2377 ?_
  refine J_aload_n rfl (i := 0) rfl dL_law_2378 ?_
  refine J_iload (i := 4) rfl dL_law_2379 ?_
  refine J_iconst (v := 1) (by decide) dL_law_2381 ?_
  refine J_iadd dL_law_2382 ?_
  refine J_sld (nI_add k 1) (by omega) hL dL_law_2383 ?_
  refine J_aload_n rfl (i := 3) rfl dL_law_2384 ?_
  refine J_callSH (Mc := M_L_soundsAt) (as := [.ref 0, .int (Gs G (k + 1)), .ref 85]) (st := []) rfl gw_1263 gw_107 ⟨by decide, by decide⟩ gw_1262 gw_1261 ⟨by decide, by decide⟩ cnt_L_soundsAt rfl (Nat.le_of_ble_eq_true rfl) dL_law_2385 (Nat.add_comm a 1) (Nat.add_comm b 6) h1 ?_
  refine J_istore [(5, .int kk), (4, .int (nI k)), (3, .ref 85), (2, .ref 63), (1, .ref 0), (0, .ref 1000)] (i := 5) (by decide) rfl dL_law_2388 ?_
  refine J_aload_n rfl (i := 2) rfl dL_law_2390 ?_
  refine J_aload_n rfl (i := 0) rfl dL_law_2391 ?_
  refine J_iload (i := 4) rfl dL_law_2392 ?_
  refine J_iconst (v := 1) (by decide) dL_law_2394 ?_
  refine J_iadd dL_law_2395 ?_
  refine J_sld (nI_add k 1) (by omega) hL dL_law_2396 ?_
  refine J_callV (as := [.int (Gs G (k + 1))]) (k := 63) (st := []) cal_X10_soundsAt cai_X10_soundsAt gw_1965 ⟨by decide, by decide⟩ cnt_X10_soundsAt sh_63 rfl rfl (Nat.le_of_ble_eq_true rfl) dL_law_2397 (Nat.zero_add _).symm (Nat.zero_add _).symm h2 ?_
  refine J_istore [(6, .int bb), (5, .int kk), (4, .int (nI k)), (3, .ref 85), (2, .ref 63), (1, .ref 0), (0, .ref 1000)] (i := 6) (by decide) rfl dL_law_2400 ?_
  refine J_aload_n rfl (i := 2) rfl dL_law_2402 ?_
  refine J_callV (as := []) (k := 63) (st := []) cal_X10_thrown cai_X10_thrown gw_1557 ⟨by decide, by decide⟩ cnt_X10_thrown sh_63 rfl rfl (Nat.le_of_ble_eq_true rfl) dL_law_2403 (Nat.zero_add _).symm (Nat.zero_add _).symm th_hyp ?_
  refine J_iload (i := 5) rfl dL_law_2406 ?_
  refine J_icmp_eq (tgt := 2413) dL_law_2408 (by decide) (fun _ => ?_) (fun hn => absurd h3 hn)
  refine J_iload (i := 5) rfl dL_law_2413 ?_
  refine J_if_ne (tgt := 2430) dL_law_2415 (by decide) (fun _ => ?_) (fun h0 => ?_)
  · refine J_goto (tgt := 3001) dL_law_2430 (by decide) ?_
    refine J_iinc [(4, .int (nI k + 6)), (6, .int bb), (5, .int kk), (3, .ref 85), (2, .ref 63), (1, .ref 0), (0, .ref 1000)] (i := 4) (v := nI k + 6) rfl rfl (by decide) rfl dL_law_3001 ?_
    refine J_goto (tgt := 23) dL_law_3004 (by decide) ?_
    exact J_sub [0, 3, 4, 5, 6] rfl hz
  · refine J_aload_n rfl (i := 3) rfl dL_law_2418 ?_
    refine J_iconst (v := 0) (by decide) dL_law_2419 ?_
    refine J_lald sh_85 (by unfold vp_in; decide) dL_law_2420 ?_
    refine J_iload (i := 6) rfl dL_law_2421 ?_
    refine J_i2l dL_law_2423 ?_
    refine J_lcmp dL_law_2424 ?_
    refine J_if_eq (tgt := 2430) dL_law_2425 (by decide) (fun _ => ?_) (fun hn => absurd ((lg_cmp_eq _ _).mpr (h4 h0)) hn)
    refine J_goto (tgt := 3001) dL_law_2430 (by decide) ?_
    refine J_iinc [(4, .int (nI k + 6)), (6, .int bb), (5, .int kk), (3, .ref 85), (2, .ref 63), (1, .ref 0), (0, .ref 1000)] (i := 4) (v := nI k + 6) rfl rfl (by decide) rfl dL_law_3001 ?_
    refine J_goto (tgt := 23) dL_law_3004 (by decide) ?_
    exact J_sub [0, 3, 4, 5, 6] rfl hz
theorem law_37 (hk : k + 5 < Gn G) (hL : Gn G < 2 ^ 31) (hop : OpW G I M_L_soundsPerDay M_X10_soundsPerDay [.int (Gs G (k + 1))] cmpI) (hI : I mm) (hc : ∀ mm2 l1, I mm2 → ∃ z, J G M_L_law 23 [(4, .int (nI k + 6)), (3, .ref 85), (2, .ref 63), (1, .ref 0), (0, .ref 1000)] [] (SH, mm2, l1) false o z false a b) :
    ∃ z, J G M_L_law 2433 [(4, .int (nI k)), (3, .ref 85), (2, .ref 63), (1, .ref 0), (0, .ref 1000)] [] (SH, mm, lm) false o z false (a + 1) (b + 6) := by
  obtain ⟨kk, mm1, l1, bb, mm2, h1, h2, h3, h4, h5⟩ := hop mm lm hI
  obtain ⟨z, hz⟩ := hc mm2 l1 h5
  refine ⟨z, ?_⟩
  refine J_aload_n rfl (i := 1) rfl dL_law_2433 ?_
  refine J_aload_n rfl (i := 0) rfl dL_law_2434 ?_
  refine J_iload (i := 4) rfl dL_law_2435 ?_
  refine J_iconst (v := 1) (by decide) dL_law_2437 ?_
  refine J_iadd dL_law_2438 ?_
  refine J_sld (nI_add k 1) (by omega) hL dL_law_2439 ?_
  refine J_aload_n rfl (i := 3) rfl dL_law_2440 ?_
  refine J_callSH (Mc := M_L_soundsPerDay) (as := [.ref 0, .int (Gs G (k + 1)), .ref 85]) (st := []) rfl gw_1284 gw_107 ⟨by decide, by decide⟩ gw_1283 gw_1282 ⟨by decide, by decide⟩ cnt_L_soundsPerDay rfl (Nat.le_of_ble_eq_true rfl) dL_law_2441 (Nat.add_comm a 1) (Nat.add_comm b 6) h1 ?_
  refine J_istore [(5, .int kk), (4, .int (nI k)), (3, .ref 85), (2, .ref 63), (1, .ref 0), (0, .ref 1000)] (i := 5) (by decide) rfl dL_law_2444 ?_
  refine J_aload_n rfl (i := 2) rfl dL_law_2446 ?_
  refine J_aload_n rfl (i := 0) rfl dL_law_2447 ?_
  refine J_iload (i := 4) rfl dL_law_2448 ?_
  refine J_iconst (v := 1) (by decide) dL_law_2450 ?_
  refine J_iadd dL_law_2451 ?_
  refine J_sld (nI_add k 1) (by omega) hL dL_law_2452 ?_
  refine J_callV (as := [.int (Gs G (k + 1))]) (k := 63) (st := []) cal_X10_soundsPerDay cai_X10_soundsPerDay gw_1977 ⟨by decide, by decide⟩ cnt_X10_soundsPerDay sh_63 rfl rfl (Nat.le_of_ble_eq_true rfl) dL_law_2453 (Nat.zero_add _).symm (Nat.zero_add _).symm h2 ?_
  refine J_istore [(6, .int bb), (5, .int kk), (4, .int (nI k)), (3, .ref 85), (2, .ref 63), (1, .ref 0), (0, .ref 1000)] (i := 6) (by decide) rfl dL_law_2456 ?_
  refine J_aload_n rfl (i := 2) rfl dL_law_2458 ?_
  refine J_callV (as := []) (k := 63) (st := []) cal_X10_thrown cai_X10_thrown gw_1557 ⟨by decide, by decide⟩ cnt_X10_thrown sh_63 rfl rfl (Nat.le_of_ble_eq_true rfl) dL_law_2459 (Nat.zero_add _).symm (Nat.zero_add _).symm th_hyp ?_
  refine J_iload (i := 5) rfl dL_law_2462 ?_
  refine J_icmp_eq (tgt := 2469) dL_law_2464 (by decide) (fun _ => ?_) (fun hn => absurd h3 hn)
  refine J_iload (i := 5) rfl dL_law_2469 ?_
  refine J_if_ne (tgt := 2486) dL_law_2471 (by decide) (fun _ => ?_) (fun h0 => ?_)
  · refine J_goto (tgt := 3001) dL_law_2486 (by decide) ?_
    refine J_iinc [(4, .int (nI k + 6)), (6, .int bb), (5, .int kk), (3, .ref 85), (2, .ref 63), (1, .ref 0), (0, .ref 1000)] (i := 4) (v := nI k + 6) rfl rfl (by decide) rfl dL_law_3001 ?_
    refine J_goto (tgt := 23) dL_law_3004 (by decide) ?_
    exact J_sub [0, 3, 4, 5, 6] rfl hz
  · refine J_aload_n rfl (i := 3) rfl dL_law_2474 ?_
    refine J_iconst (v := 0) (by decide) dL_law_2475 ?_
    refine J_lald sh_85 (by unfold vp_in; decide) dL_law_2476 ?_
    refine J_iload (i := 6) rfl dL_law_2477 ?_
    refine J_i2l dL_law_2479 ?_
    refine J_lcmp dL_law_2480 ?_
    refine J_if_eq (tgt := 2486) dL_law_2481 (by decide) (fun _ => ?_) (fun hn => absurd ((lg_cmp_eq _ _).mpr (h4 h0)) hn)
    refine J_goto (tgt := 3001) dL_law_2486 (by decide) ?_
    refine J_iinc [(4, .int (nI k + 6)), (6, .int bb), (5, .int kk), (3, .ref 85), (2, .ref 63), (1, .ref 0), (0, .ref 1000)] (i := 4) (v := nI k + 6) rfl rfl (by decide) rfl dL_law_3001 ?_
    refine J_goto (tgt := 23) dL_law_3004 (by decide) ?_
    exact J_sub [0, 3, 4, 5, 6] rfl hz
theorem law_38 (hk : k + 5 < Gn G) (hL : Gn G < 2 ^ 31) (hop : OpW G I M_L_nextSound M_X10_nextSound [.int (Gs G (k + 1))] cmpI) (hI : I mm) (hc : ∀ mm2 l1, I mm2 → ∃ z, J G M_L_law 23 [(4, .int (nI k + 6)), (3, .ref 85), (2, .ref 63), (1, .ref 0), (0, .ref 1000)] [] (SH, mm2, l1) false o z false a b) :
    ∃ z, J G M_L_law 2489 [(4, .int (nI k)), (3, .ref 85), (2, .ref 63), (1, .ref 0), (0, .ref 1000)] [] (SH, mm, lm) false o z false (a + 1) (b + 6) := by
  obtain ⟨kk, mm1, l1, bb, mm2, h1, h2, h3, h4, h5⟩ := hop mm lm hI
  obtain ⟨z, hz⟩ := hc mm2 l1 h5
  refine ⟨z, ?_⟩
  refine J_aload_n rfl (i := 1) rfl dL_law_2489 ?_
  refine J_aload_n rfl (i := 0) rfl dL_law_2490 ?_
  refine J_iload (i := 4) rfl dL_law_2491 ?_
  refine J_iconst (v := 1) (by decide) dL_law_2493 ?_
  refine J_iadd dL_law_2494 ?_
  refine J_sld (nI_add k 1) (by omega) hL dL_law_2495 ?_
  refine J_aload_n rfl (i := 3) rfl dL_law_2496 ?_
  refine J_callSH (Mc := M_L_nextSound) (as := [.ref 0, .int (Gs G (k + 1)), .ref 85]) (st := []) rfl gw_1295 gw_107 ⟨by decide, by decide⟩ gw_1294 gw_1293 ⟨by decide, by decide⟩ cnt_L_nextSound rfl (Nat.le_of_ble_eq_true rfl) dL_law_2497 (Nat.add_comm a 1) (Nat.add_comm b 6) h1 ?_
  refine J_istore [(5, .int kk), (4, .int (nI k)), (3, .ref 85), (2, .ref 63), (1, .ref 0), (0, .ref 1000)] (i := 5) (by decide) rfl dL_law_2500 ?_
  refine J_aload_n rfl (i := 2) rfl dL_law_2502 ?_
  refine J_aload_n rfl (i := 0) rfl dL_law_2503 ?_
  refine J_iload (i := 4) rfl dL_law_2504 ?_
  refine J_iconst (v := 1) (by decide) dL_law_2506 ?_
  refine J_iadd dL_law_2507 ?_
  refine J_sld (nI_add k 1) (by omega) hL dL_law_2508 ?_
  refine J_callV (as := [.int (Gs G (k + 1))]) (k := 63) (st := []) cal_X10_nextSound cai_X10_nextSound gw_1981 ⟨by decide, by decide⟩ cnt_X10_nextSound sh_63 rfl rfl (Nat.le_of_ble_eq_true rfl) dL_law_2509 (Nat.zero_add _).symm (Nat.zero_add _).symm h2 ?_
  refine J_istore [(6, .int bb), (5, .int kk), (4, .int (nI k)), (3, .ref 85), (2, .ref 63), (1, .ref 0), (0, .ref 1000)] (i := 6) (by decide) rfl dL_law_2512 ?_
  refine J_aload_n rfl (i := 2) rfl dL_law_2514 ?_
  refine J_callV (as := []) (k := 63) (st := []) cal_X10_thrown cai_X10_thrown gw_1557 ⟨by decide, by decide⟩ cnt_X10_thrown sh_63 rfl rfl (Nat.le_of_ble_eq_true rfl) dL_law_2515 (Nat.zero_add _).symm (Nat.zero_add _).symm th_hyp ?_
  refine J_iload (i := 5) rfl dL_law_2518 ?_
  refine J_icmp_eq (tgt := 2525) dL_law_2520 (by decide) (fun _ => ?_) (fun hn => absurd h3 hn)
  refine J_iload (i := 5) rfl dL_law_2525 ?_
  refine J_if_ne (tgt := 2542) dL_law_2527 (by decide) (fun _ => ?_) (fun h0 => ?_)
  · refine J_goto (tgt := 3001) dL_law_2542 (by decide) ?_
    refine J_iinc [(4, .int (nI k + 6)), (6, .int bb), (5, .int kk), (3, .ref 85), (2, .ref 63), (1, .ref 0), (0, .ref 1000)] (i := 4) (v := nI k + 6) rfl rfl (by decide) rfl dL_law_3001 ?_
    refine J_goto (tgt := 23) dL_law_3004 (by decide) ?_
    exact J_sub [0, 3, 4, 5, 6] rfl hz
  · refine J_aload_n rfl (i := 3) rfl dL_law_2530 ?_
    refine J_iconst (v := 0) (by decide) dL_law_2531 ?_
    refine J_lald sh_85 (by unfold vp_in; decide) dL_law_2532 ?_
    refine J_iload (i := 6) rfl dL_law_2533 ?_
    refine J_i2l dL_law_2535 ?_
    refine J_lcmp dL_law_2536 ?_
    refine J_if_eq (tgt := 2542) dL_law_2537 (by decide) (fun _ => ?_) (fun hn => absurd ((lg_cmp_eq _ _).mpr (h4 h0)) hn)
    refine J_goto (tgt := 3001) dL_law_2542 (by decide) ?_
    refine J_iinc [(4, .int (nI k + 6)), (6, .int bb), (5, .int kk), (3, .ref 85), (2, .ref 63), (1, .ref 0), (0, .ref 1000)] (i := 4) (v := nI k + 6) rfl rfl (by decide) rfl dL_law_3001 ?_
    refine J_goto (tgt := 23) dL_law_3004 (by decide) ?_
    exact J_sub [0, 3, 4, 5, 6] rfl hz
theorem law_39 (hk : k + 5 < Gn G) (hL : Gn G < 2 ^ 31) (hop : OpW G I M_L_busiestMinute M_X10_busiestMinute [] cmpI) (hI : I mm) (hc : ∀ mm2 l1, I mm2 → ∃ z, J G M_L_law 23 [(4, .int (nI k + 6)), (3, .ref 85), (2, .ref 63), (1, .ref 0), (0, .ref 1000)] [] (SH, mm2, l1) false o z false a b) :
    ∃ z, J G M_L_law 2545 [(4, .int (nI k)), (3, .ref 85), (2, .ref 63), (1, .ref 0), (0, .ref 1000)] [] (SH, mm, lm) false o z false (a + 1) (b + 6) := by
  obtain ⟨kk, mm1, l1, bb, mm2, h1, h2, h3, h4, h5⟩ := hop mm lm hI
  obtain ⟨z, hz⟩ := hc mm2 l1 h5
  refine ⟨z, ?_⟩
  refine J_aload_n rfl (i := 1) rfl dL_law_2545 ?_
  refine J_aload_n rfl (i := 3) rfl dL_law_2546 ?_
  refine J_callSH (Mc := M_L_busiestMinute) (as := [.ref 0, .ref 85]) (st := []) rfl gw_1307 gw_107 ⟨by decide, by decide⟩ gw_1306 gw_1305 ⟨by decide, by decide⟩ cnt_L_busiestMinute rfl (Nat.le_of_ble_eq_true rfl) dL_law_2547 (Nat.add_comm a 1) (Nat.add_comm b 6) h1 ?_
  refine J_istore [(5, .int kk), (4, .int (nI k)), (3, .ref 85), (2, .ref 63), (1, .ref 0), (0, .ref 1000)] (i := 5) (by decide) rfl dL_law_2550 ?_
  refine J_aload_n rfl (i := 2) rfl dL_law_2552 ?_
  refine J_callV (as := []) (k := 63) (st := []) cal_X10_busiestMinute cai_X10_busiestMinute gw_1985 ⟨by decide, by decide⟩ cnt_X10_busiestMinute sh_63 rfl rfl (Nat.le_of_ble_eq_true rfl) dL_law_2553 (Nat.zero_add _).symm (Nat.zero_add _).symm h2 ?_
  refine J_istore [(6, .int bb), (5, .int kk), (4, .int (nI k)), (3, .ref 85), (2, .ref 63), (1, .ref 0), (0, .ref 1000)] (i := 6) (by decide) rfl dL_law_2556 ?_
  refine J_aload_n rfl (i := 2) rfl dL_law_2558 ?_
  refine J_callV (as := []) (k := 63) (st := []) cal_X10_thrown cai_X10_thrown gw_1557 ⟨by decide, by decide⟩ cnt_X10_thrown sh_63 rfl rfl (Nat.le_of_ble_eq_true rfl) dL_law_2559 (Nat.zero_add _).symm (Nat.zero_add _).symm th_hyp ?_
  refine J_iload (i := 5) rfl dL_law_2562 ?_
  refine J_icmp_eq (tgt := 2569) dL_law_2564 (by decide) (fun _ => ?_) (fun hn => absurd h3 hn)
  refine J_iload (i := 5) rfl dL_law_2569 ?_
  refine J_if_ne (tgt := 2586) dL_law_2571 (by decide) (fun _ => ?_) (fun h0 => ?_)
  · refine J_goto (tgt := 3001) dL_law_2586 (by decide) ?_
    refine J_iinc [(4, .int (nI k + 6)), (6, .int bb), (5, .int kk), (3, .ref 85), (2, .ref 63), (1, .ref 0), (0, .ref 1000)] (i := 4) (v := nI k + 6) rfl rfl (by decide) rfl dL_law_3001 ?_
    refine J_goto (tgt := 23) dL_law_3004 (by decide) ?_
    exact J_sub [0, 3, 4, 5, 6] rfl hz
  · refine J_aload_n rfl (i := 3) rfl dL_law_2574 ?_
    refine J_iconst (v := 0) (by decide) dL_law_2575 ?_
    refine J_lald sh_85 (by unfold vp_in; decide) dL_law_2576 ?_
    refine J_iload (i := 6) rfl dL_law_2577 ?_
    refine J_i2l dL_law_2579 ?_
    refine J_lcmp dL_law_2580 ?_
    refine J_if_eq (tgt := 2586) dL_law_2581 (by decide) (fun _ => ?_) (fun hn => absurd ((lg_cmp_eq _ _).mpr (h4 h0)) hn)
    refine J_goto (tgt := 3001) dL_law_2586 (by decide) ?_
    refine J_iinc [(4, .int (nI k + 6)), (6, .int bb), (5, .int kk), (3, .ref 85), (2, .ref 63), (1, .ref 0), (0, .ref 1000)] (i := 4) (v := nI k + 6) rfl rfl (by decide) rfl dL_law_3001 ?_
    refine J_goto (tgt := 23) dL_law_3004 (by decide) ?_
    exact J_sub [0, 3, 4, 5, 6] rfl hz
theorem law_40 (hk : k + 5 < Gn G) (hL : Gn G < 2 ^ 31) (hop : OpW G I M_L_soundTogether M_X10_soundTogether [.int (Gs G (k + 1)), .int (Gs G (k + 2))] cmpI) (hI : I mm) (hc : ∀ mm2 l1, I mm2 → ∃ z, J G M_L_law 23 [(4, .int (nI k + 6)), (3, .ref 85), (2, .ref 63), (1, .ref 0), (0, .ref 1000)] [] (SH, mm2, l1) false o z false a b) :
    ∃ z, J G M_L_law 2589 [(4, .int (nI k)), (3, .ref 85), (2, .ref 63), (1, .ref 0), (0, .ref 1000)] [] (SH, mm, lm) false o z false (a + 1) (b + 6) := by
  obtain ⟨kk, mm1, l1, bb, mm2, h1, h2, h3, h4, h5⟩ := hop mm lm hI
  obtain ⟨z, hz⟩ := hc mm2 l1 h5
  refine ⟨z, ?_⟩
  refine J_aload_n rfl (i := 1) rfl dL_law_2589 ?_
  refine J_aload_n rfl (i := 0) rfl dL_law_2590 ?_
  refine J_iload (i := 4) rfl dL_law_2591 ?_
  refine J_iconst (v := 1) (by decide) dL_law_2593 ?_
  refine J_iadd dL_law_2594 ?_
  refine J_sld (nI_add k 1) (by omega) hL dL_law_2595 ?_
  refine J_aload_n rfl (i := 0) rfl dL_law_2596 ?_
  refine J_iload (i := 4) rfl dL_law_2597 ?_
  refine J_iconst (v := 2) (by decide) dL_law_2599 ?_
  refine J_iadd dL_law_2600 ?_
  refine J_sld (nI_add k 2) (by omega) hL dL_law_2601 ?_
  refine J_aload_n rfl (i := 3) rfl dL_law_2602 ?_
  refine J_callSH (Mc := M_L_soundTogether) (as := [.ref 0, .int (Gs G (k + 1)), .int (Gs G (k + 2)), .ref 85]) (st := []) rfl gw_1319 gw_107 ⟨by decide, by decide⟩ gw_1318 gw_1317 ⟨by decide, by decide⟩ cnt_L_soundTogether rfl (Nat.le_of_ble_eq_true rfl) dL_law_2603 (Nat.add_comm a 1) (Nat.add_comm b 6) h1 ?_
  refine J_istore [(5, .int kk), (4, .int (nI k)), (3, .ref 85), (2, .ref 63), (1, .ref 0), (0, .ref 1000)] (i := 5) (by decide) rfl dL_law_2606 ?_
  refine J_aload_n rfl (i := 2) rfl dL_law_2608 ?_
  refine J_aload_n rfl (i := 0) rfl dL_law_2609 ?_
  refine J_iload (i := 4) rfl dL_law_2610 ?_
  refine J_iconst (v := 1) (by decide) dL_law_2612 ?_
  refine J_iadd dL_law_2613 ?_
  refine J_sld (nI_add k 1) (by omega) hL dL_law_2614 ?_
  refine J_aload_n rfl (i := 0) rfl dL_law_2615 ?_
  refine J_iload (i := 4) rfl dL_law_2616 ?_
  refine J_iconst (v := 2) (by decide) dL_law_2618 ?_
  refine J_iadd dL_law_2619 ?_
  refine J_sld (nI_add k 2) (by omega) hL dL_law_2620 ?_
  refine J_callV (as := [.int (Gs G (k + 1)), .int (Gs G (k + 2))]) (k := 63) (st := []) cal_X10_soundTogether cai_X10_soundTogether gw_1989 ⟨by decide, by decide⟩ cnt_X10_soundTogether sh_63 rfl rfl (Nat.le_of_ble_eq_true rfl) dL_law_2621 (Nat.zero_add _).symm (Nat.zero_add _).symm h2 ?_
  refine J_istore [(6, .int bb), (5, .int kk), (4, .int (nI k)), (3, .ref 85), (2, .ref 63), (1, .ref 0), (0, .ref 1000)] (i := 6) (by decide) rfl dL_law_2624 ?_
  refine J_aload_n rfl (i := 2) rfl dL_law_2626 ?_
  refine J_callV (as := []) (k := 63) (st := []) cal_X10_thrown cai_X10_thrown gw_1557 ⟨by decide, by decide⟩ cnt_X10_thrown sh_63 rfl rfl (Nat.le_of_ble_eq_true rfl) dL_law_2627 (Nat.zero_add _).symm (Nat.zero_add _).symm th_hyp ?_
  refine J_iload (i := 5) rfl dL_law_2630 ?_
  refine J_icmp_eq (tgt := 2637) dL_law_2632 (by decide) (fun _ => ?_) (fun hn => absurd h3 hn)
  refine J_iload (i := 5) rfl dL_law_2637 ?_
  refine J_if_ne (tgt := 2654) dL_law_2639 (by decide) (fun _ => ?_) (fun h0 => ?_)
  · refine J_goto (tgt := 3001) dL_law_2654 (by decide) ?_
    refine J_iinc [(4, .int (nI k + 6)), (6, .int bb), (5, .int kk), (3, .ref 85), (2, .ref 63), (1, .ref 0), (0, .ref 1000)] (i := 4) (v := nI k + 6) rfl rfl (by decide) rfl dL_law_3001 ?_
    refine J_goto (tgt := 23) dL_law_3004 (by decide) ?_
    exact J_sub [0, 3, 4, 5, 6] rfl hz
  · refine J_aload_n rfl (i := 3) rfl dL_law_2642 ?_
    refine J_iconst (v := 0) (by decide) dL_law_2643 ?_
    refine J_lald sh_85 (by unfold vp_in; decide) dL_law_2644 ?_
    refine J_iload (i := 6) rfl dL_law_2645 ?_
    refine J_i2l dL_law_2647 ?_
    refine J_lcmp dL_law_2648 ?_
    refine J_if_eq (tgt := 2654) dL_law_2649 (by decide) (fun _ => ?_) (fun hn => absurd ((lg_cmp_eq _ _).mpr (h4 h0)) hn)
    refine J_goto (tgt := 3001) dL_law_2654 (by decide) ?_
    refine J_iinc [(4, .int (nI k + 6)), (6, .int bb), (5, .int kk), (3, .ref 85), (2, .ref 63), (1, .ref 0), (0, .ref 1000)] (i := 4) (v := nI k + 6) rfl rfl (by decide) rfl dL_law_3001 ?_
    refine J_goto (tgt := 23) dL_law_3004 (by decide) ?_
    exact J_sub [0, 3, 4, 5, 6] rfl hz
theorem law_41 (hk : k + 5 < Gn G) (hL : Gn G < 2 ^ 31) (hop : OpW G I M_L_leastDelay M_X10_leastDelay [.int (Gs G (k + 1))] cmpI) (hI : I mm) (hc : ∀ mm2 l1, I mm2 → ∃ z, J G M_L_law 23 [(4, .int (nI k + 6)), (3, .ref 85), (2, .ref 63), (1, .ref 0), (0, .ref 1000)] [] (SH, mm2, l1) false o z false a b) :
    ∃ z, J G M_L_law 2657 [(4, .int (nI k)), (3, .ref 85), (2, .ref 63), (1, .ref 0), (0, .ref 1000)] [] (SH, mm, lm) false o z false (a + 1) (b + 6) := by
  obtain ⟨kk, mm1, l1, bb, mm2, h1, h2, h3, h4, h5⟩ := hop mm lm hI
  obtain ⟨z, hz⟩ := hc mm2 l1 h5
  refine ⟨z, ?_⟩
  refine J_aload_n rfl (i := 1) rfl dL_law_2657 ?_
  refine J_aload_n rfl (i := 0) rfl dL_law_2658 ?_
  refine J_iload (i := 4) rfl dL_law_2659 ?_
  refine J_iconst (v := 1) (by decide) dL_law_2661 ?_
  refine J_iadd dL_law_2662 ?_
  refine J_sld (nI_add k 1) (by omega) hL dL_law_2663 ?_
  refine J_aload_n rfl (i := 3) rfl dL_law_2664 ?_
  refine J_callSH (Mc := M_L_leastDelay) (as := [.ref 0, .int (Gs G (k + 1)), .ref 85]) (st := []) rfl gw_1326 gw_107 ⟨by decide, by decide⟩ gw_1325 gw_1324 ⟨by decide, by decide⟩ cnt_L_leastDelay rfl (Nat.le_of_ble_eq_true rfl) dL_law_2665 (Nat.add_comm a 1) (Nat.add_comm b 6) h1 ?_
  refine J_istore [(5, .int kk), (4, .int (nI k)), (3, .ref 85), (2, .ref 63), (1, .ref 0), (0, .ref 1000)] (i := 5) (by decide) rfl dL_law_2668 ?_
  refine J_aload_n rfl (i := 2) rfl dL_law_2670 ?_
  refine J_aload_n rfl (i := 0) rfl dL_law_2671 ?_
  refine J_iload (i := 4) rfl dL_law_2672 ?_
  refine J_iconst (v := 1) (by decide) dL_law_2674 ?_
  refine J_iadd dL_law_2675 ?_
  refine J_sld (nI_add k 1) (by omega) hL dL_law_2676 ?_
  refine J_callV (as := [.int (Gs G (k + 1))]) (k := 63) (st := []) cal_X10_leastDelay cai_X10_leastDelay gw_1993 ⟨by decide, by decide⟩ cnt_X10_leastDelay sh_63 rfl rfl (Nat.le_of_ble_eq_true rfl) dL_law_2677 (Nat.zero_add _).symm (Nat.zero_add _).symm h2 ?_
  refine J_istore [(6, .int bb), (5, .int kk), (4, .int (nI k)), (3, .ref 85), (2, .ref 63), (1, .ref 0), (0, .ref 1000)] (i := 6) (by decide) rfl dL_law_2680 ?_
  refine J_aload_n rfl (i := 2) rfl dL_law_2682 ?_
  refine J_callV (as := []) (k := 63) (st := []) cal_X10_thrown cai_X10_thrown gw_1557 ⟨by decide, by decide⟩ cnt_X10_thrown sh_63 rfl rfl (Nat.le_of_ble_eq_true rfl) dL_law_2683 (Nat.zero_add _).symm (Nat.zero_add _).symm th_hyp ?_
  refine J_iload (i := 5) rfl dL_law_2686 ?_
  refine J_icmp_eq (tgt := 2693) dL_law_2688 (by decide) (fun _ => ?_) (fun hn => absurd h3 hn)
  refine J_iload (i := 5) rfl dL_law_2693 ?_
  refine J_if_ne (tgt := 2710) dL_law_2695 (by decide) (fun _ => ?_) (fun h0 => ?_)
  · refine J_goto (tgt := 3001) dL_law_2710 (by decide) ?_
    refine J_iinc [(4, .int (nI k + 6)), (6, .int bb), (5, .int kk), (3, .ref 85), (2, .ref 63), (1, .ref 0), (0, .ref 1000)] (i := 4) (v := nI k + 6) rfl rfl (by decide) rfl dL_law_3001 ?_
    refine J_goto (tgt := 23) dL_law_3004 (by decide) ?_
    exact J_sub [0, 3, 4, 5, 6] rfl hz
  · refine J_aload_n rfl (i := 3) rfl dL_law_2698 ?_
    refine J_iconst (v := 0) (by decide) dL_law_2699 ?_
    refine J_lald sh_85 (by unfold vp_in; decide) dL_law_2700 ?_
    refine J_iload (i := 6) rfl dL_law_2701 ?_
    refine J_i2l dL_law_2703 ?_
    refine J_lcmp dL_law_2704 ?_
    refine J_if_eq (tgt := 2710) dL_law_2705 (by decide) (fun _ => ?_) (fun hn => absurd ((lg_cmp_eq _ _).mpr (h4 h0)) hn)
    refine J_goto (tgt := 3001) dL_law_2710 (by decide) ?_
    refine J_iinc [(4, .int (nI k + 6)), (6, .int bb), (5, .int kk), (3, .ref 85), (2, .ref 63), (1, .ref 0), (0, .ref 1000)] (i := 4) (v := nI k + 6) rfl rfl (by decide) rfl dL_law_3001 ?_
    refine J_goto (tgt := 23) dL_law_3004 (by decide) ?_
    exact J_sub [0, 3, 4, 5, 6] rfl hz
theorem law_42 (hk : k + 5 < Gn G) (hL : Gn G < 2 ^ 31) (hop : OpW G I M_L_ropeLength M_X10_ropeLength [.int (Gs G (k + 1))] cmpI) (hI : I mm) (hc : ∀ mm2 l1, I mm2 → ∃ z, J G M_L_law 23 [(4, .int (nI k + 6)), (3, .ref 85), (2, .ref 63), (1, .ref 0), (0, .ref 1000)] [] (SH, mm2, l1) false o z false a b) :
    ∃ z, J G M_L_law 2713 [(4, .int (nI k)), (3, .ref 85), (2, .ref 63), (1, .ref 0), (0, .ref 1000)] [] (SH, mm, lm) false o z false (a + 1) (b + 6) := by
  obtain ⟨kk, mm1, l1, bb, mm2, h1, h2, h3, h4, h5⟩ := hop mm lm hI
  obtain ⟨z, hz⟩ := hc mm2 l1 h5
  refine ⟨z, ?_⟩
  refine J_aload_n rfl (i := 1) rfl dL_law_2713 ?_
  refine J_aload_n rfl (i := 0) rfl dL_law_2714 ?_
  refine J_iload (i := 4) rfl dL_law_2715 ?_
  refine J_iconst (v := 1) (by decide) dL_law_2717 ?_
  refine J_iadd dL_law_2718 ?_
  refine J_sld (nI_add k 1) (by omega) hL dL_law_2719 ?_
  refine J_aload_n rfl (i := 3) rfl dL_law_2720 ?_
  refine J_callSH (Mc := M_L_ropeLength) (as := [.ref 0, .int (Gs G (k + 1)), .ref 85]) (st := []) rfl gw_1341 gw_107 ⟨by decide, by decide⟩ gw_1340 gw_1339 ⟨by decide, by decide⟩ cnt_L_ropeLength rfl (Nat.le_of_ble_eq_true rfl) dL_law_2721 (Nat.add_comm a 1) (Nat.add_comm b 6) h1 ?_
  refine J_istore [(5, .int kk), (4, .int (nI k)), (3, .ref 85), (2, .ref 63), (1, .ref 0), (0, .ref 1000)] (i := 5) (by decide) rfl dL_law_2724 ?_
  refine J_aload_n rfl (i := 2) rfl dL_law_2726 ?_
  refine J_aload_n rfl (i := 0) rfl dL_law_2727 ?_
  refine J_iload (i := 4) rfl dL_law_2728 ?_
  refine J_iconst (v := 1) (by decide) dL_law_2730 ?_
  refine J_iadd dL_law_2731 ?_
  refine J_sld (nI_add k 1) (by omega) hL dL_law_2732 ?_
  refine J_callV (as := [.int (Gs G (k + 1))]) (k := 63) (st := []) cal_X10_ropeLength cai_X10_ropeLength gw_2001 ⟨by decide, by decide⟩ cnt_X10_ropeLength sh_63 rfl rfl (Nat.le_of_ble_eq_true rfl) dL_law_2733 (Nat.zero_add _).symm (Nat.zero_add _).symm h2 ?_
  refine J_istore [(6, .int bb), (5, .int kk), (4, .int (nI k)), (3, .ref 85), (2, .ref 63), (1, .ref 0), (0, .ref 1000)] (i := 6) (by decide) rfl dL_law_2736 ?_
  refine J_aload_n rfl (i := 2) rfl dL_law_2738 ?_
  refine J_callV (as := []) (k := 63) (st := []) cal_X10_thrown cai_X10_thrown gw_1557 ⟨by decide, by decide⟩ cnt_X10_thrown sh_63 rfl rfl (Nat.le_of_ble_eq_true rfl) dL_law_2739 (Nat.zero_add _).symm (Nat.zero_add _).symm th_hyp ?_
  refine J_iload (i := 5) rfl dL_law_2742 ?_
  refine J_icmp_eq (tgt := 2749) dL_law_2744 (by decide) (fun _ => ?_) (fun hn => absurd h3 hn)
  refine J_iload (i := 5) rfl dL_law_2749 ?_
  refine J_if_ne (tgt := 2766) dL_law_2751 (by decide) (fun _ => ?_) (fun h0 => ?_)
  · refine J_goto (tgt := 3001) dL_law_2766 (by decide) ?_
    refine J_iinc [(4, .int (nI k + 6)), (6, .int bb), (5, .int kk), (3, .ref 85), (2, .ref 63), (1, .ref 0), (0, .ref 1000)] (i := 4) (v := nI k + 6) rfl rfl (by decide) rfl dL_law_3001 ?_
    refine J_goto (tgt := 23) dL_law_3004 (by decide) ?_
    exact J_sub [0, 3, 4, 5, 6] rfl hz
  · refine J_aload_n rfl (i := 3) rfl dL_law_2754 ?_
    refine J_iconst (v := 0) (by decide) dL_law_2755 ?_
    refine J_lald sh_85 (by unfold vp_in; decide) dL_law_2756 ?_
    refine J_iload (i := 6) rfl dL_law_2757 ?_
    refine J_i2l dL_law_2759 ?_
    refine J_lcmp dL_law_2760 ?_
    refine J_if_eq (tgt := 2766) dL_law_2761 (by decide) (fun _ => ?_) (fun hn => absurd ((lg_cmp_eq _ _).mpr (h4 h0)) hn)
    refine J_goto (tgt := 3001) dL_law_2766 (by decide) ?_
    refine J_iinc [(4, .int (nI k + 6)), (6, .int bb), (5, .int kk), (3, .ref 85), (2, .ref 63), (1, .ref 0), (0, .ref 1000)] (i := 4) (v := nI k + 6) rfl rfl (by decide) rfl dL_law_3001 ?_
    refine J_goto (tgt := 23) dL_law_3004 (by decide) ?_
    exact J_sub [0, 3, 4, 5, 6] rfl hz
theorem law_43 (hk : k + 5 < Gn G) (hL : Gn G < 2 ^ 31) (hop : OpW G I M_L_fewestPieces M_X10_fewestPieces [] cmpI) (hI : I mm) (hc : ∀ mm2 l1, I mm2 → ∃ z, J G M_L_law 23 [(4, .int (nI k + 6)), (3, .ref 85), (2, .ref 63), (1, .ref 0), (0, .ref 1000)] [] (SH, mm2, l1) false o z false a b) :
    ∃ z, J G M_L_law 2769 [(4, .int (nI k)), (3, .ref 85), (2, .ref 63), (1, .ref 0), (0, .ref 1000)] [] (SH, mm, lm) false o z false (a + 1) (b + 6) := by
  obtain ⟨kk, mm1, l1, bb, mm2, h1, h2, h3, h4, h5⟩ := hop mm lm hI
  obtain ⟨z, hz⟩ := hc mm2 l1 h5
  refine ⟨z, ?_⟩
  refine J_aload_n rfl (i := 1) rfl dL_law_2769 ?_
  refine J_aload_n rfl (i := 3) rfl dL_law_2770 ?_
  refine J_callSH (Mc := M_L_fewestPieces) (as := [.ref 0, .ref 85]) (st := []) rfl gw_1353 gw_107 ⟨by decide, by decide⟩ gw_1352 gw_1351 ⟨by decide, by decide⟩ cnt_L_fewestPieces rfl (Nat.le_of_ble_eq_true rfl) dL_law_2771 (Nat.add_comm a 1) (Nat.add_comm b 6) h1 ?_
  refine J_istore [(5, .int kk), (4, .int (nI k)), (3, .ref 85), (2, .ref 63), (1, .ref 0), (0, .ref 1000)] (i := 5) (by decide) rfl dL_law_2774 ?_
  refine J_aload_n rfl (i := 2) rfl dL_law_2776 ?_
  refine J_callV (as := []) (k := 63) (st := []) cal_X10_fewestPieces cai_X10_fewestPieces gw_2009 ⟨by decide, by decide⟩ cnt_X10_fewestPieces sh_63 rfl rfl (Nat.le_of_ble_eq_true rfl) dL_law_2777 (Nat.zero_add _).symm (Nat.zero_add _).symm h2 ?_
  refine J_istore [(6, .int bb), (5, .int kk), (4, .int (nI k)), (3, .ref 85), (2, .ref 63), (1, .ref 0), (0, .ref 1000)] (i := 6) (by decide) rfl dL_law_2780 ?_
  refine J_aload_n rfl (i := 2) rfl dL_law_2782 ?_
  refine J_callV (as := []) (k := 63) (st := []) cal_X10_thrown cai_X10_thrown gw_1557 ⟨by decide, by decide⟩ cnt_X10_thrown sh_63 rfl rfl (Nat.le_of_ble_eq_true rfl) dL_law_2783 (Nat.zero_add _).symm (Nat.zero_add _).symm th_hyp ?_
  refine J_iload (i := 5) rfl dL_law_2786 ?_
  refine J_icmp_eq (tgt := 2793) dL_law_2788 (by decide) (fun _ => ?_) (fun hn => absurd h3 hn)
  refine J_iload (i := 5) rfl dL_law_2793 ?_
  refine J_if_ne (tgt := 2810) dL_law_2795 (by decide) (fun _ => ?_) (fun h0 => ?_)
  · refine J_goto (tgt := 3001) dL_law_2810 (by decide) ?_
    refine J_iinc [(4, .int (nI k + 6)), (6, .int bb), (5, .int kk), (3, .ref 85), (2, .ref 63), (1, .ref 0), (0, .ref 1000)] (i := 4) (v := nI k + 6) rfl rfl (by decide) rfl dL_law_3001 ?_
    refine J_goto (tgt := 23) dL_law_3004 (by decide) ?_
    exact J_sub [0, 3, 4, 5, 6] rfl hz
  · refine J_aload_n rfl (i := 3) rfl dL_law_2798 ?_
    refine J_iconst (v := 0) (by decide) dL_law_2799 ?_
    refine J_lald sh_85 (by unfold vp_in; decide) dL_law_2800 ?_
    refine J_iload (i := 6) rfl dL_law_2801 ?_
    refine J_i2l dL_law_2803 ?_
    refine J_lcmp dL_law_2804 ?_
    refine J_if_eq (tgt := 2810) dL_law_2805 (by decide) (fun _ => ?_) (fun hn => absurd ((lg_cmp_eq _ _).mpr (h4 h0)) hn)
    refine J_goto (tgt := 3001) dL_law_2810 (by decide) ?_
    refine J_iinc [(4, .int (nI k + 6)), (6, .int bb), (5, .int kk), (3, .ref 85), (2, .ref 63), (1, .ref 0), (0, .ref 1000)] (i := 4) (v := nI k + 6) rfl rfl (by decide) rfl dL_law_3001 ?_
    refine J_goto (tgt := 23) dL_law_3004 (by decide) ?_
    exact J_sub [0, 3, 4, 5, 6] rfl hz
theorem law_44 (hk : k + 5 < Gn G) (hL : Gn G < 2 ^ 31) (hop : OpW G I M_L_pieceOf M_X10_pieceOf [.int (Gs G (k + 1))] cmpI) (hI : I mm) (hc : ∀ mm2 l1, I mm2 → ∃ z, J G M_L_law 23 [(4, .int (nI k + 6)), (3, .ref 85), (2, .ref 63), (1, .ref 0), (0, .ref 1000)] [] (SH, mm2, l1) false o z false a b) :
    ∃ z, J G M_L_law 2813 [(4, .int (nI k)), (3, .ref 85), (2, .ref 63), (1, .ref 0), (0, .ref 1000)] [] (SH, mm, lm) false o z false (a + 1) (b + 6) := by
  obtain ⟨kk, mm1, l1, bb, mm2, h1, h2, h3, h4, h5⟩ := hop mm lm hI
  obtain ⟨z, hz⟩ := hc mm2 l1 h5
  refine ⟨z, ?_⟩
  refine J_aload_n rfl (i := 1) rfl dL_law_2813 ?_
  refine J_aload_n rfl (i := 0) rfl dL_law_2814 ?_
  refine J_iload (i := 4) rfl dL_law_2815 ?_
  refine J_iconst (v := 1) (by decide) dL_law_2817 ?_
  refine J_iadd dL_law_2818 ?_
  refine J_sld (nI_add k 1) (by omega) hL dL_law_2819 ?_
  refine J_aload_n rfl (i := 3) rfl dL_law_2820 ?_
  refine J_callSH (Mc := M_L_pieceOf) (as := [.ref 0, .int (Gs G (k + 1)), .ref 85]) (st := []) rfl gw_1384 gw_107 ⟨by decide, by decide⟩ gw_1383 gw_1382 ⟨by decide, by decide⟩ cnt_L_pieceOf rfl (Nat.le_of_ble_eq_true rfl) dL_law_2821 (Nat.add_comm a 1) (Nat.add_comm b 6) h1 ?_
  refine J_istore [(5, .int kk), (4, .int (nI k)), (3, .ref 85), (2, .ref 63), (1, .ref 0), (0, .ref 1000)] (i := 5) (by decide) rfl dL_law_2824 ?_
  refine J_aload_n rfl (i := 2) rfl dL_law_2826 ?_
  refine J_aload_n rfl (i := 0) rfl dL_law_2827 ?_
  refine J_iload (i := 4) rfl dL_law_2828 ?_
  refine J_iconst (v := 1) (by decide) dL_law_2830 ?_
  refine J_iadd dL_law_2831 ?_
  refine J_sld (nI_add k 1) (by omega) hL dL_law_2832 ?_
  refine J_callV (as := [.int (Gs G (k + 1))]) (k := 63) (st := []) cal_X10_pieceOf cai_X10_pieceOf gw_2041 ⟨by decide, by decide⟩ cnt_X10_pieceOf sh_63 rfl rfl (Nat.le_of_ble_eq_true rfl) dL_law_2833 (Nat.zero_add _).symm (Nat.zero_add _).symm h2 ?_
  refine J_istore [(6, .int bb), (5, .int kk), (4, .int (nI k)), (3, .ref 85), (2, .ref 63), (1, .ref 0), (0, .ref 1000)] (i := 6) (by decide) rfl dL_law_2836 ?_
  refine J_aload_n rfl (i := 2) rfl dL_law_2838 ?_
  refine J_callV (as := []) (k := 63) (st := []) cal_X10_thrown cai_X10_thrown gw_1557 ⟨by decide, by decide⟩ cnt_X10_thrown sh_63 rfl rfl (Nat.le_of_ble_eq_true rfl) dL_law_2839 (Nat.zero_add _).symm (Nat.zero_add _).symm th_hyp ?_
  refine J_iload (i := 5) rfl dL_law_2842 ?_
  refine J_icmp_eq (tgt := 2849) dL_law_2844 (by decide) (fun _ => ?_) (fun hn => absurd h3 hn)
  refine J_iload (i := 5) rfl dL_law_2849 ?_
  refine J_if_ne (tgt := 2866) dL_law_2851 (by decide) (fun _ => ?_) (fun h0 => ?_)
  · refine J_goto (tgt := 3001) dL_law_2866 (by decide) ?_
    refine J_iinc [(4, .int (nI k + 6)), (6, .int bb), (5, .int kk), (3, .ref 85), (2, .ref 63), (1, .ref 0), (0, .ref 1000)] (i := 4) (v := nI k + 6) rfl rfl (by decide) rfl dL_law_3001 ?_
    refine J_goto (tgt := 23) dL_law_3004 (by decide) ?_
    exact J_sub [0, 3, 4, 5, 6] rfl hz
  · refine J_aload_n rfl (i := 3) rfl dL_law_2854 ?_
    refine J_iconst (v := 0) (by decide) dL_law_2855 ?_
    refine J_lald sh_85 (by unfold vp_in; decide) dL_law_2856 ?_
    refine J_iload (i := 6) rfl dL_law_2857 ?_
    refine J_i2l dL_law_2859 ?_
    refine J_lcmp dL_law_2860 ?_
    refine J_if_eq (tgt := 2866) dL_law_2861 (by decide) (fun _ => ?_) (fun hn => absurd ((lg_cmp_eq _ _).mpr (h4 h0)) hn)
    refine J_goto (tgt := 3001) dL_law_2866 (by decide) ?_
    refine J_iinc [(4, .int (nI k + 6)), (6, .int bb), (5, .int kk), (3, .ref 85), (2, .ref 63), (1, .ref 0), (0, .ref 1000)] (i := 4) (v := nI k + 6) rfl rfl (by decide) rfl dL_law_3001 ?_
    refine J_goto (tgt := 23) dL_law_3004 (by decide) ?_
    exact J_sub [0, 3, 4, 5, 6] rfl hz
theorem law_45 (hk : k + 5 < Gn G) (hL : Gn G < 2 ^ 31) (hop : OpW G I M_L_waste M_X10_waste [] cmpI) (hI : I mm) (hc : ∀ mm2 l1, I mm2 → ∃ z, J G M_L_law 23 [(4, .int (nI k + 6)), (3, .ref 85), (2, .ref 63), (1, .ref 0), (0, .ref 1000)] [] (SH, mm2, l1) false o z false a b) :
    ∃ z, J G M_L_law 2869 [(4, .int (nI k)), (3, .ref 85), (2, .ref 63), (1, .ref 0), (0, .ref 1000)] [] (SH, mm, lm) false o z false (a + 1) (b + 6) := by
  obtain ⟨kk, mm1, l1, bb, mm2, h1, h2, h3, h4, h5⟩ := hop mm lm hI
  obtain ⟨z, hz⟩ := hc mm2 l1 h5
  refine ⟨z, ?_⟩
  refine J_aload_n rfl (i := 1) rfl dL_law_2869 ?_
  refine J_aload_n rfl (i := 3) rfl dL_law_2870 ?_
  refine J_callSH (Mc := M_L_waste) (as := [.ref 0, .ref 85]) (st := []) rfl gw_1395 gw_107 ⟨by decide, by decide⟩ gw_1394 gw_1393 ⟨by decide, by decide⟩ cnt_L_waste rfl (Nat.le_of_ble_eq_true rfl) dL_law_2871 (Nat.add_comm a 1) (Nat.add_comm b 6) h1 ?_
  refine J_istore [(5, .int kk), (4, .int (nI k)), (3, .ref 85), (2, .ref 63), (1, .ref 0), (0, .ref 1000)] (i := 5) (by decide) rfl dL_law_2874 ?_
  refine J_aload_n rfl (i := 2) rfl dL_law_2876 ?_
  refine J_callV (as := []) (k := 63) (st := []) cal_X10_waste cai_X10_waste gw_2045 ⟨by decide, by decide⟩ cnt_X10_waste sh_63 rfl rfl (Nat.le_of_ble_eq_true rfl) dL_law_2877 (Nat.zero_add _).symm (Nat.zero_add _).symm h2 ?_
  refine J_istore [(6, .int bb), (5, .int kk), (4, .int (nI k)), (3, .ref 85), (2, .ref 63), (1, .ref 0), (0, .ref 1000)] (i := 6) (by decide) rfl dL_law_2880 ?_
  refine J_aload_n rfl (i := 2) rfl dL_law_2882 ?_
  refine J_callV (as := []) (k := 63) (st := []) cal_X10_thrown cai_X10_thrown gw_1557 ⟨by decide, by decide⟩ cnt_X10_thrown sh_63 rfl rfl (Nat.le_of_ble_eq_true rfl) dL_law_2883 (Nat.zero_add _).symm (Nat.zero_add _).symm th_hyp ?_
  refine J_iload (i := 5) rfl dL_law_2886 ?_
  refine J_icmp_eq (tgt := 2893) dL_law_2888 (by decide) (fun _ => ?_) (fun hn => absurd h3 hn)
  refine J_iload (i := 5) rfl dL_law_2893 ?_
  refine J_if_ne (tgt := 2910) dL_law_2895 (by decide) (fun _ => ?_) (fun h0 => ?_)
  · refine J_goto (tgt := 3001) dL_law_2910 (by decide) ?_
    refine J_iinc [(4, .int (nI k + 6)), (6, .int bb), (5, .int kk), (3, .ref 85), (2, .ref 63), (1, .ref 0), (0, .ref 1000)] (i := 4) (v := nI k + 6) rfl rfl (by decide) rfl dL_law_3001 ?_
    refine J_goto (tgt := 23) dL_law_3004 (by decide) ?_
    exact J_sub [0, 3, 4, 5, 6] rfl hz
  · refine J_aload_n rfl (i := 3) rfl dL_law_2898 ?_
    refine J_iconst (v := 0) (by decide) dL_law_2899 ?_
    refine J_lald sh_85 (by unfold vp_in; decide) dL_law_2900 ?_
    refine J_iload (i := 6) rfl dL_law_2901 ?_
    refine J_i2l dL_law_2903 ?_
    refine J_lcmp dL_law_2904 ?_
    refine J_if_eq (tgt := 2910) dL_law_2905 (by decide) (fun _ => ?_) (fun hn => absurd ((lg_cmp_eq _ _).mpr (h4 h0)) hn)
    refine J_goto (tgt := 3001) dL_law_2910 (by decide) ?_
    refine J_iinc [(4, .int (nI k + 6)), (6, .int bb), (5, .int kk), (3, .ref 85), (2, .ref 63), (1, .ref 0), (0, .ref 1000)] (i := 4) (v := nI k + 6) rfl rfl (by decide) rfl dL_law_3001 ?_
    refine J_goto (tgt := 23) dL_law_3004 (by decide) ?_
    exact J_sub [0, 3, 4, 5, 6] rfl hz
theorem law_46 (hk : k + 5 < Gn G) (hL : Gn G < 2 ^ 31) (hop : OpW G I M_L_extraPiece M_X10_extraPiece [] cmpI) (hI : I mm) (hc : ∀ mm2 l1, I mm2 → ∃ z, J G M_L_law 23 [(4, .int (nI k + 6)), (3, .ref 85), (2, .ref 63), (1, .ref 0), (0, .ref 1000)] [] (SH, mm2, l1) false o z false a b) :
    ∃ z, J G M_L_law 2913 [(4, .int (nI k)), (3, .ref 85), (2, .ref 63), (1, .ref 0), (0, .ref 1000)] [] (SH, mm, lm) false o z false (a + 1) (b + 6) := by
  obtain ⟨kk, mm1, l1, bb, mm2, h1, h2, h3, h4, h5⟩ := hop mm lm hI
  obtain ⟨z, hz⟩ := hc mm2 l1 h5
  refine ⟨z, ?_⟩
  refine J_aload_n rfl (i := 1) rfl dL_law_2913 ?_
  refine J_aload_n rfl (i := 3) rfl dL_law_2914 ?_
  refine J_callSH (Mc := M_L_extraPiece) (as := [.ref 0, .ref 85]) (st := []) rfl gw_1407 gw_107 ⟨by decide, by decide⟩ gw_1406 gw_1405 ⟨by decide, by decide⟩ cnt_L_extraPiece rfl (Nat.le_of_ble_eq_true rfl) dL_law_2915 (Nat.add_comm a 1) (Nat.add_comm b 6) h1 ?_
  refine J_istore [(5, .int kk), (4, .int (nI k)), (3, .ref 85), (2, .ref 63), (1, .ref 0), (0, .ref 1000)] (i := 5) (by decide) rfl dL_law_2918 ?_
  refine J_aload_n rfl (i := 2) rfl dL_law_2920 ?_
  refine J_callV (as := []) (k := 63) (st := []) cal_X10_extraPiece cai_X10_extraPiece gw_2049 ⟨by decide, by decide⟩ cnt_X10_extraPiece sh_63 rfl rfl (Nat.le_of_ble_eq_true rfl) dL_law_2921 (Nat.zero_add _).symm (Nat.zero_add _).symm h2 ?_
  refine J_istore [(6, .int bb), (5, .int kk), (4, .int (nI k)), (3, .ref 85), (2, .ref 63), (1, .ref 0), (0, .ref 1000)] (i := 6) (by decide) rfl dL_law_2924 ?_
  refine J_aload_n rfl (i := 2) rfl dL_law_2926 ?_
  refine J_callV (as := []) (k := 63) (st := []) cal_X10_thrown cai_X10_thrown gw_1557 ⟨by decide, by decide⟩ cnt_X10_thrown sh_63 rfl rfl (Nat.le_of_ble_eq_true rfl) dL_law_2927 (Nat.zero_add _).symm (Nat.zero_add _).symm th_hyp ?_
  refine J_iload (i := 5) rfl dL_law_2930 ?_
  refine J_icmp_eq (tgt := 2937) dL_law_2932 (by decide) (fun _ => ?_) (fun hn => absurd h3 hn)
  refine J_iload (i := 5) rfl dL_law_2937 ?_
  refine J_if_ne (tgt := 2954) dL_law_2939 (by decide) (fun _ => ?_) (fun h0 => ?_)
  · refine J_goto (tgt := 3001) dL_law_2954 (by decide) ?_
    refine J_iinc [(4, .int (nI k + 6)), (6, .int bb), (5, .int kk), (3, .ref 85), (2, .ref 63), (1, .ref 0), (0, .ref 1000)] (i := 4) (v := nI k + 6) rfl rfl (by decide) rfl dL_law_3001 ?_
    refine J_goto (tgt := 23) dL_law_3004 (by decide) ?_
    exact J_sub [0, 3, 4, 5, 6] rfl hz
  · refine J_aload_n rfl (i := 3) rfl dL_law_2942 ?_
    refine J_iconst (v := 0) (by decide) dL_law_2943 ?_
    refine J_lald sh_85 (by unfold vp_in; decide) dL_law_2944 ?_
    refine J_iload (i := 6) rfl dL_law_2945 ?_
    refine J_i2l dL_law_2947 ?_
    refine J_lcmp dL_law_2948 ?_
    refine J_if_eq (tgt := 2954) dL_law_2949 (by decide) (fun _ => ?_) (fun hn => absurd ((lg_cmp_eq _ _).mpr (h4 h0)) hn)
    refine J_goto (tgt := 3001) dL_law_2954 (by decide) ?_
    refine J_iinc [(4, .int (nI k + 6)), (6, .int bb), (5, .int kk), (3, .ref 85), (2, .ref 63), (1, .ref 0), (0, .ref 1000)] (i := 4) (v := nI k + 6) rfl rfl (by decide) rfl dL_law_3001 ?_
    refine J_goto (tgt := 23) dL_law_3004 (by decide) ?_
    exact J_sub [0, 3, 4, 5, 6] rfl hz
theorem law_47 (hk : k + 5 < Gn G) (hL : Gn G < 2 ^ 31) (hop : OpW G I M_L_undo M_X10_undo [] cmpI) (hI : I mm) (hc : ∀ mm2 l1, I mm2 → ∃ z, J G M_L_law 23 [(4, .int (nI k + 6)), (3, .ref 85), (2, .ref 63), (1, .ref 0), (0, .ref 1000)] [] (SH, mm2, l1) false o z false a b) :
    ∃ z, J G M_L_law 2957 [(4, .int (nI k)), (3, .ref 85), (2, .ref 63), (1, .ref 0), (0, .ref 1000)] [] (SH, mm, lm) false o z false (a + 1) (b + 6) := by
  obtain ⟨kk, mm1, l1, bb, mm2, h1, h2, h3, h4, h5⟩ := hop mm lm hI
  obtain ⟨z, hz⟩ := hc mm2 l1 h5
  refine ⟨z, ?_⟩
  refine J_aload_n rfl (i := 1) rfl dL_law_2957 ?_
  refine J_aload_n rfl (i := 3) rfl dL_law_2958 ?_
  refine J_callSH (Mc := M_L_undo) (as := [.ref 0, .ref 85]) (st := []) rfl gw_1418 gw_107 ⟨by decide, by decide⟩ gw_1417 gw_1416 ⟨by decide, by decide⟩ cnt_L_undo rfl (Nat.le_of_ble_eq_true rfl) dL_law_2959 (Nat.add_comm a 1) (Nat.add_comm b 6) h1 ?_
  refine J_istore [(5, .int kk), (4, .int (nI k)), (3, .ref 85), (2, .ref 63), (1, .ref 0), (0, .ref 1000)] (i := 5) (by decide) rfl dL_law_2962 ?_
  refine J_aload_n rfl (i := 2) rfl dL_law_2964 ?_
  refine J_callV (as := []) (k := 63) (st := []) cal_X10_undo cai_X10_undo gw_1659 ⟨by decide, by decide⟩ cnt_X10_undo sh_63 rfl rfl (Nat.le_of_ble_eq_true rfl) dL_law_2965 (Nat.zero_add _).symm (Nat.zero_add _).symm h2 ?_
  refine J_istore [(6, .int bb), (5, .int kk), (4, .int (nI k)), (3, .ref 85), (2, .ref 63), (1, .ref 0), (0, .ref 1000)] (i := 6) (by decide) rfl dL_law_2968 ?_
  refine J_aload_n rfl (i := 2) rfl dL_law_2970 ?_
  refine J_callV (as := []) (k := 63) (st := []) cal_X10_thrown cai_X10_thrown gw_1557 ⟨by decide, by decide⟩ cnt_X10_thrown sh_63 rfl rfl (Nat.le_of_ble_eq_true rfl) dL_law_2971 (Nat.zero_add _).symm (Nat.zero_add _).symm th_hyp ?_
  refine J_iload (i := 5) rfl dL_law_2974 ?_
  refine J_icmp_eq (tgt := 2981) dL_law_2976 (by decide) (fun _ => ?_) (fun hn => absurd h3 hn)
  refine J_iload (i := 5) rfl dL_law_2981 ?_
  refine J_if_ne (tgt := 2998) dL_law_2983 (by decide) (fun _ => ?_) (fun h0 => ?_)
  · refine J_goto (tgt := 3001) dL_law_2998 (by decide) ?_
    refine J_iinc [(4, .int (nI k + 6)), (6, .int bb), (5, .int kk), (3, .ref 85), (2, .ref 63), (1, .ref 0), (0, .ref 1000)] (i := 4) (v := nI k + 6) rfl rfl (by decide) rfl dL_law_3001 ?_
    refine J_goto (tgt := 23) dL_law_3004 (by decide) ?_
    exact J_sub [0, 3, 4, 5, 6] rfl hz
  · refine J_aload_n rfl (i := 3) rfl dL_law_2986 ?_
    refine J_iconst (v := 0) (by decide) dL_law_2987 ?_
    refine J_lald sh_85 (by unfold vp_in; decide) dL_law_2988 ?_
    refine J_iload (i := 6) rfl dL_law_2989 ?_
    refine J_i2l dL_law_2991 ?_
    refine J_lcmp dL_law_2992 ?_
    refine J_if_eq (tgt := 2998) dL_law_2993 (by decide) (fun _ => ?_) (fun hn => absurd ((lg_cmp_eq _ _).mpr (h4 h0)) hn)
    refine J_goto (tgt := 3001) dL_law_2998 (by decide) ?_
    refine J_iinc [(4, .int (nI k + 6)), (6, .int bb), (5, .int kk), (3, .ref 85), (2, .ref 63), (1, .ref 0), (0, .ref 1000)] (i := 4) (v := nI k + 6) rfl rfl (by decide) rfl dL_law_3001 ?_
    refine J_goto (tgt := 23) dL_law_3004 (by decide) ?_
    exact J_sub [0, 3, 4, 5, 6] rfl hz
end Law
