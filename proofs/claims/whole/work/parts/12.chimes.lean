/-! ===== decode rows and walks between cut points, by program (wip/gen/mk10.py) ===== -/
theorem dX1_markQuietMinutes_0 : decode cX1_markQuietMinutes 0 = .ok (.iconst 0, 1) := by decide +kernel
theorem dX1_markQuietMinutes_1 : decode cX1_markQuietMinutes 1 = .ok (.istore_n 1, 1) := by decide +kernel
theorem dX1_markQuietMinutes_2 : decode cX1_markQuietMinutes 2 = .ok (.iload_n 1, 1) := by decide +kernel
theorem dX1_markQuietMinutes_3 : decode cX1_markQuietMinutes 3 = .ok (.sipush 1440, 3) := by decide +kernel
theorem dX1_markQuietMinutes_6 : decode cX1_markQuietMinutes 6 = .ok (.if_icmp .ge 16, 3) := by decide +kernel
theorem dX1_markQuietMinutes_9 : decode cX1_markQuietMinutes 9 = .ok (.aload_n 0, 1) := by decide +kernel
theorem dX1_markQuietMinutes_10 : decode cX1_markQuietMinutes 10 = .ok (.getfield 9, 3) := by decide +kernel
theorem dX1_markQuietMinutes_13 : decode cX1_markQuietMinutes 13 = .ok (.iload_n 1, 1) := by decide +kernel
theorem dX1_markQuietMinutes_14 : decode cX1_markQuietMinutes 14 = .ok (.iconst 0, 1) := by decide +kernel
theorem dX1_markQuietMinutes_15 : decode cX1_markQuietMinutes 15 = .ok (.bastore, 1) := by decide +kernel
theorem dX1_markQuietMinutes_16 : decode cX1_markQuietMinutes 16 = .ok (.iinc 1 1, 3) := by decide +kernel
theorem dX1_markQuietMinutes_19 : decode cX1_markQuietMinutes 19 = .ok (.goto (-17), 3) := by decide +kernel
theorem dX1_markQuietMinutes_22 : decode cX1_markQuietMinutes 22 = .ok (.iconst 0, 1) := by decide +kernel
theorem dX1_markQuietMinutes_23 : decode cX1_markQuietMinutes 23 = .ok (.istore_n 1, 1) := by decide +kernel
theorem dX1_markQuietMinutes_24 : decode cX1_markQuietMinutes 24 = .ok (.iload_n 1, 1) := by decide +kernel
theorem dX1_markQuietMinutes_25 : decode cX1_markQuietMinutes 25 = .ok (.aload_n 0, 1) := by decide +kernel
theorem dX1_markQuietMinutes_26 : decode cX1_markQuietMinutes 26 = .ok (.getfield 15, 3) := by decide +kernel
theorem dX1_markQuietMinutes_29 : decode cX1_markQuietMinutes 29 = .ok (.getfield 23, 3) := by decide +kernel
theorem dX1_markQuietMinutes_32 : decode cX1_markQuietMinutes 32 = .ok (.if_icmp .ge 57, 3) := by decide +kernel
theorem dX1_markQuietMinutes_35 : decode cX1_markQuietMinutes 35 = .ok (.aload_n 0, 1) := by decide +kernel
theorem dX1_markQuietMinutes_36 : decode cX1_markQuietMinutes 36 = .ok (.getfield 15, 3) := by decide +kernel
theorem dX1_markQuietMinutes_39 : decode cX1_markQuietMinutes 39 = .ok (.getfield 29, 3) := by decide +kernel
theorem dX1_markQuietMinutes_42 : decode cX1_markQuietMinutes 42 = .ok (.iload_n 1, 1) := by decide +kernel
theorem dX1_markQuietMinutes_43 : decode cX1_markQuietMinutes 43 = .ok (.iaload, 1) := by decide +kernel
theorem dX1_markQuietMinutes_44 : decode cX1_markQuietMinutes 44 = .ok (.sipush 1440, 3) := by decide +kernel
theorem dX1_markQuietMinutes_47 : decode cX1_markQuietMinutes 47 = .ok (.invokestatic 33, 3) := by decide +kernel
theorem dX1_markQuietMinutes_50 : decode cX1_markQuietMinutes 50 = .ok (.istore_n 2, 1) := by decide +kernel
theorem dX1_markQuietMinutes_51 : decode cX1_markQuietMinutes 51 = .ok (.aload_n 0, 1) := by decide +kernel
theorem dX1_markQuietMinutes_52 : decode cX1_markQuietMinutes 52 = .ok (.getfield 15, 3) := by decide +kernel
theorem dX1_markQuietMinutes_55 : decode cX1_markQuietMinutes 55 = .ok (.getfield 39, 3) := by decide +kernel
theorem dX1_markQuietMinutes_58 : decode cX1_markQuietMinutes 58 = .ok (.iload_n 1, 1) := by decide +kernel
theorem dX1_markQuietMinutes_59 : decode cX1_markQuietMinutes 59 = .ok (.iaload, 1) := by decide +kernel
theorem dX1_markQuietMinutes_60 : decode cX1_markQuietMinutes 60 = .ok (.iconst 0, 1) := by decide +kernel
theorem dX1_markQuietMinutes_61 : decode cX1_markQuietMinutes 61 = .ok (.invokestatic 42, 3) := by decide +kernel
theorem dX1_markQuietMinutes_64 : decode cX1_markQuietMinutes 64 = .ok (.istore_n 3, 1) := by decide +kernel
theorem dX1_markQuietMinutes_65 : decode cX1_markQuietMinutes 65 = .ok (.iload_n 3, 1) := by decide +kernel
theorem dX1_markQuietMinutes_66 : decode cX1_markQuietMinutes 66 = .ok (.iload_n 2, 1) := by decide +kernel
theorem dX1_markQuietMinutes_67 : decode cX1_markQuietMinutes 67 = .ok (.if_icmp .ge 16, 3) := by decide +kernel
theorem dX1_markQuietMinutes_70 : decode cX1_markQuietMinutes 70 = .ok (.aload_n 0, 1) := by decide +kernel
theorem dX1_markQuietMinutes_71 : decode cX1_markQuietMinutes 71 = .ok (.getfield 9, 3) := by decide +kernel
theorem dX1_markQuietMinutes_74 : decode cX1_markQuietMinutes 74 = .ok (.iload_n 3, 1) := by decide +kernel
theorem dX1_markQuietMinutes_75 : decode cX1_markQuietMinutes 75 = .ok (.iconst 1, 1) := by decide +kernel
theorem dX1_markQuietMinutes_76 : decode cX1_markQuietMinutes 76 = .ok (.bastore, 1) := by decide +kernel
theorem dX1_markQuietMinutes_77 : decode cX1_markQuietMinutes 77 = .ok (.iinc 3 1, 3) := by decide +kernel
theorem dX1_markQuietMinutes_80 : decode cX1_markQuietMinutes 80 = .ok (.goto (-15), 3) := by decide +kernel
theorem dX1_markQuietMinutes_83 : decode cX1_markQuietMinutes 83 = .ok (.iinc 1 1, 3) := by decide +kernel
theorem dX1_markQuietMinutes_86 : decode cX1_markQuietMinutes 86 = .ok (.goto (-62), 3) := by decide +kernel
theorem dX1_markQuietMinutes_89 : decode cX1_markQuietMinutes 89 = .ok (.return_, 1) := by decide +kernel
set_option maxRecDepth 20000 in
theorem bX1_markQuietMinutes_0 {G : Gx} {mm : Nat → Nat → Int32} {lm : Nat → Int64}  {o : Ou} {z : Wd} {a b : Nat} (hw : J G M_X1_markQuietMinutes 2 [(0, .ref 42), (1, .int 0)] [] (SH, mm, lm) false o z false a b) :
    J G M_X1_markQuietMinutes 0 [(0, .ref 42)] [] (SH, mm, lm) false o z false a b := by
  refine J_iconst (v := 0) (by decide) dX1_markQuietMinutes_0 ?_
  refine J_istore_n [(1, .int 0), (0, .ref 42)] rfl (i := 1) (by decide) rfl dX1_markQuietMinutes_1 ?_
  exact J_sub [1, 0] rfl hw
set_option maxRecDepth 20000 in
theorem bX1_markQuietMinutes_2 {G : Gx} {mm : Nat → Nat → Int32} {lm : Nat → Int64} {x1 : Int32} {o : Ou} {z : Wd} {a b : Nat} (hw : ((1440 ≤ x1) → J G M_X1_markQuietMinutes 24 [(0, .ref 42), (1, .int 0)] [] (SH, mm, lm) false o z false a b) ∧ ((¬ 1440 ≤ x1) → ∃ j1 : Nat, x1 = nI j1 ∧ j1 < 1440 ∧ J G M_X1_markQuietMinutes 2 [(0, .ref 42), (1, .int (x1 + 1))] [] (SH, (mset mm 43 j1 (vp_nar .boolean 0)), lm) false o z false a b)) :
    J G M_X1_markQuietMinutes 2 [(0, .ref 42), (1, .int x1)] [] (SH, mm, lm) false o z false a b := by
  refine J_iload_n rfl (i := 1) rfl dX1_markQuietMinutes_2 ?_
  refine J_sipush (v := 1440) (by decide) dX1_markQuietMinutes_3 ?_
  refine J_icmp_ge (tgt := 22) dX1_markQuietMinutes_6 (by decide) (fun hb2 => ?_) (fun hb2 => ?_)
  · replace hw := hw.1 hb2
    refine J_iconst (v := 0) (by decide) dX1_markQuietMinutes_22 ?_
    refine J_istore_n [(1, .int 0), (0, .ref 42)] rfl (i := 1) (by decide) rfl dX1_markQuietMinutes_23 ?_
    exact J_sub [1, 0] rfl hw
  · replace hw := hw.2 hb2
    refine J_aload_n rfl (i := 0) rfl dX1_markQuietMinutes_9 ?_
    refine J_getr kls_1 (q := 42) (k := 2) sh_42 (by decide) rfl gw_372 dX1_markQuietMinutes_10 ?_
    refine J_iload_n rfl (i := 1) rfl dX1_markQuietMinutes_13 ?_
    refine J_iconst (v := 0) (by decide) dX1_markQuietMinutes_14 ?_
    obtain ⟨j1, ej1, hj1, hw⟩ := hw
    refine J_zast sh_43 ej1 hj1 (by decide) dX1_markQuietMinutes_15 ?_
    refine J_iinc [(1, .int (x1 + 1)), (0, .ref 42)] (i := 1) (v := (x1 + 1)) rfl rfl (by decide) rfl dX1_markQuietMinutes_16 ?_
    refine J_goto (tgt := 2) dX1_markQuietMinutes_19 (by decide) ?_
    exact J_sub [1, 0] rfl hw
set_option maxRecDepth 20000 in
theorem bX1_markQuietMinutes_24 {G : Gx} {mm : Nat → Nat → Int32} {lm : Nat → Int64} {x1 : Int32} {o : Ou} {z : Wd} {a b : Nat} (hw : (((mm 4 10) ≤ x1) → o = .inl none ∧ z = (SH, mm, lm)) ∧ ((¬ (mm 4 10) ≤ x1) → ∃ j1 : Nat, x1 = nI j1 ∧ j1 < 6 ∧ ∃ (v3 : Int32), Ct G M_J9_min_7cf53 [.int (mm 11 j1), .int 1440] (SH, mm, lm) false (.inl (some (.int v3))) (SH, mm, lm) false 0 0 ∧ ∃ j5 : Nat, x1 = nI j5 ∧ j5 < 6 ∧ ∃ (v7 : Int32), Ct G M_J9_max_7cf53 [.int (mm 10 j5), .int 0] (SH, mm, lm) false (.inl (some (.int v7))) (SH, mm, lm) false 0 0 ∧ J G M_X1_markQuietMinutes 65 [(0, .ref 42), (1, .int x1), (2, .int v3), (3, .int v7)] [] (SH, mm, lm) false o z false a b)) :
    J G M_X1_markQuietMinutes 24 [(0, .ref 42), (1, .int x1)] [] (SH, mm, lm) false o z false a b := by
  refine J_iload_n rfl (i := 1) rfl dX1_markQuietMinutes_24 ?_
  refine J_aload_n rfl (i := 0) rfl dX1_markQuietMinutes_25 ?_
  refine J_getr kls_1 (q := 42) (k := 0) sh_42 (by decide) rfl gw_370 dX1_markQuietMinutes_26 ?_
  refine J_geti kls_7 (q := 4) (k := 10) sh_4 (by decide) rfl gw_214 dX1_markQuietMinutes_29 ?_
  refine J_icmp_ge (tgt := 89) dX1_markQuietMinutes_32 (by decide) (fun hb9 => ?_) (fun hb9 => ?_)
  · replace hw := hw.1 hb9
    exact J_finv rfl dX1_markQuietMinutes_89 hw
  · replace hw := hw.2 hb9
    refine J_aload_n rfl (i := 0) rfl dX1_markQuietMinutes_35 ?_
    refine J_getr kls_1 (q := 42) (k := 0) sh_42 (by decide) rfl gw_370 dX1_markQuietMinutes_36 ?_
    refine J_getr kls_7 (q := 4) (k := 6) sh_4 (by decide) rfl gw_197 dX1_markQuietMinutes_39 ?_
    refine J_iload_n rfl (i := 1) rfl dX1_markQuietMinutes_42 ?_
    obtain ⟨j1, ej1, hj1, hw⟩ := hw
    refine J_iald sh_11 ej1 hj1 (by decide) dX1_markQuietMinutes_43 ?_
    refine J_sipush (v := 1440) (by decide) dX1_markQuietMinutes_44 ?_
    obtain ⟨v3, hc2, hw⟩ := hw
    refine J_callS (as := [.int (mm 11 j1), .int 1440]) (st := []) cal_J9_min_7cf53 cas_J9_min_7cf53 gw_606 ⟨by decide, by decide⟩ cnt_J9_min_7cf53 rfl (Nat.le_of_ble_eq_true rfl) dX1_markQuietMinutes_47 (Nat.zero_add _).symm (Nat.zero_add _).symm hc2 ?_
    refine J_istore_n [(2, .int v3), (0, .ref 42), (1, .int x1)] rfl (i := 2) (by decide) rfl dX1_markQuietMinutes_50 ?_
    refine J_aload_n rfl (i := 0) rfl dX1_markQuietMinutes_51 ?_
    refine J_getr kls_1 (q := 42) (k := 0) sh_42 (by decide) rfl gw_370 dX1_markQuietMinutes_52 ?_
    refine J_getr kls_7 (q := 4) (k := 5) sh_4 (by decide) rfl gw_195 dX1_markQuietMinutes_55 ?_
    refine J_iload_n rfl (i := 1) rfl dX1_markQuietMinutes_58 ?_
    obtain ⟨j5, ej5, hj5, hw⟩ := hw
    refine J_iald sh_10 ej5 hj5 (by decide) dX1_markQuietMinutes_59 ?_
    refine J_iconst (v := 0) (by decide) dX1_markQuietMinutes_60 ?_
    obtain ⟨v7, hc6, hw⟩ := hw
    refine J_callS (as := [.int (mm 10 j5), .int 0]) (st := []) cal_J9_max_7cf53 cas_J9_max_7cf53 gw_609 ⟨by decide, by decide⟩ cnt_J9_max_7cf53 rfl (Nat.le_of_ble_eq_true rfl) dX1_markQuietMinutes_61 (Nat.zero_add _).symm (Nat.zero_add _).symm hc6 ?_
    refine J_istore_n [(3, .int v7), (2, .int v3), (0, .ref 42), (1, .int x1)] rfl (i := 3) (by decide) rfl dX1_markQuietMinutes_64 ?_
    exact J_sub [2, 3, 1, 0] rfl hw
set_option maxRecDepth 20000 in
theorem bX1_markQuietMinutes_65 {G : Gx} {mm : Nat → Nat → Int32} {lm : Nat → Int64} {x1 : Int32} {x2 : Int32} {x3 : Int32} {o : Ou} {z : Wd} {a b : Nat} (hw : ((x2 ≤ x3) → J G M_X1_markQuietMinutes 24 [(0, .ref 42), (1, .int (x1 + 1))] [] (SH, mm, lm) false o z false a b) ∧ ((¬ x2 ≤ x3) → ∃ j1 : Nat, x3 = nI j1 ∧ j1 < 1440 ∧ J G M_X1_markQuietMinutes 65 [(0, .ref 42), (1, .int x1), (2, .int x2), (3, .int (x3 + 1))] [] (SH, (mset mm 43 j1 (vp_nar .boolean 1)), lm) false o z false a b)) :
    J G M_X1_markQuietMinutes 65 [(0, .ref 42), (1, .int x1), (2, .int x2), (3, .int x3)] [] (SH, mm, lm) false o z false a b := by
  refine J_iload_n rfl (i := 3) rfl dX1_markQuietMinutes_65 ?_
  refine J_iload_n rfl (i := 2) rfl dX1_markQuietMinutes_66 ?_
  refine J_icmp_ge (tgt := 83) dX1_markQuietMinutes_67 (by decide) (fun hb2 => ?_) (fun hb2 => ?_)
  · replace hw := hw.1 hb2
    refine J_iinc [(1, .int (x1 + 1)), (0, .ref 42), (2, .int x2), (3, .int x3)] (i := 1) (v := (x1 + 1)) rfl rfl (by decide) rfl dX1_markQuietMinutes_83 ?_
    refine J_goto (tgt := 24) dX1_markQuietMinutes_86 (by decide) ?_
    exact J_sub [1, 0] rfl hw
  · replace hw := hw.2 hb2
    refine J_aload_n rfl (i := 0) rfl dX1_markQuietMinutes_70 ?_
    refine J_getr kls_1 (q := 42) (k := 2) sh_42 (by decide) rfl gw_372 dX1_markQuietMinutes_71 ?_
    refine J_iload_n rfl (i := 3) rfl dX1_markQuietMinutes_74 ?_
    refine J_iconst (v := 1) (by decide) dX1_markQuietMinutes_75 ?_
    obtain ⟨j1, ej1, hj1, hw⟩ := hw
    refine J_zast sh_43 ej1 hj1 (by decide) dX1_markQuietMinutes_76 ?_
    refine J_iinc [(3, .int (x3 + 1)), (0, .ref 42), (1, .int x1), (2, .int x2)] (i := 3) (v := (x3 + 1)) rfl rfl (by decide) rfl dX1_markQuietMinutes_77 ?_
    refine J_goto (tgt := 65) dX1_markQuietMinutes_80 (by decide) ?_
    exact J_sub [1, 2, 3, 0] rfl hw
theorem dX1_countChiming_0 : decode cX1_countChiming 0 = .ok (.iconst 0, 1) := by decide +kernel
theorem dX1_countChiming_1 : decode cX1_countChiming 1 = .ok (.istore_n 1, 1) := by decide +kernel
theorem dX1_countChiming_2 : decode cX1_countChiming 2 = .ok (.iconst 0, 1) := by decide +kernel
theorem dX1_countChiming_3 : decode cX1_countChiming 3 = .ok (.istore_n 2, 1) := by decide +kernel
theorem dX1_countChiming_4 : decode cX1_countChiming 4 = .ok (.iload_n 2, 1) := by decide +kernel
theorem dX1_countChiming_5 : decode cX1_countChiming 5 = .ok (.aload_n 0, 1) := by decide +kernel
theorem dX1_countChiming_6 : decode cX1_countChiming 6 = .ok (.getfield 15, 3) := by decide +kernel
theorem dX1_countChiming_9 : decode cX1_countChiming 9 = .ok (.getfield 45, 3) := by decide +kernel
theorem dX1_countChiming_12 : decode cX1_countChiming 12 = .ok (.if_icmp .ge 24, 3) := by decide +kernel
theorem dX1_countChiming_15 : decode cX1_countChiming 15 = .ok (.aload_n 0, 1) := by decide +kernel
theorem dX1_countChiming_16 : decode cX1_countChiming 16 = .ok (.getfield 19, 3) := by decide +kernel
theorem dX1_countChiming_19 : decode cX1_countChiming 19 = .ok (.iload_n 2, 1) := by decide +kernel
theorem dX1_countChiming_20 : decode cX1_countChiming 20 = .ok (.aaload, 1) := by decide +kernel
theorem dX1_countChiming_21 : decode cX1_countChiming 21 = .ok (.invokevirtual 47, 3) := by decide +kernel
theorem dX1_countChiming_24 : decode cX1_countChiming 24 = .ok (.ifCond .eq 6, 3) := by decide +kernel
theorem dX1_countChiming_27 : decode cX1_countChiming 27 = .ok (.iinc 1 1, 3) := by decide +kernel
theorem dX1_countChiming_30 : decode cX1_countChiming 30 = .ok (.iinc 2 1, 3) := by decide +kernel
theorem dX1_countChiming_33 : decode cX1_countChiming 33 = .ok (.goto (-29), 3) := by decide +kernel
theorem dX1_countChiming_36 : decode cX1_countChiming 36 = .ok (.iload_n 1, 1) := by decide +kernel
theorem dX1_countChiming_37 : decode cX1_countChiming 37 = .ok (.ireturn, 1) := by decide +kernel
set_option maxRecDepth 20000 in
theorem bX1_countChiming_0 {G : Gx} {mm : Nat → Nat → Int32} {lm : Nat → Int64}  {o : Ou} {z : Wd} {a b : Nat} (hw : J G M_X1_countChiming 4 [(0, .ref 42), (1, .int 0), (2, .int 0)] [] (SH, mm, lm) false o z false a b) :
    J G M_X1_countChiming 0 [(0, .ref 42)] [] (SH, mm, lm) false o z false a b := by
  refine J_iconst (v := 0) (by decide) dX1_countChiming_0 ?_
  refine J_istore_n [(1, .int 0), (0, .ref 42)] rfl (i := 1) (by decide) rfl dX1_countChiming_1 ?_
  refine J_iconst (v := 0) (by decide) dX1_countChiming_2 ?_
  refine J_istore_n [(2, .int 0), (1, .int 0), (0, .ref 42)] rfl (i := 2) (by decide) rfl dX1_countChiming_3 ?_
  exact J_sub [2, 1, 0] rfl hw
set_option maxRecDepth 20000 in
theorem bX1_countChiming_4 {G : Gx} {mm : Nat → Nat → Int32} {lm : Nat → Int64} {x1 : Int32} {x2 : Int32} {o : Ou} {z : Wd} {a b : Nat} (hw : (((mm 4 9) ≤ x2) → o = .inl (some (.int x1)) ∧ z = (SH, mm, lm)) ∧ ((¬ (mm 4 9) ≤ x2) → ∃ j1 : Nat, x2 = nI j1 ∧ j1 < 8 ∧ ∃ (v3 : Int32), Ct G M_X0_hasChime [.ref (23 + j1)] (SH, mm, lm) false (.inl (some (.int v3))) (SH, mm, lm) false 0 0 ∧ ((v3 = 0) → J G M_X1_countChiming 4 [(0, .ref 42), (1, .int x1), (2, .int (x2 + 1))] [] (SH, mm, lm) false o z false a b) ∧ ((¬ v3 = 0) → J G M_X1_countChiming 4 [(0, .ref 42), (1, .int (x1 + 1)), (2, .int (x2 + 1))] [] (SH, mm, lm) false o z false a b))) :
    J G M_X1_countChiming 4 [(0, .ref 42), (1, .int x1), (2, .int x2)] [] (SH, mm, lm) false o z false a b := by
  refine J_iload_n rfl (i := 2) rfl dX1_countChiming_4 ?_
  refine J_aload_n rfl (i := 0) rfl dX1_countChiming_5 ?_
  refine J_getr kls_1 (q := 42) (k := 0) sh_42 (by decide) rfl gw_370 dX1_countChiming_6 ?_
  refine J_geti kls_7 (q := 4) (k := 9) sh_4 (by decide) rfl gw_209 dX1_countChiming_9 ?_
  refine J_icmp_ge (tgt := 36) dX1_countChiming_12 (by decide) (fun hb6 => ?_) (fun hb6 => ?_)
  · replace hw := hw.1 hb6
    refine J_iload_n rfl (i := 1) rfl dX1_countChiming_36 ?_
    exact J_fini (ty := .int) rfl rfl dX1_countChiming_37 hw
  · replace hw := hw.2 hb6
    refine J_aload_n rfl (i := 0) rfl dX1_countChiming_15 ?_
    refine J_getr kls_1 (q := 42) (k := 1) sh_42 (by decide) rfl gw_371 dX1_countChiming_16 ?_
    refine J_iload_n rfl (i := 2) rfl dX1_countChiming_19 ?_
    obtain ⟨j1, ej1, hj1, hw⟩ := hw
    refine J_aald (r := 23 + j1) sh_22 ej1 hj1 (by decide) (if_pos hj1) dX1_countChiming_20 ?_
    obtain ⟨v3, hc2, hw⟩ := hw
    refine J_callV (as := []) (k := (23 + j1)) (st := []) cal_X0_hasChime cai_X0_hasChime gw_1231 ⟨by decide, by decide⟩ cnt_X0_hasChime (sh_b23 hj1) rfl rfl (Nat.le_of_ble_eq_true rfl) dX1_countChiming_21 (Nat.zero_add _).symm (Nat.zero_add _).symm hc2 ?_
    refine J_if_eq (tgt := 30) dX1_countChiming_24 (by decide) (fun hb5 => ?_) (fun hb5 => ?_)
    · replace hw := hw.1 hb5
      refine J_iinc [(2, .int (x2 + 1)), (0, .ref 42), (1, .int x1)] (i := 2) (v := (x2 + 1)) rfl rfl (by decide) rfl dX1_countChiming_30 ?_
      refine J_goto (tgt := 4) dX1_countChiming_33 (by decide) ?_
      exact J_sub [1, 2, 0] rfl hw
    · replace hw := hw.2 hb5
      refine J_iinc [(1, .int (x1 + 1)), (0, .ref 42), (2, .int x2)] (i := 1) (v := (x1 + 1)) rfl rfl (by decide) rfl dX1_countChiming_27 ?_
      refine J_iinc [(2, .int (x2 + 1)), (1, .int (x1 + 1)), (0, .ref 42)] (i := 2) (v := (x2 + 1)) rfl rfl (by decide) rfl dX1_countChiming_30 ?_
      refine J_goto (tgt := 4) dX1_countChiming_33 (by decide) ?_
      exact J_sub [2, 1, 0] rfl hw
theorem dX1_countQuiet_0 : decode cX1_countQuiet 0 = .ok (.iconst 0, 1) := by decide +kernel
theorem dX1_countQuiet_1 : decode cX1_countQuiet 1 = .ok (.istore_n 1, 1) := by decide +kernel
theorem dX1_countQuiet_2 : decode cX1_countQuiet 2 = .ok (.iconst 0, 1) := by decide +kernel
theorem dX1_countQuiet_3 : decode cX1_countQuiet 3 = .ok (.istore_n 2, 1) := by decide +kernel
theorem dX1_countQuiet_4 : decode cX1_countQuiet 4 = .ok (.iload_n 2, 1) := by decide +kernel
theorem dX1_countQuiet_5 : decode cX1_countQuiet 5 = .ok (.sipush 1440, 3) := by decide +kernel
theorem dX1_countQuiet_8 : decode cX1_countQuiet 8 = .ok (.if_icmp .ge 21, 3) := by decide +kernel
theorem dX1_countQuiet_11 : decode cX1_countQuiet 11 = .ok (.aload_n 0, 1) := by decide +kernel
theorem dX1_countQuiet_12 : decode cX1_countQuiet 12 = .ok (.getfield 9, 3) := by decide +kernel
theorem dX1_countQuiet_15 : decode cX1_countQuiet 15 = .ok (.iload_n 2, 1) := by decide +kernel
theorem dX1_countQuiet_16 : decode cX1_countQuiet 16 = .ok (.baload, 1) := by decide +kernel
theorem dX1_countQuiet_17 : decode cX1_countQuiet 17 = .ok (.ifCond .eq 6, 3) := by decide +kernel
theorem dX1_countQuiet_20 : decode cX1_countQuiet 20 = .ok (.iinc 1 1, 3) := by decide +kernel
theorem dX1_countQuiet_23 : decode cX1_countQuiet 23 = .ok (.iinc 2 1, 3) := by decide +kernel
theorem dX1_countQuiet_26 : decode cX1_countQuiet 26 = .ok (.goto (-22), 3) := by decide +kernel
theorem dX1_countQuiet_29 : decode cX1_countQuiet 29 = .ok (.iload_n 1, 1) := by decide +kernel
theorem dX1_countQuiet_30 : decode cX1_countQuiet 30 = .ok (.ireturn, 1) := by decide +kernel
set_option maxRecDepth 20000 in
theorem bX1_countQuiet_0 {G : Gx} {mm : Nat → Nat → Int32} {lm : Nat → Int64}  {o : Ou} {z : Wd} {a b : Nat} (hw : J G M_X1_countQuiet 4 [(0, .ref 42), (1, .int 0), (2, .int 0)] [] (SH, mm, lm) false o z false a b) :
    J G M_X1_countQuiet 0 [(0, .ref 42)] [] (SH, mm, lm) false o z false a b := by
  refine J_iconst (v := 0) (by decide) dX1_countQuiet_0 ?_
  refine J_istore_n [(1, .int 0), (0, .ref 42)] rfl (i := 1) (by decide) rfl dX1_countQuiet_1 ?_
  refine J_iconst (v := 0) (by decide) dX1_countQuiet_2 ?_
  refine J_istore_n [(2, .int 0), (1, .int 0), (0, .ref 42)] rfl (i := 2) (by decide) rfl dX1_countQuiet_3 ?_
  exact J_sub [2, 1, 0] rfl hw
set_option maxRecDepth 20000 in
theorem bX1_countQuiet_4 {G : Gx} {mm : Nat → Nat → Int32} {lm : Nat → Int64} {x1 : Int32} {x2 : Int32} {o : Ou} {z : Wd} {a b : Nat} (hw : ((1440 ≤ x2) → o = .inl (some (.int x1)) ∧ z = (SH, mm, lm)) ∧ ((¬ 1440 ≤ x2) → ∃ j1 : Nat, x2 = nI j1 ∧ j1 < 1440 ∧ (((mm 43 j1) = 0) → J G M_X1_countQuiet 4 [(0, .ref 42), (1, .int x1), (2, .int (x2 + 1))] [] (SH, mm, lm) false o z false a b) ∧ ((¬ (mm 43 j1) = 0) → J G M_X1_countQuiet 4 [(0, .ref 42), (1, .int (x1 + 1)), (2, .int (x2 + 1))] [] (SH, mm, lm) false o z false a b))) :
    J G M_X1_countQuiet 4 [(0, .ref 42), (1, .int x1), (2, .int x2)] [] (SH, mm, lm) false o z false a b := by
  refine J_iload_n rfl (i := 2) rfl dX1_countQuiet_4 ?_
  refine J_sipush (v := 1440) (by decide) dX1_countQuiet_5 ?_
  refine J_icmp_ge (tgt := 29) dX1_countQuiet_8 (by decide) (fun hb3 => ?_) (fun hb3 => ?_)
  · replace hw := hw.1 hb3
    refine J_iload_n rfl (i := 1) rfl dX1_countQuiet_29 ?_
    exact J_fini (ty := .int) rfl rfl dX1_countQuiet_30 hw
  · replace hw := hw.2 hb3
    refine J_aload_n rfl (i := 0) rfl dX1_countQuiet_11 ?_
    refine J_getr kls_1 (q := 42) (k := 2) sh_42 (by decide) rfl gw_372 dX1_countQuiet_12 ?_
    refine J_iload_n rfl (i := 2) rfl dX1_countQuiet_15 ?_
    obtain ⟨j1, ej1, hj1, hw⟩ := hw
    refine J_zald sh_43 ej1 hj1 (by decide) dX1_countQuiet_16 ?_
    refine J_if_eq (tgt := 23) dX1_countQuiet_17 (by decide) (fun hb2 => ?_) (fun hb2 => ?_)
    · replace hw := hw.1 hb2
      refine J_iinc [(2, .int (x2 + 1)), (0, .ref 42), (1, .int x1)] (i := 2) (v := (x2 + 1)) rfl rfl (by decide) rfl dX1_countQuiet_23 ?_
      refine J_goto (tgt := 4) dX1_countQuiet_26 (by decide) ?_
      exact J_sub [1, 2, 0] rfl hw
    · replace hw := hw.2 hb2
      refine J_iinc [(1, .int (x1 + 1)), (0, .ref 42), (2, .int x2)] (i := 1) (v := (x1 + 1)) rfl rfl (by decide) rfl dX1_countQuiet_20 ?_
      refine J_iinc [(2, .int (x2 + 1)), (1, .int (x1 + 1)), (0, .ref 42)] (i := 2) (v := (x2 + 1)) rfl rfl (by decide) rfl dX1_countQuiet_23 ?_
      refine J_goto (tgt := 4) dX1_countQuiet_26 (by decide) ?_
      exact J_sub [2, 1, 0] rfl hw
theorem dX1_longestLoudRun_0 : decode cX1_longestLoudRun 0 = .ok (.iconst 0, 1) := by decide +kernel
theorem dX1_longestLoudRun_1 : decode cX1_longestLoudRun 1 = .ok (.istore_n 1, 1) := by decide +kernel
theorem dX1_longestLoudRun_2 : decode cX1_longestLoudRun 2 = .ok (.iconst 0, 1) := by decide +kernel
theorem dX1_longestLoudRun_3 : decode cX1_longestLoudRun 3 = .ok (.istore_n 2, 1) := by decide +kernel
theorem dX1_longestLoudRun_4 : decode cX1_longestLoudRun 4 = .ok (.iconst 0, 1) := by decide +kernel
theorem dX1_longestLoudRun_5 : decode cX1_longestLoudRun 5 = .ok (.istore_n 3, 1) := by decide +kernel
theorem dX1_longestLoudRun_6 : decode cX1_longestLoudRun 6 = .ok (.iload_n 3, 1) := by decide +kernel
theorem dX1_longestLoudRun_7 : decode cX1_longestLoudRun 7 = .ok (.sipush 1440, 3) := by decide +kernel
theorem dX1_longestLoudRun_10 : decode cX1_longestLoudRun 10 = .ok (.if_icmp .ge 32, 3) := by decide +kernel
theorem dX1_longestLoudRun_13 : decode cX1_longestLoudRun 13 = .ok (.aload_n 0, 1) := by decide +kernel
theorem dX1_longestLoudRun_14 : decode cX1_longestLoudRun 14 = .ok (.getfield 9, 3) := by decide +kernel
theorem dX1_longestLoudRun_17 : decode cX1_longestLoudRun 17 = .ok (.iload_n 3, 1) := by decide +kernel
theorem dX1_longestLoudRun_18 : decode cX1_longestLoudRun 18 = .ok (.baload, 1) := by decide +kernel
theorem dX1_longestLoudRun_19 : decode cX1_longestLoudRun 19 = .ok (.ifCond .eq 7, 3) := by decide +kernel
theorem dX1_longestLoudRun_22 : decode cX1_longestLoudRun 22 = .ok (.iconst 0, 1) := by decide +kernel
theorem dX1_longestLoudRun_23 : decode cX1_longestLoudRun 23 = .ok (.goto 6, 3) := by decide +kernel
theorem dX1_longestLoudRun_26 : decode cX1_longestLoudRun 26 = .ok (.iload_n 2, 1) := by decide +kernel
theorem dX1_longestLoudRun_27 : decode cX1_longestLoudRun 27 = .ok (.iconst 1, 1) := by decide +kernel
theorem dX1_longestLoudRun_28 : decode cX1_longestLoudRun 28 = .ok (.iadd, 1) := by decide +kernel
theorem dX1_longestLoudRun_29 : decode cX1_longestLoudRun 29 = .ok (.istore_n 2, 1) := by decide +kernel
theorem dX1_longestLoudRun_30 : decode cX1_longestLoudRun 30 = .ok (.iload_n 1, 1) := by decide +kernel
theorem dX1_longestLoudRun_31 : decode cX1_longestLoudRun 31 = .ok (.iload_n 2, 1) := by decide +kernel
theorem dX1_longestLoudRun_32 : decode cX1_longestLoudRun 32 = .ok (.invokestatic 42, 3) := by decide +kernel
theorem dX1_longestLoudRun_35 : decode cX1_longestLoudRun 35 = .ok (.istore_n 1, 1) := by decide +kernel
theorem dX1_longestLoudRun_36 : decode cX1_longestLoudRun 36 = .ok (.iinc 3 1, 3) := by decide +kernel
theorem dX1_longestLoudRun_39 : decode cX1_longestLoudRun 39 = .ok (.goto (-33), 3) := by decide +kernel
theorem dX1_longestLoudRun_42 : decode cX1_longestLoudRun 42 = .ok (.iload_n 1, 1) := by decide +kernel
theorem dX1_longestLoudRun_43 : decode cX1_longestLoudRun 43 = .ok (.ireturn, 1) := by decide +kernel
set_option maxRecDepth 20000 in
theorem bX1_longestLoudRun_0 {G : Gx} {mm : Nat → Nat → Int32} {lm : Nat → Int64}  {o : Ou} {z : Wd} {a b : Nat} (hw : J G M_X1_longestLoudRun 6 [(0, .ref 42), (1, .int 0), (2, .int 0), (3, .int 0)] [] (SH, mm, lm) false o z false a b) :
    J G M_X1_longestLoudRun 0 [(0, .ref 42)] [] (SH, mm, lm) false o z false a b := by
  refine J_iconst (v := 0) (by decide) dX1_longestLoudRun_0 ?_
  refine J_istore_n [(1, .int 0), (0, .ref 42)] rfl (i := 1) (by decide) rfl dX1_longestLoudRun_1 ?_
  refine J_iconst (v := 0) (by decide) dX1_longestLoudRun_2 ?_
  refine J_istore_n [(2, .int 0), (1, .int 0), (0, .ref 42)] rfl (i := 2) (by decide) rfl dX1_longestLoudRun_3 ?_
  refine J_iconst (v := 0) (by decide) dX1_longestLoudRun_4 ?_
  refine J_istore_n [(3, .int 0), (2, .int 0), (1, .int 0), (0, .ref 42)] rfl (i := 3) (by decide) rfl dX1_longestLoudRun_5 ?_
  exact J_sub [3, 2, 1, 0] rfl hw
set_option maxRecDepth 20000 in
theorem bX1_longestLoudRun_6 {G : Gx} {mm : Nat → Nat → Int32} {lm : Nat → Int64} {x1 : Int32} {x2 : Int32} {x3 : Int32} {o : Ou} {z : Wd} {a b : Nat} (hw : ((1440 ≤ x3) → o = .inl (some (.int x1)) ∧ z = (SH, mm, lm)) ∧ ((¬ 1440 ≤ x3) → ∃ j1 : Nat, x3 = nI j1 ∧ j1 < 1440 ∧ (((mm 43 j1) = 0) → ∃ (v3 : Int32), Ct G M_J9_max_7cf53 [.int x1, .int (x2 + 1)] (SH, mm, lm) false (.inl (some (.int v3))) (SH, mm, lm) false 0 0 ∧ J G M_X1_longestLoudRun 6 [(0, .ref 42), (1, .int v3), (2, .int (x2 + 1)), (3, .int (x3 + 1))] [] (SH, mm, lm) false o z false a b) ∧ ((¬ (mm 43 j1) = 0) → ∃ (v6 : Int32), Ct G M_J9_max_7cf53 [.int x1, .int 0] (SH, mm, lm) false (.inl (some (.int v6))) (SH, mm, lm) false 0 0 ∧ J G M_X1_longestLoudRun 6 [(0, .ref 42), (1, .int v6), (2, .int 0), (3, .int (x3 + 1))] [] (SH, mm, lm) false o z false a b))) :
    J G M_X1_longestLoudRun 6 [(0, .ref 42), (1, .int x1), (2, .int x2), (3, .int x3)] [] (SH, mm, lm) false o z false a b := by
  refine J_iload_n rfl (i := 3) rfl dX1_longestLoudRun_6 ?_
  refine J_sipush (v := 1440) (by decide) dX1_longestLoudRun_7 ?_
  refine J_icmp_ge (tgt := 42) dX1_longestLoudRun_10 (by decide) (fun hb9 => ?_) (fun hb9 => ?_)
  · replace hw := hw.1 hb9
    refine J_iload_n rfl (i := 1) rfl dX1_longestLoudRun_42 ?_
    exact J_fini (ty := .int) rfl rfl dX1_longestLoudRun_43 hw
  · replace hw := hw.2 hb9
    refine J_aload_n rfl (i := 0) rfl dX1_longestLoudRun_13 ?_
    refine J_getr kls_1 (q := 42) (k := 2) sh_42 (by decide) rfl gw_372 dX1_longestLoudRun_14 ?_
    refine J_iload_n rfl (i := 3) rfl dX1_longestLoudRun_17 ?_
    obtain ⟨j1, ej1, hj1, hw⟩ := hw
    refine J_zald sh_43 ej1 hj1 (by decide) dX1_longestLoudRun_18 ?_
    refine J_if_eq (tgt := 26) dX1_longestLoudRun_19 (by decide) (fun hb8 => ?_) (fun hb8 => ?_)
    · replace hw := hw.1 hb8
      refine J_iload_n rfl (i := 2) rfl dX1_longestLoudRun_26 ?_
      refine J_iconst (v := 1) (by decide) dX1_longestLoudRun_27 ?_
      refine J_iadd dX1_longestLoudRun_28 ?_
      refine J_istore_n [(2, .int (x2 + 1)), (0, .ref 42), (1, .int x1), (3, .int x3)] rfl (i := 2) (by decide) rfl dX1_longestLoudRun_29 ?_
      refine J_iload_n rfl (i := 1) rfl dX1_longestLoudRun_30 ?_
      refine J_iload_n rfl (i := 2) rfl dX1_longestLoudRun_31 ?_
      obtain ⟨v3, hc2, hw⟩ := hw
      refine J_callS (as := [.int x1, .int (x2 + 1)]) (st := []) cal_J9_max_7cf53 cas_J9_max_7cf53 gw_609 ⟨by decide, by decide⟩ cnt_J9_max_7cf53 rfl (Nat.le_of_ble_eq_true rfl) dX1_longestLoudRun_32 (Nat.zero_add _).symm (Nat.zero_add _).symm hc2 ?_
      refine J_istore_n [(1, .int v3), (2, .int (x2 + 1)), (0, .ref 42), (3, .int x3)] rfl (i := 1) (by decide) rfl dX1_longestLoudRun_35 ?_
      refine J_iinc [(3, .int (x3 + 1)), (1, .int v3), (2, .int (x2 + 1)), (0, .ref 42)] (i := 3) (v := (x3 + 1)) rfl rfl (by decide) rfl dX1_longestLoudRun_36 ?_
      refine J_goto (tgt := 6) dX1_longestLoudRun_39 (by decide) ?_
      exact J_sub [3, 1, 2, 0] rfl hw
    · replace hw := hw.2 hb8
      refine J_iconst (v := 0) (by decide) dX1_longestLoudRun_22 ?_
      refine J_goto (tgt := 29) dX1_longestLoudRun_23 (by decide) ?_
      refine J_istore_n [(2, .int 0), (0, .ref 42), (1, .int x1), (3, .int x3)] rfl (i := 2) (by decide) rfl dX1_longestLoudRun_29 ?_
      refine J_iload_n rfl (i := 1) rfl dX1_longestLoudRun_30 ?_
      refine J_iload_n rfl (i := 2) rfl dX1_longestLoudRun_31 ?_
      obtain ⟨v6, hc5, hw⟩ := hw
      refine J_callS (as := [.int x1, .int 0]) (st := []) cal_J9_max_7cf53 cas_J9_max_7cf53 gw_609 ⟨by decide, by decide⟩ cnt_J9_max_7cf53 rfl (Nat.le_of_ble_eq_true rfl) dX1_longestLoudRun_32 (Nat.zero_add _).symm (Nat.zero_add _).symm hc5 ?_
      refine J_istore_n [(1, .int v6), (2, .int 0), (0, .ref 42), (3, .int x3)] rfl (i := 1) (by decide) rfl dX1_longestLoudRun_35 ?_
      refine J_iinc [(3, .int (x3 + 1)), (1, .int v6), (2, .int 0), (0, .ref 42)] (i := 3) (v := (x3 + 1)) rfl rfl (by decide) rfl dX1_longestLoudRun_36 ?_
      refine J_goto (tgt := 6) dX1_longestLoudRun_39 (by decide) ?_
      exact J_sub [3, 1, 2, 0] rfl hw
theorem dX1_soundingSet_0 : decode cX1_soundingSet 0 = .ok (.iconst 0, 1) := by decide +kernel
theorem dX1_soundingSet_1 : decode cX1_soundingSet 1 = .ok (.istore_n 2, 1) := by decide +kernel
theorem dX1_soundingSet_2 : decode cX1_soundingSet 2 = .ok (.iconst 0, 1) := by decide +kernel
theorem dX1_soundingSet_3 : decode cX1_soundingSet 3 = .ok (.istore_n 3, 1) := by decide +kernel
theorem dX1_soundingSet_4 : decode cX1_soundingSet 4 = .ok (.iload_n 3, 1) := by decide +kernel
theorem dX1_soundingSet_5 : decode cX1_soundingSet 5 = .ok (.aload_n 0, 1) := by decide +kernel
theorem dX1_soundingSet_6 : decode cX1_soundingSet 6 = .ok (.getfield 15, 3) := by decide +kernel
theorem dX1_soundingSet_9 : decode cX1_soundingSet 9 = .ok (.getfield 45, 3) := by decide +kernel
theorem dX1_soundingSet_12 : decode cX1_soundingSet 12 = .ok (.if_icmp .ge 24, 3) := by decide +kernel
theorem dX1_soundingSet_15 : decode cX1_soundingSet 15 = .ok (.aload_n 0, 1) := by decide +kernel
theorem dX1_soundingSet_16 : decode cX1_soundingSet 16 = .ok (.iload_n 3, 1) := by decide +kernel
theorem dX1_soundingSet_17 : decode cX1_soundingSet 17 = .ok (.iload_n 1, 1) := by decide +kernel
theorem dX1_soundingSet_18 : decode cX1_soundingSet 18 = .ok (.invokevirtual 53, 3) := by decide +kernel
theorem dX1_soundingSet_21 : decode cX1_soundingSet 21 = .ok (.ifCond .eq 9, 3) := by decide +kernel
theorem dX1_soundingSet_24 : decode cX1_soundingSet 24 = .ok (.iload_n 2, 1) := by decide +kernel
theorem dX1_soundingSet_25 : decode cX1_soundingSet 25 = .ok (.iconst 1, 1) := by decide +kernel
theorem dX1_soundingSet_26 : decode cX1_soundingSet 26 = .ok (.iload_n 3, 1) := by decide +kernel
theorem dX1_soundingSet_27 : decode cX1_soundingSet 27 = .ok (.ishl, 1) := by decide +kernel
theorem dX1_soundingSet_28 : decode cX1_soundingSet 28 = .ok (.ior, 1) := by decide +kernel
theorem dX1_soundingSet_29 : decode cX1_soundingSet 29 = .ok (.istore_n 2, 1) := by decide +kernel
theorem dX1_soundingSet_30 : decode cX1_soundingSet 30 = .ok (.iinc 3 1, 3) := by decide +kernel
theorem dX1_soundingSet_33 : decode cX1_soundingSet 33 = .ok (.goto (-29), 3) := by decide +kernel
theorem dX1_soundingSet_36 : decode cX1_soundingSet 36 = .ok (.iload_n 2, 1) := by decide +kernel
theorem dX1_soundingSet_37 : decode cX1_soundingSet 37 = .ok (.ireturn, 1) := by decide +kernel
set_option maxRecDepth 20000 in
theorem bX1_soundingSet_0 {G : Gx} {mm : Nat → Nat → Int32} {lm : Nat → Int64} {x1 : Int32} {o : Ou} {z : Wd} {a b : Nat} (hw : J G M_X1_soundingSet 4 [(0, .ref 42), (1, .int x1), (2, .int 0), (3, .int 0)] [] (SH, mm, lm) false o z false a b) :
    J G M_X1_soundingSet 0 [(0, .ref 42), (1, .int x1)] [] (SH, mm, lm) false o z false a b := by
  refine J_iconst (v := 0) (by decide) dX1_soundingSet_0 ?_
  refine J_istore_n [(2, .int 0), (0, .ref 42), (1, .int x1)] rfl (i := 2) (by decide) rfl dX1_soundingSet_1 ?_
  refine J_iconst (v := 0) (by decide) dX1_soundingSet_2 ?_
  refine J_istore_n [(3, .int 0), (2, .int 0), (0, .ref 42), (1, .int x1)] rfl (i := 3) (by decide) rfl dX1_soundingSet_3 ?_
  exact J_sub [2, 3, 1, 0] rfl hw
set_option maxRecDepth 20000 in
theorem bX1_soundingSet_4 {G : Gx} {mm : Nat → Nat → Int32} {lm : Nat → Int64} {x1 : Int32} {x2 : Int32} {x3 : Int32} {o : Ou} {z : Wd} {a b : Nat} (hw : (((mm 4 9) ≤ x3) → o = .inl (some (.int x2)) ∧ z = (SH, mm, lm)) ∧ ((¬ (mm 4 9) ≤ x3) → ∃ (v2 : Int32), Ct G M_X1_isHeard [.ref 42, .int x3, .int x1] (SH, mm, lm) false (.inl (some (.int v2))) (SH, mm, lm) false 0 0 ∧ ((v2 = 0) → J G M_X1_soundingSet 4 [(0, .ref 42), (1, .int x1), (2, .int x2), (3, .int (x3 + 1))] [] (SH, mm, lm) false o z false a b) ∧ ((¬ v2 = 0) → J G M_X1_soundingSet 4 [(0, .ref 42), (1, .int x1), (2, .int (x2 ||| (1 <<< (x3 &&& 31)))), (3, .int (x3 + 1))] [] (SH, mm, lm) false o z false a b))) :
    J G M_X1_soundingSet 4 [(0, .ref 42), (1, .int x1), (2, .int x2), (3, .int x3)] [] (SH, mm, lm) false o z false a b := by
  refine J_iload_n rfl (i := 3) rfl dX1_soundingSet_4 ?_
  refine J_aload_n rfl (i := 0) rfl dX1_soundingSet_5 ?_
  refine J_getr kls_1 (q := 42) (k := 0) sh_42 (by decide) rfl gw_370 dX1_soundingSet_6 ?_
  refine J_geti kls_7 (q := 4) (k := 9) sh_4 (by decide) rfl gw_209 dX1_soundingSet_9 ?_
  refine J_icmp_ge (tgt := 36) dX1_soundingSet_12 (by decide) (fun hb5 => ?_) (fun hb5 => ?_)
  · replace hw := hw.1 hb5
    refine J_iload_n rfl (i := 2) rfl dX1_soundingSet_36 ?_
    exact J_fini (ty := .int) rfl rfl dX1_soundingSet_37 hw
  · replace hw := hw.2 hb5
    refine J_aload_n rfl (i := 0) rfl dX1_soundingSet_15 ?_
    refine J_iload_n rfl (i := 3) rfl dX1_soundingSet_16 ?_
    refine J_iload_n rfl (i := 1) rfl dX1_soundingSet_17 ?_
    obtain ⟨v2, hc1, hw⟩ := hw
    refine J_callV (as := [.int x3, .int x1]) (k := 42) (st := []) cal_X1_isHeard cai_X1_isHeard gw_1272 ⟨by decide, by decide⟩ cnt_X1_isHeard sh_42 rfl rfl (Nat.le_of_ble_eq_true rfl) dX1_soundingSet_18 (Nat.zero_add _).symm (Nat.zero_add _).symm hc1 ?_
    refine J_if_eq (tgt := 30) dX1_soundingSet_21 (by decide) (fun hb4 => ?_) (fun hb4 => ?_)
    · replace hw := hw.1 hb4
      refine J_iinc [(3, .int (x3 + 1)), (0, .ref 42), (1, .int x1), (2, .int x2)] (i := 3) (v := (x3 + 1)) rfl rfl (by decide) rfl dX1_soundingSet_30 ?_
      refine J_goto (tgt := 4) dX1_soundingSet_33 (by decide) ?_
      exact J_sub [1, 2, 3, 0] rfl hw
    · replace hw := hw.2 hb4
      refine J_iload_n rfl (i := 2) rfl dX1_soundingSet_24 ?_
      refine J_iconst (v := 1) (by decide) dX1_soundingSet_25 ?_
      refine J_iload_n rfl (i := 3) rfl dX1_soundingSet_26 ?_
      refine J_ishl dX1_soundingSet_27 ?_
      refine J_ior dX1_soundingSet_28 ?_
      refine J_istore_n [(2, .int (x2 ||| (1 <<< (x3 &&& 31)))), (0, .ref 42), (1, .int x1), (3, .int x3)] rfl (i := 2) (by decide) rfl dX1_soundingSet_29 ?_
      refine J_iinc [(3, .int (x3 + 1)), (2, .int (x2 ||| (1 <<< (x3 &&& 31)))), (0, .ref 42), (1, .int x1)] (i := 3) (v := (x3 + 1)) rfl rfl (by decide) rfl dX1_soundingSet_30 ?_
      refine J_goto (tgt := 4) dX1_soundingSet_33 (by decide) ?_
      exact J_sub [2, 3, 1, 0] rfl hw
theorem dX1_isHeard_0 : decode cX1_isHeard 0 = .ok (.aload_n 0, 1) := by decide +kernel
theorem dX1_isHeard_1 : decode cX1_isHeard 1 = .ok (.getfield 19, 3) := by decide +kernel
theorem dX1_isHeard_4 : decode cX1_isHeard 4 = .ok (.iload_n 1, 1) := by decide +kernel
theorem dX1_isHeard_5 : decode cX1_isHeard 5 = .ok (.aaload, 1) := by decide +kernel
theorem dX1_isHeard_6 : decode cX1_isHeard 6 = .ok (.invokevirtual 57, 3) := by decide +kernel
theorem dX1_isHeard_9 : decode cX1_isHeard 9 = .ok (.ifCond .eq 29, 3) := by decide +kernel
theorem dX1_isHeard_12 : decode cX1_isHeard 12 = .ok (.aload_n 0, 1) := by decide +kernel
theorem dX1_isHeard_13 : decode cX1_isHeard 13 = .ok (.getfield 19, 3) := by decide +kernel
theorem dX1_isHeard_16 : decode cX1_isHeard 16 = .ok (.iload_n 1, 1) := by decide +kernel
theorem dX1_isHeard_17 : decode cX1_isHeard 17 = .ok (.aaload, 1) := by decide +kernel
theorem dX1_isHeard_18 : decode cX1_isHeard 18 = .ok (.iload_n 2, 1) := by decide +kernel
theorem dX1_isHeard_19 : decode cX1_isHeard 19 = .ok (.invokevirtual 60, 3) := by decide +kernel
theorem dX1_isHeard_22 : decode cX1_isHeard 22 = .ok (.ifCond .eq 16, 3) := by decide +kernel
theorem dX1_isHeard_25 : decode cX1_isHeard 25 = .ok (.aload_n 0, 1) := by decide +kernel
theorem dX1_isHeard_26 : decode cX1_isHeard 26 = .ok (.getfield 9, 3) := by decide +kernel
theorem dX1_isHeard_29 : decode cX1_isHeard 29 = .ok (.iload_n 2, 1) := by decide +kernel
theorem dX1_isHeard_30 : decode cX1_isHeard 30 = .ok (.baload, 1) := by decide +kernel
theorem dX1_isHeard_31 : decode cX1_isHeard 31 = .ok (.ifCond .ne 7, 3) := by decide +kernel
theorem dX1_isHeard_34 : decode cX1_isHeard 34 = .ok (.iconst 1, 1) := by decide +kernel
theorem dX1_isHeard_35 : decode cX1_isHeard 35 = .ok (.goto 4, 3) := by decide +kernel
theorem dX1_isHeard_38 : decode cX1_isHeard 38 = .ok (.iconst 0, 1) := by decide +kernel
theorem dX1_isHeard_39 : decode cX1_isHeard 39 = .ok (.ireturn, 1) := by decide +kernel
set_option maxRecDepth 20000 in
theorem bX1_isHeard_0 {G : Gx} {mm : Nat → Nat → Int32} {lm : Nat → Int64} {x1 : Int32} {x2 : Int32} {o : Ou} {z : Wd} {a b : Nat} (hw : ∃ j1 : Nat, x1 = nI j1 ∧ j1 < 8 ∧ ∃ (v3 : Int32), Ct G M_X0_hangs [.ref (23 + j1)] (SH, mm, lm) false (.inl (some (.int v3))) (SH, mm, lm) false 0 0 ∧ ((v3 = 0) → o = .inl (some (.int 0)) ∧ z = (SH, mm, lm)) ∧ ((¬ v3 = 0) → ∃ j5 : Nat, x1 = nI j5 ∧ j5 < 8 ∧ ∃ (v7 : Int32), Ct G M_X0_chimesAt [.ref (23 + j5), .int x2] (SH, mm, lm) false (.inl (some (.int v7))) (SH, mm, lm) false 0 0 ∧ ((v7 = 0) → o = .inl (some (.int 0)) ∧ z = (SH, mm, lm)) ∧ ((¬ v7 = 0) → ∃ j9 : Nat, x2 = nI j9 ∧ j9 < 1440 ∧ ((¬ (mm 43 j9) = 0) → o = .inl (some (.int 0)) ∧ z = (SH, mm, lm)) ∧ (((mm 43 j9) = 0) → o = .inl (some (.int 1)) ∧ z = (SH, mm, lm))))) :
    J G M_X1_isHeard 0 [(0, .ref 42), (1, .int x1), (2, .int x2)] [] (SH, mm, lm) false o z false a b := by
  refine J_aload_n rfl (i := 0) rfl dX1_isHeard_0 ?_
  refine J_getr kls_1 (q := 42) (k := 1) sh_42 (by decide) rfl gw_371 dX1_isHeard_1 ?_
  refine J_iload_n rfl (i := 1) rfl dX1_isHeard_4 ?_
  obtain ⟨j1, ej1, hj1, hw⟩ := hw
  refine J_aald (r := 23 + j1) sh_22 ej1 hj1 (by decide) (if_pos hj1) dX1_isHeard_5 ?_
  obtain ⟨v3, hc2, hw⟩ := hw
  refine J_callV (as := []) (k := (23 + j1)) (st := []) cal_X0_hangs cai_X0_hangs gw_1276 ⟨by decide, by decide⟩ cnt_X0_hangs (sh_b23 hj1) rfl rfl (Nat.le_of_ble_eq_true rfl) dX1_isHeard_6 (Nat.zero_add _).symm (Nat.zero_add _).symm hc2 ?_
  refine J_if_eq (tgt := 38) dX1_isHeard_9 (by decide) (fun hb12 => ?_) (fun hb12 => ?_)
  · replace hw := hw.1 hb12
    refine J_iconst (v := 0) (by decide) dX1_isHeard_38 ?_
    exact J_fini (ty := .boolean) rfl rfl dX1_isHeard_39 hw
  · replace hw := hw.2 hb12
    refine J_aload_n rfl (i := 0) rfl dX1_isHeard_12 ?_
    refine J_getr kls_1 (q := 42) (k := 1) sh_42 (by decide) rfl gw_371 dX1_isHeard_13 ?_
    refine J_iload_n rfl (i := 1) rfl dX1_isHeard_16 ?_
    obtain ⟨j5, ej5, hj5, hw⟩ := hw
    refine J_aald (r := 23 + j5) sh_22 ej5 hj5 (by decide) (if_pos hj5) dX1_isHeard_17 ?_
    refine J_iload_n rfl (i := 2) rfl dX1_isHeard_18 ?_
    obtain ⟨v7, hc6, hw⟩ := hw
    refine J_callV (as := [.int x2]) (k := (23 + j5)) (st := []) cal_X0_chimesAt cai_X0_chimesAt gw_1277 ⟨by decide, by decide⟩ cnt_X0_chimesAt (sh_b23 hj5) rfl rfl (Nat.le_of_ble_eq_true rfl) dX1_isHeard_19 (Nat.zero_add _).symm (Nat.zero_add _).symm hc6 ?_
    refine J_if_eq (tgt := 38) dX1_isHeard_22 (by decide) (fun hb11 => ?_) (fun hb11 => ?_)
    · replace hw := hw.1 hb11
      refine J_iconst (v := 0) (by decide) dX1_isHeard_38 ?_
      exact J_fini (ty := .boolean) rfl rfl dX1_isHeard_39 hw
    · replace hw := hw.2 hb11
      refine J_aload_n rfl (i := 0) rfl dX1_isHeard_25 ?_
      refine J_getr kls_1 (q := 42) (k := 2) sh_42 (by decide) rfl gw_372 dX1_isHeard_26 ?_
      refine J_iload_n rfl (i := 2) rfl dX1_isHeard_29 ?_
      obtain ⟨j9, ej9, hj9, hw⟩ := hw
      refine J_zald sh_43 ej9 hj9 (by decide) dX1_isHeard_30 ?_
      refine J_if_ne (tgt := 38) dX1_isHeard_31 (by decide) (fun hb10 => ?_) (fun hb10 => ?_)
      · replace hw := hw.1 hb10
        refine J_iconst (v := 0) (by decide) dX1_isHeard_38 ?_
        exact J_fini (ty := .boolean) rfl rfl dX1_isHeard_39 hw
      · replace hw := hw.2 hb10
        refine J_iconst (v := 1) (by decide) dX1_isHeard_34 ?_
        refine J_goto (tgt := 39) dX1_isHeard_35 (by decide) ?_
        exact J_fini (ty := .boolean) rfl rfl dX1_isHeard_39 hw
theorem dX1_firstSoundFrom_0 : decode cX1_firstSoundFrom 0 = .ok (.iload_n 1, 1) := by decide +kernel
theorem dX1_firstSoundFrom_1 : decode cX1_firstSoundFrom 1 = .ok (.istore_n 2, 1) := by decide +kernel
theorem dX1_firstSoundFrom_2 : decode cX1_firstSoundFrom 2 = .ok (.iload_n 2, 1) := by decide +kernel
theorem dX1_firstSoundFrom_3 : decode cX1_firstSoundFrom 3 = .ok (.sipush 1440, 3) := by decide +kernel
theorem dX1_firstSoundFrom_6 : decode cX1_firstSoundFrom 6 = .ok (.if_icmp .ge 19, 3) := by decide +kernel
theorem dX1_firstSoundFrom_9 : decode cX1_firstSoundFrom 9 = .ok (.aload_n 0, 1) := by decide +kernel
theorem dX1_firstSoundFrom_10 : decode cX1_firstSoundFrom 10 = .ok (.iload_n 2, 1) := by decide +kernel
theorem dX1_firstSoundFrom_11 : decode cX1_firstSoundFrom 11 = .ok (.invokevirtual 64, 3) := by decide +kernel
theorem dX1_firstSoundFrom_14 : decode cX1_firstSoundFrom 14 = .ok (.ifCond .eq 5, 3) := by decide +kernel
theorem dX1_firstSoundFrom_17 : decode cX1_firstSoundFrom 17 = .ok (.iload_n 2, 1) := by decide +kernel
theorem dX1_firstSoundFrom_18 : decode cX1_firstSoundFrom 18 = .ok (.ireturn, 1) := by decide +kernel
theorem dX1_firstSoundFrom_19 : decode cX1_firstSoundFrom 19 = .ok (.iinc 2 1, 3) := by decide +kernel
theorem dX1_firstSoundFrom_22 : decode cX1_firstSoundFrom 22 = .ok (.goto (-20), 3) := by decide +kernel
theorem dX1_firstSoundFrom_25 : decode cX1_firstSoundFrom 25 = .ok (.bipush (-2), 2) := by decide +kernel
theorem dX1_firstSoundFrom_27 : decode cX1_firstSoundFrom 27 = .ok (.ireturn, 1) := by decide +kernel
set_option maxRecDepth 20000 in
theorem bX1_firstSoundFrom_0 {G : Gx} {mm : Nat → Nat → Int32} {lm : Nat → Int64} {x1 : Int32} {o : Ou} {z : Wd} {a b : Nat} (hw : J G M_X1_firstSoundFrom 2 [(0, .ref 42), (2, .int x1)] [] (SH, mm, lm) false o z false a b) :
    J G M_X1_firstSoundFrom 0 [(0, .ref 42), (1, .int x1)] [] (SH, mm, lm) false o z false a b := by
  refine J_iload_n rfl (i := 1) rfl dX1_firstSoundFrom_0 ?_
  refine J_istore_n [(2, .int x1), (0, .ref 42), (1, .int x1)] rfl (i := 2) (by decide) rfl dX1_firstSoundFrom_1 ?_
  exact J_sub [1, 0] rfl hw
set_option maxRecDepth 20000 in
theorem bX1_firstSoundFrom_2 {G : Gx} {mm : Nat → Nat → Int32} {lm : Nat → Int64} {x2 : Int32} {o : Ou} {z : Wd} {a b : Nat} (hw : ((1440 ≤ x2) → o = .inl (some (.int (-2))) ∧ z = (SH, mm, lm)) ∧ ((¬ 1440 ≤ x2) → ∃ (v2 : Int32), Ct G M_X1_soundingSet [.ref 42, .int x2] (SH, mm, lm) false (.inl (some (.int v2))) (SH, mm, lm) false 0 0 ∧ ((v2 = 0) → J G M_X1_firstSoundFrom 2 [(0, .ref 42), (2, .int (x2 + 1))] [] (SH, mm, lm) false o z false a b) ∧ ((¬ v2 = 0) → o = .inl (some (.int x2)) ∧ z = (SH, mm, lm)))) :
    J G M_X1_firstSoundFrom 2 [(0, .ref 42), (2, .int x2)] [] (SH, mm, lm) false o z false a b := by
  refine J_iload_n rfl (i := 2) rfl dX1_firstSoundFrom_2 ?_
  refine J_sipush (v := 1440) (by decide) dX1_firstSoundFrom_3 ?_
  refine J_icmp_ge (tgt := 25) dX1_firstSoundFrom_6 (by decide) (fun hb5 => ?_) (fun hb5 => ?_)
  · replace hw := hw.1 hb5
    refine J_bipush (v := (-2)) (by decide) dX1_firstSoundFrom_25 ?_
    exact J_fini (ty := .int) rfl rfl dX1_firstSoundFrom_27 hw
  · replace hw := hw.2 hb5
    refine J_aload_n rfl (i := 0) rfl dX1_firstSoundFrom_9 ?_
    refine J_iload_n rfl (i := 2) rfl dX1_firstSoundFrom_10 ?_
    obtain ⟨v2, hc1, hw⟩ := hw
    refine J_callV (as := [.int x2]) (k := 42) (st := []) cal_X1_soundingSet cai_X1_soundingSet gw_1304 ⟨by decide, by decide⟩ cnt_X1_soundingSet sh_42 rfl rfl (Nat.le_of_ble_eq_true rfl) dX1_firstSoundFrom_11 (Nat.zero_add _).symm (Nat.zero_add _).symm hc1 ?_
    refine J_if_eq (tgt := 19) dX1_firstSoundFrom_14 (by decide) (fun hb4 => ?_) (fun hb4 => ?_)
    · replace hw := hw.1 hb4
      refine J_iinc [(2, .int (x2 + 1)), (0, .ref 42)] (i := 2) (v := (x2 + 1)) rfl rfl (by decide) rfl dX1_firstSoundFrom_19 ?_
      refine J_goto (tgt := 2) dX1_firstSoundFrom_22 (by decide) ?_
      exact J_sub [1, 0] rfl hw
    · replace hw := hw.2 hb4
      refine J_iload_n rfl (i := 2) rfl dX1_firstSoundFrom_17 ?_
      exact J_fini (ty := .int) rfl rfl dX1_firstSoundFrom_18 hw
theorem dX1_minuteOfMostSounds_0 : decode cX1_minuteOfMostSounds 0 = .ok (.bipush (-2), 2) := by decide +kernel
theorem dX1_minuteOfMostSounds_2 : decode cX1_minuteOfMostSounds 2 = .ok (.istore_n 1, 1) := by decide +kernel
theorem dX1_minuteOfMostSounds_3 : decode cX1_minuteOfMostSounds 3 = .ok (.iconst 0, 1) := by decide +kernel
theorem dX1_minuteOfMostSounds_4 : decode cX1_minuteOfMostSounds 4 = .ok (.istore_n 2, 1) := by decide +kernel
theorem dX1_minuteOfMostSounds_5 : decode cX1_minuteOfMostSounds 5 = .ok (.iconst 0, 1) := by decide +kernel
theorem dX1_minuteOfMostSounds_6 : decode cX1_minuteOfMostSounds 6 = .ok (.istore_n 3, 1) := by decide +kernel
theorem dX1_minuteOfMostSounds_7 : decode cX1_minuteOfMostSounds 7 = .ok (.iload_n 3, 1) := by decide +kernel
theorem dX1_minuteOfMostSounds_8 : decode cX1_minuteOfMostSounds 8 = .ok (.sipush 1440, 3) := by decide +kernel
theorem dX1_minuteOfMostSounds_11 : decode cX1_minuteOfMostSounds 11 = .ok (.if_icmp .ge 30, 3) := by decide +kernel
theorem dX1_minuteOfMostSounds_14 : decode cX1_minuteOfMostSounds 14 = .ok (.aload_n 0, 1) := by decide +kernel
theorem dX1_minuteOfMostSounds_15 : decode cX1_minuteOfMostSounds 15 = .ok (.iload_n 3, 1) := by decide +kernel
theorem dX1_minuteOfMostSounds_16 : decode cX1_minuteOfMostSounds 16 = .ok (.invokevirtual 64, 3) := by decide +kernel
theorem dX1_minuteOfMostSounds_19 : decode cX1_minuteOfMostSounds 19 = .ok (.invokestatic 68, 3) := by decide +kernel
theorem dX1_minuteOfMostSounds_22 : decode cX1_minuteOfMostSounds 22 = .ok (.istore 4, 2) := by decide +kernel
theorem dX1_minuteOfMostSounds_24 : decode cX1_minuteOfMostSounds 24 = .ok (.iload 4, 2) := by decide +kernel
theorem dX1_minuteOfMostSounds_26 : decode cX1_minuteOfMostSounds 26 = .ok (.iload_n 2, 1) := by decide +kernel
theorem dX1_minuteOfMostSounds_27 : decode cX1_minuteOfMostSounds 27 = .ok (.if_icmp .le 8, 3) := by decide +kernel
theorem dX1_minuteOfMostSounds_30 : decode cX1_minuteOfMostSounds 30 = .ok (.iload 4, 2) := by decide +kernel
theorem dX1_minuteOfMostSounds_32 : decode cX1_minuteOfMostSounds 32 = .ok (.istore_n 2, 1) := by decide +kernel
theorem dX1_minuteOfMostSounds_33 : decode cX1_minuteOfMostSounds 33 = .ok (.iload_n 3, 1) := by decide +kernel
theorem dX1_minuteOfMostSounds_34 : decode cX1_minuteOfMostSounds 34 = .ok (.istore_n 1, 1) := by decide +kernel
theorem dX1_minuteOfMostSounds_35 : decode cX1_minuteOfMostSounds 35 = .ok (.iinc 3 1, 3) := by decide +kernel
theorem dX1_minuteOfMostSounds_38 : decode cX1_minuteOfMostSounds 38 = .ok (.goto (-31), 3) := by decide +kernel
theorem dX1_minuteOfMostSounds_41 : decode cX1_minuteOfMostSounds 41 = .ok (.iload_n 1, 1) := by decide +kernel
theorem dX1_minuteOfMostSounds_42 : decode cX1_minuteOfMostSounds 42 = .ok (.ireturn, 1) := by decide +kernel
set_option maxRecDepth 20000 in
theorem bX1_minuteOfMostSounds_0 {G : Gx} {mm : Nat → Nat → Int32} {lm : Nat → Int64}  {o : Ou} {z : Wd} {a b : Nat} (hw : J G M_X1_minuteOfMostSounds 7 [(0, .ref 42), (1, .int (-2)), (2, .int 0), (3, .int 0)] [] (SH, mm, lm) false o z false a b) :
    J G M_X1_minuteOfMostSounds 0 [(0, .ref 42)] [] (SH, mm, lm) false o z false a b := by
  refine J_bipush (v := (-2)) (by decide) dX1_minuteOfMostSounds_0 ?_
  refine J_istore_n [(1, .int (-2)), (0, .ref 42)] rfl (i := 1) (by decide) rfl dX1_minuteOfMostSounds_2 ?_
  refine J_iconst (v := 0) (by decide) dX1_minuteOfMostSounds_3 ?_
  refine J_istore_n [(2, .int 0), (1, .int (-2)), (0, .ref 42)] rfl (i := 2) (by decide) rfl dX1_minuteOfMostSounds_4 ?_
  refine J_iconst (v := 0) (by decide) dX1_minuteOfMostSounds_5 ?_
  refine J_istore_n [(3, .int 0), (2, .int 0), (1, .int (-2)), (0, .ref 42)] rfl (i := 3) (by decide) rfl dX1_minuteOfMostSounds_6 ?_
  exact J_sub [3, 2, 1, 0] rfl hw
set_option maxRecDepth 20000 in
theorem bX1_minuteOfMostSounds_7 {G : Gx} {mm : Nat → Nat → Int32} {lm : Nat → Int64} {x1 : Int32} {x2 : Int32} {x3 : Int32} {o : Ou} {z : Wd} {a b : Nat} (hw : ((1440 ≤ x3) → o = .inl (some (.int x1)) ∧ z = (SH, mm, lm)) ∧ ((¬ 1440 ≤ x3) → ∃ (v2 : Int32), Ct G M_X1_soundingSet [.ref 42, .int x3] (SH, mm, lm) false (.inl (some (.int v2))) (SH, mm, lm) false 0 0 ∧ ∃ (v5 : Int32), Ct G M_J6_bitCount_0f7a4 [.int v2] (SH, mm, lm) false (.inl (some (.int v5))) (SH, mm, lm) false 0 0 ∧ ((v5 ≤ x2) → J G M_X1_minuteOfMostSounds 7 [(0, .ref 42), (1, .int x1), (2, .int x2), (3, .int (x3 + 1))] [] (SH, mm, lm) false o z false a b) ∧ ((¬ v5 ≤ x2) → J G M_X1_minuteOfMostSounds 7 [(0, .ref 42), (1, .int x3), (2, .int v5), (3, .int (x3 + 1))] [] (SH, mm, lm) false o z false a b))) :
    J G M_X1_minuteOfMostSounds 7 [(0, .ref 42), (1, .int x1), (2, .int x2), (3, .int x3)] [] (SH, mm, lm) false o z false a b := by
  refine J_iload_n rfl (i := 3) rfl dX1_minuteOfMostSounds_7 ?_
  refine J_sipush (v := 1440) (by decide) dX1_minuteOfMostSounds_8 ?_
  refine J_icmp_ge (tgt := 41) dX1_minuteOfMostSounds_11 (by decide) (fun hb8 => ?_) (fun hb8 => ?_)
  · replace hw := hw.1 hb8
    refine J_iload_n rfl (i := 1) rfl dX1_minuteOfMostSounds_41 ?_
    exact J_fini (ty := .int) rfl rfl dX1_minuteOfMostSounds_42 hw
  · replace hw := hw.2 hb8
    refine J_aload_n rfl (i := 0) rfl dX1_minuteOfMostSounds_14 ?_
    refine J_iload_n rfl (i := 3) rfl dX1_minuteOfMostSounds_15 ?_
    obtain ⟨v2, hc1, hw⟩ := hw
    refine J_callV (as := [.int x3]) (k := 42) (st := []) cal_X1_soundingSet cai_X1_soundingSet gw_1304 ⟨by decide, by decide⟩ cnt_X1_soundingSet sh_42 rfl rfl (Nat.le_of_ble_eq_true rfl) dX1_minuteOfMostSounds_16 (Nat.zero_add _).symm (Nat.zero_add _).symm hc1 ?_
    obtain ⟨v5, hc4, hw⟩ := hw
    refine J_callS (as := [.int v2]) (st := []) cal_J6_bitCount_0f7a4 cas_J6_bitCount_0f7a4 gw_1316 ⟨by decide, by decide⟩ cnt_J6_bitCount_0f7a4 rfl (Nat.le_of_ble_eq_true rfl) dX1_minuteOfMostSounds_19 (Nat.zero_add _).symm (Nat.zero_add _).symm hc4 ?_
    refine J_istore [(4, .int v5), (0, .ref 42), (1, .int x1), (2, .int x2), (3, .int x3)] (i := 4) (by decide) rfl dX1_minuteOfMostSounds_22 ?_
    refine J_iload (i := 4) rfl dX1_minuteOfMostSounds_24 ?_
    refine J_iload_n rfl (i := 2) rfl dX1_minuteOfMostSounds_26 ?_
    refine J_icmp_le (tgt := 35) dX1_minuteOfMostSounds_27 (by decide) (fun hb7 => ?_) (fun hb7 => ?_)
    · replace hw := hw.1 hb7
      refine J_iinc [(3, .int (x3 + 1)), (4, .int v5), (0, .ref 42), (1, .int x1), (2, .int x2)] (i := 3) (v := (x3 + 1)) rfl rfl (by decide) rfl dX1_minuteOfMostSounds_35 ?_
      refine J_goto (tgt := 7) dX1_minuteOfMostSounds_38 (by decide) ?_
      exact J_sub [2, 3, 4, 0] rfl hw
    · replace hw := hw.2 hb7
      refine J_iload (i := 4) rfl dX1_minuteOfMostSounds_30 ?_
      refine J_istore_n [(2, .int v5), (4, .int v5), (0, .ref 42), (1, .int x1), (3, .int x3)] rfl (i := 2) (by decide) rfl dX1_minuteOfMostSounds_32 ?_
      refine J_iload_n rfl (i := 3) rfl dX1_minuteOfMostSounds_33 ?_
      refine J_istore_n [(1, .int x3), (2, .int v5), (4, .int v5), (0, .ref 42), (3, .int x3)] rfl (i := 1) (by decide) rfl dX1_minuteOfMostSounds_34 ?_
      refine J_iinc [(3, .int (x3 + 1)), (1, .int x3), (2, .int v5), (4, .int v5), (0, .ref 42)] (i := 3) (v := (x3 + 1)) rfl rfl (by decide) rfl dX1_minuteOfMostSounds_35 ?_
      refine J_goto (tgt := 7) dX1_minuteOfMostSounds_38 (by decide) ?_
      exact J_sub [4, 1, 2, 0] rfl hw
theorem dX1_countCommonSounds_0 : decode cX1_countCommonSounds 0 = .ok (.iconst 0, 1) := by decide +kernel
theorem dX1_countCommonSounds_1 : decode cX1_countCommonSounds 1 = .ok (.istore_n 3, 1) := by decide +kernel
theorem dX1_countCommonSounds_2 : decode cX1_countCommonSounds 2 = .ok (.iconst 0, 1) := by decide +kernel
theorem dX1_countCommonSounds_3 : decode cX1_countCommonSounds 3 = .ok (.istore 4, 2) := by decide +kernel
theorem dX1_countCommonSounds_5 : decode cX1_countCommonSounds 5 = .ok (.iload 4, 2) := by decide +kernel
theorem dX1_countCommonSounds_7 : decode cX1_countCommonSounds 7 = .ok (.sipush 1440, 3) := by decide +kernel
theorem dX1_countCommonSounds_10 : decode cX1_countCommonSounds 10 = .ok (.if_icmp .ge 32, 3) := by decide +kernel
theorem dX1_countCommonSounds_13 : decode cX1_countCommonSounds 13 = .ok (.aload_n 0, 1) := by decide +kernel
theorem dX1_countCommonSounds_14 : decode cX1_countCommonSounds 14 = .ok (.iload_n 1, 1) := by decide +kernel
theorem dX1_countCommonSounds_15 : decode cX1_countCommonSounds 15 = .ok (.iload 4, 2) := by decide +kernel
theorem dX1_countCommonSounds_17 : decode cX1_countCommonSounds 17 = .ok (.invokevirtual 53, 3) := by decide +kernel
theorem dX1_countCommonSounds_20 : decode cX1_countCommonSounds 20 = .ok (.ifCond .eq 16, 3) := by decide +kernel
theorem dX1_countCommonSounds_23 : decode cX1_countCommonSounds 23 = .ok (.aload_n 0, 1) := by decide +kernel
theorem dX1_countCommonSounds_24 : decode cX1_countCommonSounds 24 = .ok (.iload_n 2, 1) := by decide +kernel
theorem dX1_countCommonSounds_25 : decode cX1_countCommonSounds 25 = .ok (.iload 4, 2) := by decide +kernel
theorem dX1_countCommonSounds_27 : decode cX1_countCommonSounds 27 = .ok (.invokevirtual 53, 3) := by decide +kernel
theorem dX1_countCommonSounds_30 : decode cX1_countCommonSounds 30 = .ok (.ifCond .eq 6, 3) := by decide +kernel
theorem dX1_countCommonSounds_33 : decode cX1_countCommonSounds 33 = .ok (.iinc 3 1, 3) := by decide +kernel
theorem dX1_countCommonSounds_36 : decode cX1_countCommonSounds 36 = .ok (.iinc 4 1, 3) := by decide +kernel
theorem dX1_countCommonSounds_39 : decode cX1_countCommonSounds 39 = .ok (.goto (-34), 3) := by decide +kernel
theorem dX1_countCommonSounds_42 : decode cX1_countCommonSounds 42 = .ok (.iload_n 3, 1) := by decide +kernel
theorem dX1_countCommonSounds_43 : decode cX1_countCommonSounds 43 = .ok (.ireturn, 1) := by decide +kernel
set_option maxRecDepth 20000 in
theorem bX1_countCommonSounds_0 {G : Gx} {mm : Nat → Nat → Int32} {lm : Nat → Int64} {x1 : Int32} {x2 : Int32} {o : Ou} {z : Wd} {a b : Nat} (hw : J G M_X1_countCommonSounds 5 [(0, .ref 42), (1, .int x1), (2, .int x2), (3, .int 0), (4, .int 0)] [] (SH, mm, lm) false o z false a b) :
    J G M_X1_countCommonSounds 0 [(0, .ref 42), (1, .int x1), (2, .int x2)] [] (SH, mm, lm) false o z false a b := by
  refine J_iconst (v := 0) (by decide) dX1_countCommonSounds_0 ?_
  refine J_istore_n [(3, .int 0), (0, .ref 42), (1, .int x1), (2, .int x2)] rfl (i := 3) (by decide) rfl dX1_countCommonSounds_1 ?_
  refine J_iconst (v := 0) (by decide) dX1_countCommonSounds_2 ?_
  refine J_istore [(4, .int 0), (3, .int 0), (0, .ref 42), (1, .int x1), (2, .int x2)] (i := 4) (by decide) rfl dX1_countCommonSounds_3 ?_
  exact J_sub [2, 3, 4, 1, 0] rfl hw
set_option maxRecDepth 20000 in
theorem bX1_countCommonSounds_5 {G : Gx} {mm : Nat → Nat → Int32} {lm : Nat → Int64} {x1 : Int32} {x2 : Int32} {x3 : Int32} {x4 : Int32} {o : Ou} {z : Wd} {a b : Nat} (hw : ((1440 ≤ x4) → o = .inl (some (.int x3)) ∧ z = (SH, mm, lm)) ∧ ((¬ 1440 ≤ x4) → ∃ (v2 : Int32), Ct G M_X1_isHeard [.ref 42, .int x1, .int x4] (SH, mm, lm) false (.inl (some (.int v2))) (SH, mm, lm) false 0 0 ∧ ((v2 = 0) → J G M_X1_countCommonSounds 5 [(0, .ref 42), (1, .int x1), (2, .int x2), (3, .int x3), (4, .int (x4 + 1))] [] (SH, mm, lm) false o z false a b) ∧ ((¬ v2 = 0) → ∃ (v5 : Int32), Ct G M_X1_isHeard [.ref 42, .int x2, .int x4] (SH, mm, lm) false (.inl (some (.int v5))) (SH, mm, lm) false 0 0 ∧ ((v5 = 0) → J G M_X1_countCommonSounds 5 [(0, .ref 42), (1, .int x1), (2, .int x2), (3, .int x3), (4, .int (x4 + 1))] [] (SH, mm, lm) false o z false a b) ∧ ((¬ v5 = 0) → J G M_X1_countCommonSounds 5 [(0, .ref 42), (1, .int x1), (2, .int x2), (3, .int (x3 + 1)), (4, .int (x4 + 1))] [] (SH, mm, lm) false o z false a b)))) :
    J G M_X1_countCommonSounds 5 [(0, .ref 42), (1, .int x1), (2, .int x2), (3, .int x3), (4, .int x4)] [] (SH, mm, lm) false o z false a b := by
  refine J_iload (i := 4) rfl dX1_countCommonSounds_5 ?_
  refine J_sipush (v := 1440) (by decide) dX1_countCommonSounds_7 ?_
  refine J_icmp_ge (tgt := 42) dX1_countCommonSounds_10 (by decide) (fun hb9 => ?_) (fun hb9 => ?_)
  · replace hw := hw.1 hb9
    refine J_iload_n rfl (i := 3) rfl dX1_countCommonSounds_42 ?_
    exact J_fini (ty := .int) rfl rfl dX1_countCommonSounds_43 hw
  · replace hw := hw.2 hb9
    refine J_aload_n rfl (i := 0) rfl dX1_countCommonSounds_13 ?_
    refine J_iload_n rfl (i := 1) rfl dX1_countCommonSounds_14 ?_
    refine J_iload (i := 4) rfl dX1_countCommonSounds_15 ?_
    obtain ⟨v2, hc1, hw⟩ := hw
    refine J_callV (as := [.int x1, .int x4]) (k := 42) (st := []) cal_X1_isHeard cai_X1_isHeard gw_1272 ⟨by decide, by decide⟩ cnt_X1_isHeard sh_42 rfl rfl (Nat.le_of_ble_eq_true rfl) dX1_countCommonSounds_17 (Nat.zero_add _).symm (Nat.zero_add _).symm hc1 ?_
    refine J_if_eq (tgt := 36) dX1_countCommonSounds_20 (by decide) (fun hb8 => ?_) (fun hb8 => ?_)
    · replace hw := hw.1 hb8
      refine J_iinc [(4, .int (x4 + 1)), (0, .ref 42), (1, .int x1), (2, .int x2), (3, .int x3)] (i := 4) (v := (x4 + 1)) rfl rfl (by decide) rfl dX1_countCommonSounds_36 ?_
      refine J_goto (tgt := 5) dX1_countCommonSounds_39 (by decide) ?_
      exact J_sub [1, 2, 3, 4, 0] rfl hw
    · replace hw := hw.2 hb8
      refine J_aload_n rfl (i := 0) rfl dX1_countCommonSounds_23 ?_
      refine J_iload_n rfl (i := 2) rfl dX1_countCommonSounds_24 ?_
      refine J_iload (i := 4) rfl dX1_countCommonSounds_25 ?_
      obtain ⟨v5, hc4, hw⟩ := hw
      refine J_callV (as := [.int x2, .int x4]) (k := 42) (st := []) cal_X1_isHeard cai_X1_isHeard gw_1272 ⟨by decide, by decide⟩ cnt_X1_isHeard sh_42 rfl rfl (Nat.le_of_ble_eq_true rfl) dX1_countCommonSounds_27 (Nat.zero_add _).symm (Nat.zero_add _).symm hc4 ?_
      refine J_if_eq (tgt := 36) dX1_countCommonSounds_30 (by decide) (fun hb7 => ?_) (fun hb7 => ?_)
      · replace hw := hw.1 hb7
        refine J_iinc [(4, .int (x4 + 1)), (0, .ref 42), (1, .int x1), (2, .int x2), (3, .int x3)] (i := 4) (v := (x4 + 1)) rfl rfl (by decide) rfl dX1_countCommonSounds_36 ?_
        refine J_goto (tgt := 5) dX1_countCommonSounds_39 (by decide) ?_
        exact J_sub [1, 2, 3, 4, 0] rfl hw
      · replace hw := hw.2 hb7
        refine J_iinc [(3, .int (x3 + 1)), (0, .ref 42), (1, .int x1), (2, .int x2), (4, .int x4)] (i := 3) (v := (x3 + 1)) rfl rfl (by decide) rfl dX1_countCommonSounds_33 ?_
        refine J_iinc [(4, .int (x4 + 1)), (3, .int (x3 + 1)), (0, .ref 42), (1, .int x1), (2, .int x2)] (i := 4) (v := (x4 + 1)) rfl rfl (by decide) rfl dX1_countCommonSounds_36 ?_
        refine J_goto (tgt := 5) dX1_countCommonSounds_39 (by decide) ?_
        exact J_sub [2, 3, 4, 1, 0] rfl hw
theorem dX1_delayToLoudMinutes_0 : decode cX1_delayToLoudMinutes 0 = .ok (.aload_n 0, 1) := by decide +kernel
theorem dX1_delayToLoudMinutes_1 : decode cX1_delayToLoudMinutes 1 = .ok (.getfield 19, 3) := by decide +kernel
theorem dX1_delayToLoudMinutes_4 : decode cX1_delayToLoudMinutes 4 = .ok (.iload_n 1, 1) := by decide +kernel
theorem dX1_delayToLoudMinutes_5 : decode cX1_delayToLoudMinutes 5 = .ok (.aaload, 1) := by decide +kernel
theorem dX1_delayToLoudMinutes_6 : decode cX1_delayToLoudMinutes 6 = .ok (.getfield 73, 3) := by decide +kernel
theorem dX1_delayToLoudMinutes_9 : decode cX1_delayToLoudMinutes 9 = .ok (.istore_n 2, 1) := by decide +kernel
theorem dX1_delayToLoudMinutes_10 : decode cX1_delayToLoudMinutes 10 = .ok (.aload_n 0, 1) := by decide +kernel
theorem dX1_delayToLoudMinutes_11 : decode cX1_delayToLoudMinutes 11 = .ok (.getfield 19, 3) := by decide +kernel
theorem dX1_delayToLoudMinutes_14 : decode cX1_delayToLoudMinutes 14 = .ok (.iload_n 1, 1) := by decide +kernel
theorem dX1_delayToLoudMinutes_15 : decode cX1_delayToLoudMinutes 15 = .ok (.aaload, 1) := by decide +kernel
theorem dX1_delayToLoudMinutes_16 : decode cX1_delayToLoudMinutes 16 = .ok (.getfield 76, 3) := by decide +kernel
theorem dX1_delayToLoudMinutes_19 : decode cX1_delayToLoudMinutes 19 = .ok (.istore_n 3, 1) := by decide +kernel
theorem dX1_delayToLoudMinutes_20 : decode cX1_delayToLoudMinutes 20 = .ok (.sipush 1440, 3) := by decide +kernel
theorem dX1_delayToLoudMinutes_23 : decode cX1_delayToLoudMinutes 23 = .ok (.istore 4, 2) := by decide +kernel
theorem dX1_delayToLoudMinutes_25 : decode cX1_delayToLoudMinutes 25 = .ok (.iload_n 2, 1) := by decide +kernel
theorem dX1_delayToLoudMinutes_26 : decode cX1_delayToLoudMinutes 26 = .ok (.istore 5, 2) := by decide +kernel
theorem dX1_delayToLoudMinutes_28 : decode cX1_delayToLoudMinutes 28 = .ok (.iload 5, 2) := by decide +kernel
theorem dX1_delayToLoudMinutes_30 : decode cX1_delayToLoudMinutes 30 = .ok (.iload_n 2, 1) := by decide +kernel
theorem dX1_delayToLoudMinutes_31 : decode cX1_delayToLoudMinutes 31 = .ok (.iload_n 3, 1) := by decide +kernel
theorem dX1_delayToLoudMinutes_32 : decode cX1_delayToLoudMinutes 32 = .ok (.iadd, 1) := by decide +kernel
theorem dX1_delayToLoudMinutes_33 : decode cX1_delayToLoudMinutes 33 = .ok (.if_icmp .ge 31, 3) := by decide +kernel
theorem dX1_delayToLoudMinutes_36 : decode cX1_delayToLoudMinutes 36 = .ok (.iload 5, 2) := by decide +kernel
theorem dX1_delayToLoudMinutes_38 : decode cX1_delayToLoudMinutes 38 = .ok (.sipush 1440, 3) := by decide +kernel
theorem dX1_delayToLoudMinutes_41 : decode cX1_delayToLoudMinutes 41 = .ok (.if_icmp .ge 23, 3) := by decide +kernel
theorem dX1_delayToLoudMinutes_44 : decode cX1_delayToLoudMinutes 44 = .ok (.iload 4, 2) := by decide +kernel
theorem dX1_delayToLoudMinutes_46 : decode cX1_delayToLoudMinutes 46 = .ok (.aload_n 0, 1) := by decide +kernel
theorem dX1_delayToLoudMinutes_47 : decode cX1_delayToLoudMinutes 47 = .ok (.iload 5, 2) := by decide +kernel
theorem dX1_delayToLoudMinutes_49 : decode cX1_delayToLoudMinutes 49 = .ok (.iload_n 3, 1) := by decide +kernel
theorem dX1_delayToLoudMinutes_50 : decode cX1_delayToLoudMinutes 50 = .ok (.invokevirtual 79, 3) := by decide +kernel
theorem dX1_delayToLoudMinutes_53 : decode cX1_delayToLoudMinutes 53 = .ok (.invokestatic 33, 3) := by decide +kernel
theorem dX1_delayToLoudMinutes_56 : decode cX1_delayToLoudMinutes 56 = .ok (.istore 4, 2) := by decide +kernel
theorem dX1_delayToLoudMinutes_58 : decode cX1_delayToLoudMinutes 58 = .ok (.iinc 5 1, 3) := by decide +kernel
theorem dX1_delayToLoudMinutes_61 : decode cX1_delayToLoudMinutes 61 = .ok (.goto (-33), 3) := by decide +kernel
theorem dX1_delayToLoudMinutes_64 : decode cX1_delayToLoudMinutes 64 = .ok (.iload 4, 2) := by decide +kernel
theorem dX1_delayToLoudMinutes_66 : decode cX1_delayToLoudMinutes 66 = .ok (.sipush 1440, 3) := by decide +kernel
theorem dX1_delayToLoudMinutes_69 : decode cX1_delayToLoudMinutes 69 = .ok (.if_icmp .ge 10, 3) := by decide +kernel
theorem dX1_delayToLoudMinutes_72 : decode cX1_delayToLoudMinutes 72 = .ok (.iload 4, 2) := by decide +kernel
theorem dX1_delayToLoudMinutes_74 : decode cX1_delayToLoudMinutes 74 = .ok (.iload_n 2, 1) := by decide +kernel
theorem dX1_delayToLoudMinutes_75 : decode cX1_delayToLoudMinutes 75 = .ok (.isub, 1) := by decide +kernel
theorem dX1_delayToLoudMinutes_76 : decode cX1_delayToLoudMinutes 76 = .ok (.goto 5, 3) := by decide +kernel
theorem dX1_delayToLoudMinutes_79 : decode cX1_delayToLoudMinutes 79 = .ok (.bipush (-3), 2) := by decide +kernel
theorem dX1_delayToLoudMinutes_81 : decode cX1_delayToLoudMinutes 81 = .ok (.ireturn, 1) := by decide +kernel
set_option maxRecDepth 20000 in
theorem bX1_delayToLoudMinutes_0 {G : Gx} {mm : Nat → Nat → Int32} {lm : Nat → Int64} {x1 : Int32} {o : Ou} {z : Wd} {a b : Nat} (hw : ∃ j1 : Nat, x1 = nI j1 ∧ j1 < 8 ∧ ∃ j2 : Nat, x1 = nI j2 ∧ j2 < 8 ∧ J G M_X1_delayToLoudMinutes 28 [(0, .ref 42), (2, .int (mm (23 + j1) 6)), (3, .int (mm (23 + j2) 7)), (4, .int 1440), (5, .int (mm (23 + j1) 6))] [] (SH, mm, lm) false o z false a b) :
    J G M_X1_delayToLoudMinutes 0 [(0, .ref 42), (1, .int x1)] [] (SH, mm, lm) false o z false a b := by
  refine J_aload_n rfl (i := 0) rfl dX1_delayToLoudMinutes_0 ?_
  refine J_getr kls_1 (q := 42) (k := 1) sh_42 (by decide) rfl gw_371 dX1_delayToLoudMinutes_1 ?_
  refine J_iload_n rfl (i := 1) rfl dX1_delayToLoudMinutes_4 ?_
  obtain ⟨j1, ej1, hj1, hw⟩ := hw
  refine J_aald (r := 23 + j1) sh_22 ej1 hj1 (by decide) (if_pos hj1) dX1_delayToLoudMinutes_5 ?_
  refine J_geti kls_0 (q := (23 + j1)) (k := 6) (sh_b23 hj1) (by decide) rfl gw_273 dX1_delayToLoudMinutes_6 ?_
  refine J_istore_n [(2, .int (mm (23 + j1) 6)), (0, .ref 42), (1, .int x1)] rfl (i := 2) (by decide) rfl dX1_delayToLoudMinutes_9 ?_
  refine J_aload_n rfl (i := 0) rfl dX1_delayToLoudMinutes_10 ?_
  refine J_getr kls_1 (q := 42) (k := 1) sh_42 (by decide) rfl gw_371 dX1_delayToLoudMinutes_11 ?_
  refine J_iload_n rfl (i := 1) rfl dX1_delayToLoudMinutes_14 ?_
  obtain ⟨j2, ej2, hj2, hw⟩ := hw
  refine J_aald (r := 23 + j2) sh_22 ej2 hj2 (by decide) (if_pos hj2) dX1_delayToLoudMinutes_15 ?_
  refine J_geti kls_0 (q := (23 + j2)) (k := 7) (sh_b23 hj2) (by decide) rfl gw_276 dX1_delayToLoudMinutes_16 ?_
  refine J_istore_n [(3, .int (mm (23 + j2) 7)), (2, .int (mm (23 + j1) 6)), (0, .ref 42), (1, .int x1)] rfl (i := 3) (by decide) rfl dX1_delayToLoudMinutes_19 ?_
  refine J_sipush (v := 1440) (by decide) dX1_delayToLoudMinutes_20 ?_
  refine J_istore [(4, .int 1440), (3, .int (mm (23 + j2) 7)), (2, .int (mm (23 + j1) 6)), (0, .ref 42), (1, .int x1)] (i := 4) (by decide) rfl dX1_delayToLoudMinutes_23 ?_
  refine J_iload_n rfl (i := 2) rfl dX1_delayToLoudMinutes_25 ?_
  refine J_istore [(5, .int (mm (23 + j1) 6)), (4, .int 1440), (3, .int (mm (23 + j2) 7)), (2, .int (mm (23 + j1) 6)), (0, .ref 42), (1, .int x1)] (i := 5) (by decide) rfl dX1_delayToLoudMinutes_26 ?_
  exact J_sub [4, 3, 2, 1, 0] rfl hw
set_option maxRecDepth 20000 in
theorem bX1_delayToLoudMinutes_28 {G : Gx} {mm : Nat → Nat → Int32} {lm : Nat → Int64} {x2 : Int32} {x3 : Int32} {x4 : Int32} {x5 : Int32} {o : Ou} {z : Wd} {a b : Nat} (hw : (((x2 + x3) ≤ x5) → ((1440 ≤ x4) → o = .inl (some (.int (-3))) ∧ z = (SH, mm, lm)) ∧ ((¬ 1440 ≤ x4) → o = .inl (some (.int (x4 - x2))) ∧ z = (SH, mm, lm))) ∧ ((¬ (x2 + x3) ≤ x5) → ((1440 ≤ x5) → ((1440 ≤ x4) → o = .inl (some (.int (-3))) ∧ z = (SH, mm, lm)) ∧ ((¬ 1440 ≤ x4) → o = .inl (some (.int (x4 - x2))) ∧ z = (SH, mm, lm))) ∧ ((¬ 1440 ≤ x5) → ∃ (v4 : Int32), Ct G M_X1_firstLoudChime [.ref 42, .int x5, .int x3] (SH, mm, lm) false (.inl (some (.int v4))) (SH, mm, lm) false 0 0 ∧ ∃ (v7 : Int32), Ct G M_J9_min_7cf53 [.int x4, .int v4] (SH, mm, lm) false (.inl (some (.int v7))) (SH, mm, lm) false 0 0 ∧ J G M_X1_delayToLoudMinutes 28 [(0, .ref 42), (2, .int x2), (3, .int x3), (4, .int v7), (5, .int (x5 + 1))] [] (SH, mm, lm) false o z false a b))) :
    J G M_X1_delayToLoudMinutes 28 [(0, .ref 42), (2, .int x2), (3, .int x3), (4, .int x4), (5, .int x5)] [] (SH, mm, lm) false o z false a b := by
  refine J_iload (i := 5) rfl dX1_delayToLoudMinutes_28 ?_
  refine J_iload_n rfl (i := 2) rfl dX1_delayToLoudMinutes_30 ?_
  refine J_iload_n rfl (i := 3) rfl dX1_delayToLoudMinutes_31 ?_
  refine J_iadd dX1_delayToLoudMinutes_32 ?_
  refine J_icmp_ge (tgt := 64) dX1_delayToLoudMinutes_33 (by decide) (fun hb10 => ?_) (fun hb10 => ?_)
  · replace hw := hw.1 hb10
    refine J_iload (i := 4) rfl dX1_delayToLoudMinutes_64 ?_
    refine J_sipush (v := 1440) (by decide) dX1_delayToLoudMinutes_66 ?_
    refine J_icmp_ge (tgt := 79) dX1_delayToLoudMinutes_69 (by decide) (fun hb1 => ?_) (fun hb1 => ?_)
    · replace hw := hw.1 hb1
      refine J_bipush (v := (-3)) (by decide) dX1_delayToLoudMinutes_79 ?_
      exact J_fini (ty := .int) rfl rfl dX1_delayToLoudMinutes_81 hw
    · replace hw := hw.2 hb1
      refine J_iload (i := 4) rfl dX1_delayToLoudMinutes_72 ?_
      refine J_iload_n rfl (i := 2) rfl dX1_delayToLoudMinutes_74 ?_
      refine J_isub dX1_delayToLoudMinutes_75 ?_
      refine J_goto (tgt := 81) dX1_delayToLoudMinutes_76 (by decide) ?_
      exact J_fini (ty := .int) rfl rfl dX1_delayToLoudMinutes_81 hw
  · replace hw := hw.2 hb10
    refine J_iload (i := 5) rfl dX1_delayToLoudMinutes_36 ?_
    refine J_sipush (v := 1440) (by decide) dX1_delayToLoudMinutes_38 ?_
    refine J_icmp_ge (tgt := 64) dX1_delayToLoudMinutes_41 (by decide) (fun hb9 => ?_) (fun hb9 => ?_)
    · replace hw := hw.1 hb9
      refine J_iload (i := 4) rfl dX1_delayToLoudMinutes_64 ?_
      refine J_sipush (v := 1440) (by decide) dX1_delayToLoudMinutes_66 ?_
      refine J_icmp_ge (tgt := 79) dX1_delayToLoudMinutes_69 (by decide) (fun hb2 => ?_) (fun hb2 => ?_)
      · replace hw := hw.1 hb2
        refine J_bipush (v := (-3)) (by decide) dX1_delayToLoudMinutes_79 ?_
        exact J_fini (ty := .int) rfl rfl dX1_delayToLoudMinutes_81 hw
      · replace hw := hw.2 hb2
        refine J_iload (i := 4) rfl dX1_delayToLoudMinutes_72 ?_
        refine J_iload_n rfl (i := 2) rfl dX1_delayToLoudMinutes_74 ?_
        refine J_isub dX1_delayToLoudMinutes_75 ?_
        refine J_goto (tgt := 81) dX1_delayToLoudMinutes_76 (by decide) ?_
        exact J_fini (ty := .int) rfl rfl dX1_delayToLoudMinutes_81 hw
    · replace hw := hw.2 hb9
      refine J_iload (i := 4) rfl dX1_delayToLoudMinutes_44 ?_
      refine J_aload_n rfl (i := 0) rfl dX1_delayToLoudMinutes_46 ?_
      refine J_iload (i := 5) rfl dX1_delayToLoudMinutes_47 ?_
      refine J_iload_n rfl (i := 3) rfl dX1_delayToLoudMinutes_49 ?_
      obtain ⟨v4, hc3, hw⟩ := hw
      refine J_callV (as := [.int x5, .int x3]) (k := 42) (st := [.int x4]) cal_X1_firstLoudChime cai_X1_firstLoudChime gw_1335 ⟨by decide, by decide⟩ cnt_X1_firstLoudChime sh_42 rfl rfl (Nat.le_of_ble_eq_true rfl) dX1_delayToLoudMinutes_50 (Nat.zero_add _).symm (Nat.zero_add _).symm hc3 ?_
      obtain ⟨v7, hc6, hw⟩ := hw
      refine J_callS (as := [.int x4, .int v4]) (st := []) cal_J9_min_7cf53 cas_J9_min_7cf53 gw_606 ⟨by decide, by decide⟩ cnt_J9_min_7cf53 rfl (Nat.le_of_ble_eq_true rfl) dX1_delayToLoudMinutes_53 (Nat.zero_add _).symm (Nat.zero_add _).symm hc6 ?_
      refine J_istore [(4, .int v7), (0, .ref 42), (2, .int x2), (3, .int x3), (5, .int x5)] (i := 4) (by decide) rfl dX1_delayToLoudMinutes_56 ?_
      refine J_iinc [(5, .int (x5 + 1)), (4, .int v7), (0, .ref 42), (2, .int x2), (3, .int x3)] (i := 5) (v := (x5 + 1)) rfl rfl (by decide) rfl dX1_delayToLoudMinutes_58 ?_
      refine J_goto (tgt := 28) dX1_delayToLoudMinutes_61 (by decide) ?_
      exact J_sub [2, 3, 4, 1, 0] rfl hw
theorem dX1_firstLoudChime_0 : decode cX1_firstLoudChime 0 = .ok (.iload_n 1, 1) := by decide +kernel
theorem dX1_firstLoudChime_1 : decode cX1_firstLoudChime 1 = .ok (.istore_n 3, 1) := by decide +kernel
theorem dX1_firstLoudChime_2 : decode cX1_firstLoudChime 2 = .ok (.iload_n 1, 1) := by decide +kernel
theorem dX1_firstLoudChime_3 : decode cX1_firstLoudChime 3 = .ok (.istore 4, 2) := by decide +kernel
theorem dX1_firstLoudChime_5 : decode cX1_firstLoudChime 5 = .ok (.iload 4, 2) := by decide +kernel
theorem dX1_firstLoudChime_7 : decode cX1_firstLoudChime 7 = .ok (.sipush 1440, 3) := by decide +kernel
theorem dX1_firstLoudChime_10 : decode cX1_firstLoudChime 10 = .ok (.if_icmp .ge 31, 3) := by decide +kernel
theorem dX1_firstLoudChime_13 : decode cX1_firstLoudChime 13 = .ok (.iload_n 2, 1) := by decide +kernel
theorem dX1_firstLoudChime_14 : decode cX1_firstLoudChime 14 = .ok (.ifCond .le 27, 3) := by decide +kernel
theorem dX1_firstLoudChime_17 : decode cX1_firstLoudChime 17 = .ok (.aload_n 0, 1) := by decide +kernel
theorem dX1_firstLoudChime_18 : decode cX1_firstLoudChime 18 = .ok (.getfield 9, 3) := by decide +kernel
theorem dX1_firstLoudChime_21 : decode cX1_firstLoudChime 21 = .ok (.iload 4, 2) := by decide +kernel
theorem dX1_firstLoudChime_23 : decode cX1_firstLoudChime 23 = .ok (.baload, 1) := by decide +kernel
theorem dX1_firstLoudChime_24 : decode cX1_firstLoudChime 24 = .ok (.ifCond .eq 8, 3) := by decide +kernel
theorem dX1_firstLoudChime_27 : decode cX1_firstLoudChime 27 = .ok (.iload 4, 2) := by decide +kernel
theorem dX1_firstLoudChime_29 : decode cX1_firstLoudChime 29 = .ok (.iload_n 2, 1) := by decide +kernel
theorem dX1_firstLoudChime_30 : decode cX1_firstLoudChime 30 = .ok (.iadd, 1) := by decide +kernel
theorem dX1_firstLoudChime_31 : decode cX1_firstLoudChime 31 = .ok (.istore_n 3, 1) := by decide +kernel
theorem dX1_firstLoudChime_32 : decode cX1_firstLoudChime 32 = .ok (.iload 4, 2) := by decide +kernel
theorem dX1_firstLoudChime_34 : decode cX1_firstLoudChime 34 = .ok (.iload_n 2, 1) := by decide +kernel
theorem dX1_firstLoudChime_35 : decode cX1_firstLoudChime 35 = .ok (.iadd, 1) := by decide +kernel
theorem dX1_firstLoudChime_36 : decode cX1_firstLoudChime 36 = .ok (.istore 4, 2) := by decide +kernel
theorem dX1_firstLoudChime_38 : decode cX1_firstLoudChime 38 = .ok (.goto (-33), 3) := by decide +kernel
theorem dX1_firstLoudChime_41 : decode cX1_firstLoudChime 41 = .ok (.iload_n 3, 1) := by decide +kernel
theorem dX1_firstLoudChime_42 : decode cX1_firstLoudChime 42 = .ok (.ireturn, 1) := by decide +kernel
set_option maxRecDepth 20000 in
theorem bX1_firstLoudChime_0 {G : Gx} {mm : Nat → Nat → Int32} {lm : Nat → Int64} {x1 : Int32} {x2 : Int32} {o : Ou} {z : Wd} {a b : Nat} (hw : J G M_X1_firstLoudChime 5 [(0, .ref 42), (2, .int x2), (3, .int x1), (4, .int x1)] [] (SH, mm, lm) false o z false a b) :
    J G M_X1_firstLoudChime 0 [(0, .ref 42), (1, .int x1), (2, .int x2)] [] (SH, mm, lm) false o z false a b := by
  refine J_iload_n rfl (i := 1) rfl dX1_firstLoudChime_0 ?_
  refine J_istore_n [(3, .int x1), (0, .ref 42), (1, .int x1), (2, .int x2)] rfl (i := 3) (by decide) rfl dX1_firstLoudChime_1 ?_
  refine J_iload_n rfl (i := 1) rfl dX1_firstLoudChime_2 ?_
  refine J_istore [(4, .int x1), (3, .int x1), (0, .ref 42), (1, .int x1), (2, .int x2)] (i := 4) (by decide) rfl dX1_firstLoudChime_3 ?_
  exact J_sub [2, 4, 1, 0] rfl hw
set_option maxRecDepth 20000 in
theorem bX1_firstLoudChime_5 {G : Gx} {mm : Nat → Nat → Int32} {lm : Nat → Int64} {x2 : Int32} {x3 : Int32} {x4 : Int32} {o : Ou} {z : Wd} {a b : Nat} (hw : ((1440 ≤ x4) → o = .inl (some (.int x3)) ∧ z = (SH, mm, lm)) ∧ ((¬ 1440 ≤ x4) → ((x2 ≤ 0) → o = .inl (some (.int x3)) ∧ z = (SH, mm, lm)) ∧ ((¬ x2 ≤ 0) → ∃ j1 : Nat, x4 = nI j1 ∧ j1 < 1440 ∧ (((mm 43 j1) = 0) → J G M_X1_firstLoudChime 5 [(0, .ref 42), (2, .int x2), (3, .int x3), (4, .int (x4 + x2))] [] (SH, mm, lm) false o z false a b) ∧ ((¬ (mm 43 j1) = 0) → J G M_X1_firstLoudChime 5 [(0, .ref 42), (2, .int x2), (3, .int (x4 + x2)), (4, .int (x4 + x2))] [] (SH, mm, lm) false o z false a b)))) :
    J G M_X1_firstLoudChime 5 [(0, .ref 42), (2, .int x2), (3, .int x3), (4, .int x4)] [] (SH, mm, lm) false o z false a b := by
  refine J_iload (i := 4) rfl dX1_firstLoudChime_5 ?_
  refine J_sipush (v := 1440) (by decide) dX1_firstLoudChime_7 ?_
  refine J_icmp_ge (tgt := 41) dX1_firstLoudChime_10 (by decide) (fun hb4 => ?_) (fun hb4 => ?_)
  · replace hw := hw.1 hb4
    refine J_iload_n rfl (i := 3) rfl dX1_firstLoudChime_41 ?_
    exact J_fini (ty := .int) rfl rfl dX1_firstLoudChime_42 hw
  · replace hw := hw.2 hb4
    refine J_iload_n rfl (i := 2) rfl dX1_firstLoudChime_13 ?_
    refine J_if_le (tgt := 41) dX1_firstLoudChime_14 (by decide) (fun hb3 => ?_) (fun hb3 => ?_)
    · replace hw := hw.1 hb3
      refine J_iload_n rfl (i := 3) rfl dX1_firstLoudChime_41 ?_
      exact J_fini (ty := .int) rfl rfl dX1_firstLoudChime_42 hw
    · replace hw := hw.2 hb3
      refine J_aload_n rfl (i := 0) rfl dX1_firstLoudChime_17 ?_
      refine J_getr kls_1 (q := 42) (k := 2) sh_42 (by decide) rfl gw_372 dX1_firstLoudChime_18 ?_
      refine J_iload (i := 4) rfl dX1_firstLoudChime_21 ?_
      obtain ⟨j1, ej1, hj1, hw⟩ := hw
      refine J_zald sh_43 ej1 hj1 (by decide) dX1_firstLoudChime_23 ?_
      refine J_if_eq (tgt := 32) dX1_firstLoudChime_24 (by decide) (fun hb2 => ?_) (fun hb2 => ?_)
      · replace hw := hw.1 hb2
        refine J_iload (i := 4) rfl dX1_firstLoudChime_32 ?_
        refine J_iload_n rfl (i := 2) rfl dX1_firstLoudChime_34 ?_
        refine J_iadd dX1_firstLoudChime_35 ?_
        refine J_istore [(4, .int (x4 + x2)), (0, .ref 42), (2, .int x2), (3, .int x3)] (i := 4) (by decide) rfl dX1_firstLoudChime_36 ?_
        refine J_goto (tgt := 5) dX1_firstLoudChime_38 (by decide) ?_
        exact J_sub [1, 2, 3, 0] rfl hw
      · replace hw := hw.2 hb2
        refine J_iload (i := 4) rfl dX1_firstLoudChime_27 ?_
        refine J_iload_n rfl (i := 2) rfl dX1_firstLoudChime_29 ?_
        refine J_iadd dX1_firstLoudChime_30 ?_
        refine J_istore_n [(3, .int (x4 + x2)), (0, .ref 42), (2, .int x2), (4, .int x4)] rfl (i := 3) (by decide) rfl dX1_firstLoudChime_31 ?_
        refine J_iload (i := 4) rfl dX1_firstLoudChime_32 ?_
        refine J_iload_n rfl (i := 2) rfl dX1_firstLoudChime_34 ?_
        refine J_iadd dX1_firstLoudChime_35 ?_
        refine J_istore [(4, .int (x4 + x2)), (3, .int (x4 + x2)), (0, .ref 42), (2, .int x2)] (i := 4) (by decide) rfl dX1_firstLoudChime_36 ?_
        refine J_goto (tgt := 5) dX1_firstLoudChime_38 (by decide) ?_
        exact J_sub [2, 3, 1, 0] rfl hw
