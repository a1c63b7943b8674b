/-! ===== decode rows and walks between cut points, by program (wip/gen/mk10.py) ===== -/
theorem dX10_isBell_0 : decode cX10_isBell 0 = .ok (.iload_n 1, 1) := by decide +kernel
theorem dX10_isBell_1 : decode cX10_isBell 1 = .ok (.i2l, 1) := by decide +kernel
theorem dX10_isBell_2 : decode cX10_isBell 2 = .ok (.lconst 0, 1) := by decide +kernel
theorem dX10_isBell_3 : decode cX10_isBell 3 = .ok (.aload_n 0, 1) := by decide +kernel
theorem dX10_isBell_4 : decode cX10_isBell 4 = .ok (.getfield 206, 3) := by decide +kernel
theorem dX10_isBell_7 : decode cX10_isBell 7 = .ok (.iconst 1, 1) := by decide +kernel
theorem dX10_isBell_8 : decode cX10_isBell 8 = .ok (.isub, 1) := by decide +kernel
theorem dX10_isBell_9 : decode cX10_isBell 9 = .ok (.i2l, 1) := by decide +kernel
theorem dX10_isBell_10 : decode cX10_isBell 10 = .ok (.invokestatic 91, 3) := by decide +kernel
theorem dX10_isBell_13 : decode cX10_isBell 13 = .ok (.ireturn, 1) := by decide +kernel
set_option maxRecDepth 20000 in
theorem bX10_isBell_0 {G : Gx} {mm : Nat → Nat → Int32} {lm : Nat → Int64} {x1 : Int32} {o : Ou} {z : Wd} {a b : Nat} (hw : ∃ (v2 : Int32), Ct G M_X10_isIn [.long (Int32.toInt64 x1), .long 0, .long (Int32.toInt64 ((mm 63 8) - 1))] (SH, mm, lm) false (.inl (some (.int v2))) (SH, mm, lm) false 0 0 ∧ narrow .boolean (.int v2) = .int v2 ∧ o = .inl (some (.int v2)) ∧ z = (SH, mm, lm)) :
    J G M_X10_isBell 0 [(0, .ref 63), (1, .int x1)] [] (SH, mm, lm) false o z false a b := by
  refine J_iload_n rfl (i := 1) rfl dX10_isBell_0 ?_
  refine J_i2l dX10_isBell_1 ?_
  refine J_lconst (v := 0) (by decide) dX10_isBell_2 ?_
  refine J_aload_n rfl (i := 0) rfl dX10_isBell_3 ?_
  refine J_geti kls_10 (q := 63) (k := 8) sh_63 (by decide) rfl gw_1441 dX10_isBell_4 ?_
  refine J_iconst (v := 1) (by decide) dX10_isBell_7 ?_
  refine J_isub dX10_isBell_8 ?_
  refine J_i2l dX10_isBell_9 ?_
  obtain ⟨v2, hc1, hw⟩ := hw
  refine J_callS (as := [.long (Int32.toInt64 x1), .long 0, .long (Int32.toInt64 ((mm 63 8) - 1))]) (st := []) cal_X10_isIn cas_X10_isIn gw_1573 ⟨by decide, by decide⟩ cnt_X10_isIn rfl (Nat.le_of_ble_eq_true rfl) dX10_isBell_10 (Nat.zero_add _).symm (Nat.zero_add _).symm hc1 ?_
  exact J_fini (ty := .boolean) rfl hw.1 dX10_isBell_13 hw.2
theorem dX10_isBeam_0 : decode cX10_isBeam 0 = .ok (.iload_n 1, 1) := by decide +kernel
theorem dX10_isBeam_1 : decode cX10_isBeam 1 = .ok (.i2l, 1) := by decide +kernel
theorem dX10_isBeam_2 : decode cX10_isBeam 2 = .ok (.lconst 0, 1) := by decide +kernel
theorem dX10_isBeam_3 : decode cX10_isBeam 3 = .ok (.aload_n 0, 1) := by decide +kernel
theorem dX10_isBeam_4 : decode cX10_isBeam 4 = .ok (.getfield 209, 3) := by decide +kernel
theorem dX10_isBeam_7 : decode cX10_isBeam 7 = .ok (.iconst 1, 1) := by decide +kernel
theorem dX10_isBeam_8 : decode cX10_isBeam 8 = .ok (.isub, 1) := by decide +kernel
theorem dX10_isBeam_9 : decode cX10_isBeam 9 = .ok (.i2l, 1) := by decide +kernel
theorem dX10_isBeam_10 : decode cX10_isBeam 10 = .ok (.invokestatic 91, 3) := by decide +kernel
theorem dX10_isBeam_13 : decode cX10_isBeam 13 = .ok (.ireturn, 1) := by decide +kernel
set_option maxRecDepth 20000 in
theorem bX10_isBeam_0 {G : Gx} {mm : Nat → Nat → Int32} {lm : Nat → Int64} {x1 : Int32} {o : Ou} {z : Wd} {a b : Nat} (hw : ∃ (v2 : Int32), Ct G M_X10_isIn [.long (Int32.toInt64 x1), .long 0, .long (Int32.toInt64 ((mm 63 5) - 1))] (SH, mm, lm) false (.inl (some (.int v2))) (SH, mm, lm) false 0 0 ∧ narrow .boolean (.int v2) = .int v2 ∧ o = .inl (some (.int v2)) ∧ z = (SH, mm, lm)) :
    J G M_X10_isBeam 0 [(0, .ref 63), (1, .int x1)] [] (SH, mm, lm) false o z false a b := by
  refine J_iload_n rfl (i := 1) rfl dX10_isBeam_0 ?_
  refine J_i2l dX10_isBeam_1 ?_
  refine J_lconst (v := 0) (by decide) dX10_isBeam_2 ?_
  refine J_aload_n rfl (i := 0) rfl dX10_isBeam_3 ?_
  refine J_geti kls_10 (q := 63) (k := 5) sh_63 (by decide) rfl gw_1438 dX10_isBeam_4 ?_
  refine J_iconst (v := 1) (by decide) dX10_isBeam_7 ?_
  refine J_isub dX10_isBeam_8 ?_
  refine J_i2l dX10_isBeam_9 ?_
  obtain ⟨v2, hc1, hw⟩ := hw
  refine J_callS (as := [.long (Int32.toInt64 x1), .long 0, .long (Int32.toInt64 ((mm 63 5) - 1))]) (st := []) cal_X10_isIn cas_X10_isIn gw_1573 ⟨by decide, by decide⟩ cnt_X10_isIn rfl (Nat.le_of_ble_eq_true rfl) dX10_isBeam_10 (Nat.zero_add _).symm (Nat.zero_add _).symm hc1 ?_
  exact J_fini (ty := .boolean) rfl hw.1 dX10_isBeam_13 hw.2
theorem dX10_isPosition_0 : decode cX10_isPosition 0 = .ok (.iload_n 0, 1) := by decide +kernel
theorem dX10_isPosition_1 : decode cX10_isPosition 1 = .ok (.i2l, 1) := by decide +kernel
theorem dX10_isPosition_2 : decode cX10_isPosition 2 = .ok (.ldc2_w 225, 3) := by decide +kernel
theorem dX10_isPosition_5 : decode cX10_isPosition 5 = .ok (.ldc2_w 227, 3) := by decide +kernel
theorem dX10_isPosition_8 : decode cX10_isPosition 8 = .ok (.invokestatic 91, 3) := by decide +kernel
theorem dX10_isPosition_11 : decode cX10_isPosition 11 = .ok (.ireturn, 1) := by decide +kernel
set_option maxRecDepth 20000 in
theorem bX10_isPosition_0 {G : Gx} {mm : Nat → Nat → Int32} {lm : Nat → Int64} {x0 : Int32} {o : Ou} {z : Wd} {a b : Nat} (hw : ∃ (v2 : Int32), Ct G M_X10_isIn [.long (Int32.toInt64 x0), .long (-15), .long 15] (SH, mm, lm) false (.inl (some (.int v2))) (SH, mm, lm) false 0 0 ∧ narrow .boolean (.int v2) = .int v2 ∧ o = .inl (some (.int v2)) ∧ z = (SH, mm, lm)) :
    J G M_X10_isPosition 0 [(0, .int x0)] [] (SH, mm, lm) false o z false a b := by
  refine J_iload_n rfl (i := 0) rfl dX10_isPosition_0 ?_
  refine J_i2l dX10_isPosition_1 ?_
  refine J_ldc2 gw_1682 dX10_isPosition_2 ?_
  refine J_ldc2 gw_1683 dX10_isPosition_5 ?_
  obtain ⟨v2, hc1, hw⟩ := hw
  refine J_callS (as := [.long (Int32.toInt64 x0), .long (-15), .long 15]) (st := []) cal_X10_isIn cas_X10_isIn gw_1573 ⟨by decide, by decide⟩ cnt_X10_isIn rfl (Nat.le_of_ble_eq_true rfl) dX10_isPosition_8 (Nat.zero_add _).symm (Nat.zero_add _).symm hc1 ?_
  exact J_fini (ty := .boolean) rfl hw.1 dX10_isPosition_11 hw.2
theorem dX10_hangs_0 : decode cX10_hangs 0 = .ok (.aload_n 0, 1) := by decide +kernel
theorem dX10_hangs_1 : decode cX10_hangs 1 = .ok (.iload_n 1, 1) := by decide +kernel
theorem dX10_hangs_2 : decode cX10_hangs 2 = .ok (.iconst 0, 1) := by decide +kernel
theorem dX10_hangs_3 : decode cX10_hangs 3 = .ok (.invokevirtual 229, 3) := by decide +kernel
theorem dX10_hangs_6 : decode cX10_hangs 6 = .ok (.ifCond .lt 7, 3) := by decide +kernel
theorem dX10_hangs_9 : decode cX10_hangs 9 = .ok (.iconst 1, 1) := by decide +kernel
theorem dX10_hangs_10 : decode cX10_hangs 10 = .ok (.goto 4, 3) := by decide +kernel
theorem dX10_hangs_13 : decode cX10_hangs 13 = .ok (.iconst 0, 1) := by decide +kernel
theorem dX10_hangs_14 : decode cX10_hangs 14 = .ok (.ireturn, 1) := by decide +kernel
set_option maxRecDepth 20000 in
theorem bX10_hangs_0 {G : Gx} {mm : Nat → Nat → Int32} {lm : Nat → Int64} {x1 : Int32} {o : Ou} {z : Wd} {a b : Nat} (hw : ∃ (v2 : Int32), Ct G M_X10_of [.ref 63, .int x1, .int 0] (SH, mm, lm) false (.inl (some (.int v2))) (SH, mm, lm) false 0 0 ∧ ((v2 < 0) → o = .inl (some (.int 0)) ∧ z = (SH, mm, lm)) ∧ ((¬ v2 < 0) → o = .inl (some (.int 1)) ∧ z = (SH, mm, lm))) :
    J G M_X10_hangs 0 [(0, .ref 63), (1, .int x1)] [] (SH, mm, lm) false o z false a b := by
  refine J_aload_n rfl (i := 0) rfl dX10_hangs_0 ?_
  refine J_iload_n rfl (i := 1) rfl dX10_hangs_1 ?_
  refine J_iconst (v := 0) (by decide) dX10_hangs_2 ?_
  obtain ⟨v2, hc1, hw⟩ := hw
  refine J_callV (as := [.int x1, .int 0]) (k := 63) (st := []) cal_X10_of cai_X10_of gw_1688 ⟨by decide, by decide⟩ cnt_X10_of sh_63 rfl rfl (Nat.le_of_ble_eq_true rfl) dX10_hangs_3 (Nat.zero_add _).symm (Nat.zero_add _).symm hc1 ?_
  refine J_if_lt (tgt := 13) dX10_hangs_6 (by decide) (fun hb4 => ?_) (fun hb4 => ?_)
  · replace hw := hw.1 hb4
    refine J_iconst (v := 0) (by decide) dX10_hangs_13 ?_
    exact J_fini (ty := .boolean) rfl rfl dX10_hangs_14 hw
  · replace hw := hw.2 hb4
    refine J_iconst (v := 1) (by decide) dX10_hangs_9 ?_
    refine J_goto (tgt := 14) dX10_hangs_10 (by decide) ?_
    exact J_fini (ty := .boolean) rfl rfl dX10_hangs_14 hw
theorem dX10_swings_0 : decode cX10_swings 0 = .ok (.aload_n 0, 1) := by decide +kernel
theorem dX10_swings_1 : decode cX10_swings 1 = .ok (.iload_n 1, 1) := by decide +kernel
theorem dX10_swings_2 : decode cX10_swings 2 = .ok (.iconst 5, 1) := by decide +kernel
theorem dX10_swings_3 : decode cX10_swings 3 = .ok (.invokevirtual 229, 3) := by decide +kernel
theorem dX10_swings_6 : decode cX10_swings 6 = .ok (.ifCond .lt 7, 3) := by decide +kernel
theorem dX10_swings_9 : decode cX10_swings 9 = .ok (.iconst 1, 1) := by decide +kernel
theorem dX10_swings_10 : decode cX10_swings 10 = .ok (.goto 4, 3) := by decide +kernel
theorem dX10_swings_13 : decode cX10_swings 13 = .ok (.iconst 0, 1) := by decide +kernel
theorem dX10_swings_14 : decode cX10_swings 14 = .ok (.ireturn, 1) := by decide +kernel
set_option maxRecDepth 20000 in
theorem bX10_swings_0 {G : Gx} {mm : Nat → Nat → Int32} {lm : Nat → Int64} {x1 : Int32} {o : Ou} {z : Wd} {a b : Nat} (hw : ∃ (v2 : Int32), Ct G M_X10_of [.ref 63, .int x1, .int 5] (SH, mm, lm) false (.inl (some (.int v2))) (SH, mm, lm) false 0 0 ∧ ((v2 < 0) → o = .inl (some (.int 0)) ∧ z = (SH, mm, lm)) ∧ ((¬ v2 < 0) → o = .inl (some (.int 1)) ∧ z = (SH, mm, lm))) :
    J G M_X10_swings 0 [(0, .ref 63), (1, .int x1)] [] (SH, mm, lm) false o z false a b := by
  refine J_aload_n rfl (i := 0) rfl dX10_swings_0 ?_
  refine J_iload_n rfl (i := 1) rfl dX10_swings_1 ?_
  refine J_iconst (v := 5) (by decide) dX10_swings_2 ?_
  obtain ⟨v2, hc1, hw⟩ := hw
  refine J_callV (as := [.int x1, .int 5]) (k := 63) (st := []) cal_X10_of cai_X10_of gw_1688 ⟨by decide, by decide⟩ cnt_X10_of sh_63 rfl rfl (Nat.le_of_ble_eq_true rfl) dX10_swings_3 (Nat.zero_add _).symm (Nat.zero_add _).symm hc1 ?_
  refine J_if_lt (tgt := 13) dX10_swings_6 (by decide) (fun hb4 => ?_) (fun hb4 => ?_)
  · replace hw := hw.1 hb4
    refine J_iconst (v := 0) (by decide) dX10_swings_13 ?_
    exact J_fini (ty := .boolean) rfl rfl dX10_swings_14 hw
  · replace hw := hw.2 hb4
    refine J_iconst (v := 1) (by decide) dX10_swings_9 ?_
    refine J_goto (tgt := 14) dX10_swings_10 (by decide) ?_
    exact J_fini (ty := .boolean) rfl rfl dX10_swings_14 hw
theorem dX10_chimes_0 : decode cX10_chimes 0 = .ok (.aload_n 0, 1) := by decide +kernel
theorem dX10_chimes_1 : decode cX10_chimes 1 = .ok (.iload_n 1, 1) := by decide +kernel
theorem dX10_chimes_2 : decode cX10_chimes 2 = .ok (.bipush 7, 2) := by decide +kernel
theorem dX10_chimes_4 : decode cX10_chimes 4 = .ok (.invokevirtual 229, 3) := by decide +kernel
theorem dX10_chimes_7 : decode cX10_chimes 7 = .ok (.ifCond .lt 7, 3) := by decide +kernel
theorem dX10_chimes_10 : decode cX10_chimes 10 = .ok (.iconst 1, 1) := by decide +kernel
theorem dX10_chimes_11 : decode cX10_chimes 11 = .ok (.goto 4, 3) := by decide +kernel
theorem dX10_chimes_14 : decode cX10_chimes 14 = .ok (.iconst 0, 1) := by decide +kernel
theorem dX10_chimes_15 : decode cX10_chimes 15 = .ok (.ireturn, 1) := by decide +kernel
set_option maxRecDepth 20000 in
theorem bX10_chimes_0 {G : Gx} {mm : Nat → Nat → Int32} {lm : Nat → Int64} {x1 : Int32} {o : Ou} {z : Wd} {a b : Nat} (hw : ∃ (v2 : Int32), Ct G M_X10_of [.ref 63, .int x1, .int 7] (SH, mm, lm) false (.inl (some (.int v2))) (SH, mm, lm) false 0 0 ∧ ((v2 < 0) → o = .inl (some (.int 0)) ∧ z = (SH, mm, lm)) ∧ ((¬ v2 < 0) → o = .inl (some (.int 1)) ∧ z = (SH, mm, lm))) :
    J G M_X10_chimes 0 [(0, .ref 63), (1, .int x1)] [] (SH, mm, lm) false o z false a b := by
  refine J_aload_n rfl (i := 0) rfl dX10_chimes_0 ?_
  refine J_iload_n rfl (i := 1) rfl dX10_chimes_1 ?_
  refine J_bipush (v := 7) (by decide) dX10_chimes_2 ?_
  obtain ⟨v2, hc1, hw⟩ := hw
  refine J_callV (as := [.int x1, .int 7]) (k := 63) (st := []) cal_X10_of cai_X10_of gw_1688 ⟨by decide, by decide⟩ cnt_X10_of sh_63 rfl rfl (Nat.le_of_ble_eq_true rfl) dX10_chimes_4 (Nat.zero_add _).symm (Nat.zero_add _).symm hc1 ?_
  refine J_if_lt (tgt := 14) dX10_chimes_7 (by decide) (fun hb4 => ?_) (fun hb4 => ?_)
  · replace hw := hw.1 hb4
    refine J_iconst (v := 0) (by decide) dX10_chimes_14 ?_
    exact J_fini (ty := .boolean) rfl rfl dX10_chimes_15 hw
  · replace hw := hw.2 hb4
    refine J_iconst (v := 1) (by decide) dX10_chimes_10 ?_
    refine J_goto (tgt := 15) dX10_chimes_11 (by decide) ?_
    exact J_fini (ty := .boolean) rfl rfl dX10_chimes_15 hw
theorem dX10_bellsOn_0 : decode cX10_bellsOn 0 = .ok (.iconst 0, 1) := by decide +kernel
theorem dX10_bellsOn_1 : decode cX10_bellsOn 1 = .ok (.istore_n 2, 1) := by decide +kernel
theorem dX10_bellsOn_2 : decode cX10_bellsOn 2 = .ok (.iconst 0, 1) := by decide +kernel
theorem dX10_bellsOn_3 : decode cX10_bellsOn 3 = .ok (.istore_n 3, 1) := by decide +kernel
theorem dX10_bellsOn_4 : decode cX10_bellsOn 4 = .ok (.iload_n 3, 1) := by decide +kernel
theorem dX10_bellsOn_5 : decode cX10_bellsOn 5 = .ok (.aload_n 0, 1) := by decide +kernel
theorem dX10_bellsOn_6 : decode cX10_bellsOn 6 = .ok (.getfield 206, 3) := by decide +kernel
theorem dX10_bellsOn_9 : decode cX10_bellsOn 9 = .ok (.if_icmp .ge 27, 3) := by decide +kernel
theorem dX10_bellsOn_12 : decode cX10_bellsOn 12 = .ok (.iload_n 2, 1) := by decide +kernel
theorem dX10_bellsOn_13 : decode cX10_bellsOn 13 = .ok (.aload_n 0, 1) := by decide +kernel
theorem dX10_bellsOn_14 : decode cX10_bellsOn 14 = .ok (.iload_n 3, 1) := by decide +kernel
theorem dX10_bellsOn_15 : decode cX10_bellsOn 15 = .ok (.iconst 0, 1) := by decide +kernel
theorem dX10_bellsOn_16 : decode cX10_bellsOn 16 = .ok (.invokevirtual 229, 3) := by decide +kernel
theorem dX10_bellsOn_19 : decode cX10_bellsOn 19 = .ok (.iload_n 1, 1) := by decide +kernel
theorem dX10_bellsOn_20 : decode cX10_bellsOn 20 = .ok (.if_icmp .ne 7, 3) := by decide +kernel
theorem dX10_bellsOn_23 : decode cX10_bellsOn 23 = .ok (.iconst 1, 1) := by decide +kernel
theorem dX10_bellsOn_24 : decode cX10_bellsOn 24 = .ok (.goto 4, 3) := by decide +kernel
theorem dX10_bellsOn_27 : decode cX10_bellsOn 27 = .ok (.iconst 0, 1) := by decide +kernel
theorem dX10_bellsOn_28 : decode cX10_bellsOn 28 = .ok (.iadd, 1) := by decide +kernel
theorem dX10_bellsOn_29 : decode cX10_bellsOn 29 = .ok (.istore_n 2, 1) := by decide +kernel
theorem dX10_bellsOn_30 : decode cX10_bellsOn 30 = .ok (.iinc 3 1, 3) := by decide +kernel
theorem dX10_bellsOn_33 : decode cX10_bellsOn 33 = .ok (.goto (-29), 3) := by decide +kernel
theorem dX10_bellsOn_36 : decode cX10_bellsOn 36 = .ok (.iload_n 2, 1) := by decide +kernel
theorem dX10_bellsOn_37 : decode cX10_bellsOn 37 = .ok (.ireturn, 1) := by decide +kernel
set_option maxRecDepth 20000 in
theorem bX10_bellsOn_0 {G : Gx} {mm : Nat → Nat → Int32} {lm : Nat → Int64} {x1 : Int32} {o : Ou} {z : Wd} {a b : Nat} (hw : J G M_X10_bellsOn 4 [(0, .ref 63), (1, .int x1), (2, .int 0), (3, .int 0)] [] (SH, mm, lm) false o z false a b) :
    J G M_X10_bellsOn 0 [(0, .ref 63), (1, .int x1)] [] (SH, mm, lm) false o z false a b := by
  refine J_iconst (v := 0) (by decide) dX10_bellsOn_0 ?_
  refine J_istore_n [(2, .int 0), (0, .ref 63), (1, .int x1)] rfl (i := 2) (by decide) rfl dX10_bellsOn_1 ?_
  refine J_iconst (v := 0) (by decide) dX10_bellsOn_2 ?_
  refine J_istore_n [(3, .int 0), (2, .int 0), (0, .ref 63), (1, .int x1)] rfl (i := 3) (by decide) rfl dX10_bellsOn_3 ?_
  exact J_sub [2, 3, 1, 0] rfl hw
set_option maxRecDepth 20000 in
theorem bX10_bellsOn_4 {G : Gx} {mm : Nat → Nat → Int32} {lm : Nat → Int64} {x1 : Int32} {x2 : Int32} {x3 : Int32} {o : Ou} {z : Wd} {a b : Nat} (hw : (((mm 63 8) ≤ x3) → o = .inl (some (.int x2)) ∧ z = (SH, mm, lm)) ∧ ((¬ (mm 63 8) ≤ x3) → ∃ (v2 : Int32), Ct G M_X10_of [.ref 63, .int x3, .int 0] (SH, mm, lm) false (.inl (some (.int v2))) (SH, mm, lm) false 0 0 ∧ ((¬ v2 = x1) → J G M_X10_bellsOn 4 [(0, .ref 63), (1, .int x1), (2, .int (x2 + 0)), (3, .int (x3 + 1))] [] (SH, mm, lm) false o z false a b) ∧ ((v2 = x1) → J G M_X10_bellsOn 4 [(0, .ref 63), (1, .int x1), (2, .int (x2 + 1)), (3, .int (x3 + 1))] [] (SH, mm, lm) false o z false a b))) :
    J G M_X10_bellsOn 4 [(0, .ref 63), (1, .int x1), (2, .int x2), (3, .int x3)] [] (SH, mm, lm) false o z false a b := by
  refine J_iload_n rfl (i := 3) rfl dX10_bellsOn_4 ?_
  refine J_aload_n rfl (i := 0) rfl dX10_bellsOn_5 ?_
  refine J_geti kls_10 (q := 63) (k := 8) sh_63 (by decide) rfl gw_1441 dX10_bellsOn_6 ?_
  refine J_icmp_ge (tgt := 36) dX10_bellsOn_9 (by decide) (fun hb5 => ?_) (fun hb5 => ?_)
  · replace hw := hw.1 hb5
    refine J_iload_n rfl (i := 2) rfl dX10_bellsOn_36 ?_
    exact J_fini (ty := .int) rfl rfl dX10_bellsOn_37 hw
  · replace hw := hw.2 hb5
    refine J_iload_n rfl (i := 2) rfl dX10_bellsOn_12 ?_
    refine J_aload_n rfl (i := 0) rfl dX10_bellsOn_13 ?_
    refine J_iload_n rfl (i := 3) rfl dX10_bellsOn_14 ?_
    refine J_iconst (v := 0) (by decide) dX10_bellsOn_15 ?_
    obtain ⟨v2, hc1, hw⟩ := hw
    refine J_callV (as := [.int x3, .int 0]) (k := 63) (st := [.int x2]) cal_X10_of cai_X10_of gw_1688 ⟨by decide, by decide⟩ cnt_X10_of sh_63 rfl rfl (Nat.le_of_ble_eq_true rfl) dX10_bellsOn_16 (Nat.zero_add _).symm (Nat.zero_add _).symm hc1 ?_
    refine J_iload_n rfl (i := 1) rfl dX10_bellsOn_19 ?_
    refine J_icmp_ne (tgt := 27) dX10_bellsOn_20 (by decide) (fun hb4 => ?_) (fun hb4 => ?_)
    · replace hw := hw.1 hb4
      refine J_iconst (v := 0) (by decide) dX10_bellsOn_27 ?_
      refine J_iadd dX10_bellsOn_28 ?_
      refine J_istore_n [(2, .int (x2 + 0)), (0, .ref 63), (1, .int x1), (3, .int x3)] rfl (i := 2) (by decide) rfl dX10_bellsOn_29 ?_
      refine J_iinc [(3, .int (x3 + 1)), (2, .int (x2 + 0)), (0, .ref 63), (1, .int x1)] (i := 3) (v := (x3 + 1)) rfl rfl (by decide) rfl dX10_bellsOn_30 ?_
      refine J_goto (tgt := 4) dX10_bellsOn_33 (by decide) ?_
      exact J_sub [2, 3, 1, 0] rfl hw
    · replace hw := hw.2 hb4
      refine J_iconst (v := 1) (by decide) dX10_bellsOn_23 ?_
      refine J_goto (tgt := 28) dX10_bellsOn_24 (by decide) ?_
      refine J_iadd dX10_bellsOn_28 ?_
      refine J_istore_n [(2, .int (x2 + 1)), (0, .ref 63), (1, .int x1), (3, .int x3)] rfl (i := 2) (by decide) rfl dX10_bellsOn_29 ?_
      refine J_iinc [(3, .int (x3 + 1)), (2, .int (x2 + 1)), (0, .ref 63), (1, .int x1)] (i := 3) (v := (x3 + 1)) rfl rfl (by decide) rfl dX10_bellsOn_30 ?_
      refine J_goto (tgt := 4) dX10_bellsOn_33 (by decide) ?_
      exact J_sub [2, 3, 1, 0] rfl hw
theorem dX10_pull_0 : decode cX10_pull 0 = .ok (.iconst 0, 1) := by decide +kernel
theorem dX10_pull_1 : decode cX10_pull 1 = .ok (.istore_n 2, 1) := by decide +kernel
theorem dX10_pull_2 : decode cX10_pull 2 = .ok (.iconst 0, 1) := by decide +kernel
theorem dX10_pull_3 : decode cX10_pull 3 = .ok (.istore_n 3, 1) := by decide +kernel
theorem dX10_pull_4 : decode cX10_pull 4 = .ok (.iload_n 3, 1) := by decide +kernel
theorem dX10_pull_5 : decode cX10_pull 5 = .ok (.aload_n 0, 1) := by decide +kernel
theorem dX10_pull_6 : decode cX10_pull 6 = .ok (.getfield 206, 3) := by decide +kernel
theorem dX10_pull_9 : decode cX10_pull 9 = .ok (.if_icmp .ge 39, 3) := by decide +kernel
theorem dX10_pull_12 : decode cX10_pull 12 = .ok (.iload_n 2, 1) := by decide +kernel
theorem dX10_pull_13 : decode cX10_pull 13 = .ok (.aload_n 0, 1) := by decide +kernel
theorem dX10_pull_14 : decode cX10_pull 14 = .ok (.iload_n 3, 1) := by decide +kernel
theorem dX10_pull_15 : decode cX10_pull 15 = .ok (.iconst 0, 1) := by decide +kernel
theorem dX10_pull_16 : decode cX10_pull 16 = .ok (.invokevirtual 229, 3) := by decide +kernel
theorem dX10_pull_19 : decode cX10_pull 19 = .ok (.iload_n 1, 1) := by decide +kernel
theorem dX10_pull_20 : decode cX10_pull 20 = .ok (.if_icmp .ne 19, 3) := by decide +kernel
theorem dX10_pull_23 : decode cX10_pull 23 = .ok (.aload_n 0, 1) := by decide +kernel
theorem dX10_pull_24 : decode cX10_pull 24 = .ok (.getfield 22, 3) := by decide +kernel
theorem dX10_pull_27 : decode cX10_pull 27 = .ok (.iload_n 3, 1) := by decide +kernel
theorem dX10_pull_28 : decode cX10_pull 28 = .ok (.iaload, 1) := by decide +kernel
theorem dX10_pull_29 : decode cX10_pull 29 = .ok (.aload_n 0, 1) := by decide +kernel
theorem dX10_pull_30 : decode cX10_pull 30 = .ok (.iload_n 3, 1) := by decide +kernel
theorem dX10_pull_31 : decode cX10_pull 31 = .ok (.iconst 1, 1) := by decide +kernel
theorem dX10_pull_32 : decode cX10_pull 32 = .ok (.invokevirtual 229, 3) := by decide +kernel
theorem dX10_pull_35 : decode cX10_pull 35 = .ok (.imul, 1) := by decide +kernel
theorem dX10_pull_36 : decode cX10_pull 36 = .ok (.goto 4, 3) := by decide +kernel
theorem dX10_pull_39 : decode cX10_pull 39 = .ok (.iconst 0, 1) := by decide +kernel
theorem dX10_pull_40 : decode cX10_pull 40 = .ok (.iadd, 1) := by decide +kernel
theorem dX10_pull_41 : decode cX10_pull 41 = .ok (.istore_n 2, 1) := by decide +kernel
theorem dX10_pull_42 : decode cX10_pull 42 = .ok (.iinc 3 1, 3) := by decide +kernel
theorem dX10_pull_45 : decode cX10_pull 45 = .ok (.goto (-41), 3) := by decide +kernel
theorem dX10_pull_48 : decode cX10_pull 48 = .ok (.iload_n 2, 1) := by decide +kernel
theorem dX10_pull_49 : decode cX10_pull 49 = .ok (.ireturn, 1) := by decide +kernel
set_option maxRecDepth 20000 in
theorem bX10_pull_0 {G : Gx} {mm : Nat → Nat → Int32} {lm : Nat → Int64} {x1 : Int32} {o : Ou} {z : Wd} {a b : Nat} (hw : J G M_X10_pull 4 [(0, .ref 63), (1, .int x1), (2, .int 0), (3, .int 0)] [] (SH, mm, lm) false o z false a b) :
    J G M_X10_pull 0 [(0, .ref 63), (1, .int x1)] [] (SH, mm, lm) false o z false a b := by
  refine J_iconst (v := 0) (by decide) dX10_pull_0 ?_
  refine J_istore_n [(2, .int 0), (0, .ref 63), (1, .int x1)] rfl (i := 2) (by decide) rfl dX10_pull_1 ?_
  refine J_iconst (v := 0) (by decide) dX10_pull_2 ?_
  refine J_istore_n [(3, .int 0), (2, .int 0), (0, .ref 63), (1, .int x1)] rfl (i := 3) (by decide) rfl dX10_pull_3 ?_
  exact J_sub [2, 3, 1, 0] rfl hw
set_option maxRecDepth 20000 in
theorem bX10_pull_4 {G : Gx} {mm : Nat → Nat → Int32} {lm : Nat → Int64} {x1 : Int32} {x2 : Int32} {x3 : Int32} {o : Ou} {z : Wd} {a b : Nat} (hw : (((mm 63 8) ≤ x3) → o = .inl (some (.int x2)) ∧ z = (SH, mm, lm)) ∧ ((¬ (mm 63 8) ≤ x3) → ∃ (v2 : Int32), Ct G M_X10_of [.ref 63, .int x3, .int 0] (SH, mm, lm) false (.inl (some (.int v2))) (SH, mm, lm) false 0 0 ∧ ((¬ v2 = x1) → J G M_X10_pull 4 [(0, .ref 63), (1, .int x1), (2, .int (x2 + 0)), (3, .int (x3 + 1))] [] (SH, mm, lm) false o z false a b) ∧ ((v2 = x1) → ∃ j4 : Nat, x3 = nI j4 ∧ j4 < 8 ∧ ∃ (v6 : Int32), Ct G M_X10_of [.ref 63, .int x3, .int 1] (SH, mm, lm) false (.inl (some (.int v6))) (SH, mm, lm) false 0 0 ∧ J G M_X10_pull 4 [(0, .ref 63), (1, .int x1), (2, .int (x2 + ((mm 68 j4) * v6))), (3, .int (x3 + 1))] [] (SH, mm, lm) false o z false a b))) :
    J G M_X10_pull 4 [(0, .ref 63), (1, .int x1), (2, .int x2), (3, .int x3)] [] (SH, mm, lm) false o z false a b := by
  refine J_iload_n rfl (i := 3) rfl dX10_pull_4 ?_
  refine J_aload_n rfl (i := 0) rfl dX10_pull_5 ?_
  refine J_geti kls_10 (q := 63) (k := 8) sh_63 (by decide) rfl gw_1441 dX10_pull_6 ?_
  refine J_icmp_ge (tgt := 48) dX10_pull_9 (by decide) (fun hb9 => ?_) (fun hb9 => ?_)
  · replace hw := hw.1 hb9
    refine J_iload_n rfl (i := 2) rfl dX10_pull_48 ?_
    exact J_fini (ty := .int) rfl rfl dX10_pull_49 hw
  · replace hw := hw.2 hb9
    refine J_iload_n rfl (i := 2) rfl dX10_pull_12 ?_
    refine J_aload_n rfl (i := 0) rfl dX10_pull_13 ?_
    refine J_iload_n rfl (i := 3) rfl dX10_pull_14 ?_
    refine J_iconst (v := 0) (by decide) dX10_pull_15 ?_
    obtain ⟨v2, hc1, hw⟩ := hw
    refine J_callV (as := [.int x3, .int 0]) (k := 63) (st := [.int x2]) cal_X10_of cai_X10_of gw_1688 ⟨by decide, by decide⟩ cnt_X10_of sh_63 rfl rfl (Nat.le_of_ble_eq_true rfl) dX10_pull_16 (Nat.zero_add _).symm (Nat.zero_add _).symm hc1 ?_
    refine J_iload_n rfl (i := 1) rfl dX10_pull_19 ?_
    refine J_icmp_ne (tgt := 39) dX10_pull_20 (by decide) (fun hb8 => ?_) (fun hb8 => ?_)
    · replace hw := hw.1 hb8
      refine J_iconst (v := 0) (by decide) dX10_pull_39 ?_
      refine J_iadd dX10_pull_40 ?_
      refine J_istore_n [(2, .int (x2 + 0)), (0, .ref 63), (1, .int x1), (3, .int x3)] rfl (i := 2) (by decide) rfl dX10_pull_41 ?_
      refine J_iinc [(3, .int (x3 + 1)), (2, .int (x2 + 0)), (0, .ref 63), (1, .int x1)] (i := 3) (v := (x3 + 1)) rfl rfl (by decide) rfl dX10_pull_42 ?_
      refine J_goto (tgt := 4) dX10_pull_45 (by decide) ?_
      exact J_sub [2, 3, 1, 0] rfl hw
    · replace hw := hw.2 hb8
      refine J_aload_n rfl (i := 0) rfl dX10_pull_23 ?_
      refine J_getr kls_10 (q := 63) (k := 9) sh_63 (by decide) rfl gw_1442 dX10_pull_24 ?_
      refine J_iload_n rfl (i := 3) rfl dX10_pull_27 ?_
      obtain ⟨j4, ej4, hj4, hw⟩ := hw
      refine J_iald sh_68 ej4 hj4 (by decide) dX10_pull_28 ?_
      refine J_aload_n rfl (i := 0) rfl dX10_pull_29 ?_
      refine J_iload_n rfl (i := 3) rfl dX10_pull_30 ?_
      refine J_iconst (v := 1) (by decide) dX10_pull_31 ?_
      obtain ⟨v6, hc5, hw⟩ := hw
      refine J_callV (as := [.int x3, .int 1]) (k := 63) (st := [.int (mm 68 j4), .int x2]) cal_X10_of cai_X10_of gw_1688 ⟨by decide, by decide⟩ cnt_X10_of sh_63 rfl rfl (Nat.le_of_ble_eq_true rfl) dX10_pull_32 (Nat.zero_add _).symm (Nat.zero_add _).symm hc5 ?_
      refine J_imul dX10_pull_35 ?_
      refine J_goto (tgt := 40) dX10_pull_36 (by decide) ?_
      refine J_iadd dX10_pull_40 ?_
      refine J_istore_n [(2, .int (x2 + ((mm 68 j4) * v6))), (0, .ref 63), (1, .int x1), (3, .int x3)] rfl (i := 2) (by decide) rfl dX10_pull_41 ?_
      refine J_iinc [(3, .int (x3 + 1)), (2, .int (x2 + ((mm 68 j4) * v6))), (0, .ref 63), (1, .int x1)] (i := 3) (v := (x3 + 1)) rfl rfl (by decide) rfl dX10_pull_42 ?_
      refine J_goto (tgt := 4) dX10_pull_45 (by decide) ?_
      exact J_sub [2, 3, 1, 0] rfl hw
theorem dX10_isClear_0 : decode cX10_isClear 0 = .ok (.iconst 0, 1) := by decide +kernel
theorem dX10_isClear_1 : decode cX10_isClear 1 = .ok (.istore 4, 2) := by decide +kernel
theorem dX10_isClear_3 : decode cX10_isClear 3 = .ok (.iload 4, 2) := by decide +kernel
theorem dX10_isClear_5 : decode cX10_isClear 5 = .ok (.aload_n 0, 1) := by decide +kernel
theorem dX10_isClear_6 : decode cX10_isClear 6 = .ok (.getfield 206, 3) := by decide +kernel
theorem dX10_isClear_9 : decode cX10_isClear 9 = .ok (.if_icmp .ge 57, 3) := by decide +kernel
theorem dX10_isClear_12 : decode cX10_isClear 12 = .ok (.iload 4, 2) := by decide +kernel
theorem dX10_isClear_14 : decode cX10_isClear 14 = .ok (.iload_n 1, 1) := by decide +kernel
theorem dX10_isClear_15 : decode cX10_isClear 15 = .ok (.if_icmp .eq 45, 3) := by decide +kernel
theorem dX10_isClear_18 : decode cX10_isClear 18 = .ok (.aload_n 0, 1) := by decide +kernel
theorem dX10_isClear_19 : decode cX10_isClear 19 = .ok (.iload 4, 2) := by decide +kernel
theorem dX10_isClear_21 : decode cX10_isClear 21 = .ok (.iconst 0, 1) := by decide +kernel
theorem dX10_isClear_22 : decode cX10_isClear 22 = .ok (.invokevirtual 229, 3) := by decide +kernel
theorem dX10_isClear_25 : decode cX10_isClear 25 = .ok (.iload_n 2, 1) := by decide +kernel
theorem dX10_isClear_26 : decode cX10_isClear 26 = .ok (.if_icmp .ne 34, 3) := by decide +kernel
theorem dX10_isClear_29 : decode cX10_isClear 29 = .ok (.aload_n 0, 1) := by decide +kernel
theorem dX10_isClear_30 : decode cX10_isClear 30 = .ok (.iload 4, 2) := by decide +kernel
theorem dX10_isClear_32 : decode cX10_isClear 32 = .ok (.iconst 1, 1) := by decide +kernel
theorem dX10_isClear_33 : decode cX10_isClear 33 = .ok (.invokevirtual 229, 3) := by decide +kernel
theorem dX10_isClear_36 : decode cX10_isClear 36 = .ok (.iload_n 3, 1) := by decide +kernel
theorem dX10_isClear_37 : decode cX10_isClear 37 = .ok (.isub, 1) := by decide +kernel
theorem dX10_isClear_38 : decode cX10_isClear 38 = .ok (.invokestatic 232, 3) := by decide +kernel
theorem dX10_isClear_41 : decode cX10_isClear 41 = .ok (.aload_n 0, 1) := by decide +kernel
theorem dX10_isClear_42 : decode cX10_isClear 42 = .ok (.getfield 25, 3) := by decide +kernel
theorem dX10_isClear_45 : decode cX10_isClear 45 = .ok (.iload 4, 2) := by decide +kernel
theorem dX10_isClear_47 : decode cX10_isClear 47 = .ok (.iaload, 1) := by decide +kernel
theorem dX10_isClear_48 : decode cX10_isClear 48 = .ok (.aload_n 0, 1) := by decide +kernel
theorem dX10_isClear_49 : decode cX10_isClear 49 = .ok (.getfield 25, 3) := by decide +kernel
theorem dX10_isClear_52 : decode cX10_isClear 52 = .ok (.iload_n 1, 1) := by decide +kernel
theorem dX10_isClear_53 : decode cX10_isClear 53 = .ok (.iaload, 1) := by decide +kernel
theorem dX10_isClear_54 : decode cX10_isClear 54 = .ok (.iadd, 1) := by decide +kernel
theorem dX10_isClear_55 : decode cX10_isClear 55 = .ok (.if_icmp .ge 5, 3) := by decide +kernel
theorem dX10_isClear_58 : decode cX10_isClear 58 = .ok (.iconst 0, 1) := by decide +kernel
theorem dX10_isClear_59 : decode cX10_isClear 59 = .ok (.ireturn, 1) := by decide +kernel
theorem dX10_isClear_60 : decode cX10_isClear 60 = .ok (.iinc 4 1, 3) := by decide +kernel
theorem dX10_isClear_63 : decode cX10_isClear 63 = .ok (.goto (-60), 3) := by decide +kernel
theorem dX10_isClear_66 : decode cX10_isClear 66 = .ok (.iconst 1, 1) := by decide +kernel
theorem dX10_isClear_67 : decode cX10_isClear 67 = .ok (.ireturn, 1) := by decide +kernel
set_option maxRecDepth 20000 in
theorem bX10_isClear_0 {G : Gx} {mm : Nat → Nat → Int32} {lm : Nat → Int64} {x1 : Int32} {x2 : Int32} {x3 : Int32} {o : Ou} {z : Wd} {a b : Nat} (hw : J G M_X10_isClear 3 [(0, .ref 63), (1, .int x1), (2, .int x2), (3, .int x3), (4, .int 0)] [] (SH, mm, lm) false o z false a b) :
    J G M_X10_isClear 0 [(0, .ref 63), (1, .int x1), (2, .int x2), (3, .int x3)] [] (SH, mm, lm) false o z false a b := by
  refine J_iconst (v := 0) (by decide) dX10_isClear_0 ?_
  refine J_istore [(4, .int 0), (0, .ref 63), (1, .int x1), (2, .int x2), (3, .int x3)] (i := 4) (by decide) rfl dX10_isClear_1 ?_
  exact J_sub [1, 2, 3, 4, 0] rfl hw
set_option maxRecDepth 20000 in
theorem bX10_isClear_3 {G : Gx} {mm : Nat → Nat → Int32} {lm : Nat → Int64} {x1 : Int32} {x2 : Int32} {x3 : Int32} {x4 : Int32} {o : Ou} {z : Wd} {a b : Nat} (hw : (((mm 63 8) ≤ x4) → o = .inl (some (.int 1)) ∧ z = (SH, mm, lm)) ∧ ((¬ (mm 63 8) ≤ x4) → ((x4 = x1) → J G M_X10_isClear 3 [(0, .ref 63), (1, .int x1), (2, .int x2), (3, .int x3), (4, .int (x4 + 1))] [] (SH, mm, lm) false o z false a b) ∧ ((¬ x4 = x1) → ∃ (v2 : Int32), Ct G M_X10_of [.ref 63, .int x4, .int 0] (SH, mm, lm) false (.inl (some (.int v2))) (SH, mm, lm) false 0 0 ∧ ((¬ v2 = x2) → J G M_X10_isClear 3 [(0, .ref 63), (1, .int x1), (2, .int x2), (3, .int x3), (4, .int (x4 + 1))] [] (SH, mm, lm) false o z false a b) ∧ ((v2 = x2) → ∃ (v5 : Int32), Ct G M_X10_of [.ref 63, .int x4, .int 1] (SH, mm, lm) false (.inl (some (.int v5))) (SH, mm, lm) false 0 0 ∧ ∃ (v8 : Int32), Ct G M_X10_size [.int (v5 - x3)] (SH, mm, lm) false (.inl (some (.int v8))) (SH, mm, lm) false 0 0 ∧ ∃ j10 : Nat, x4 = nI j10 ∧ j10 < 8 ∧ ∃ j11 : Nat, x1 = nI j11 ∧ j11 < 8 ∧ ((((mm 69 j10) + (mm 69 j11)) ≤ v8) → J G M_X10_isClear 3 [(0, .ref 63), (1, .int x1), (2, .int x2), (3, .int x3), (4, .int (x4 + 1))] [] (SH, mm, lm) false o z false a b) ∧ ((¬ ((mm 69 j10) + (mm 69 j11)) ≤ v8) → o = .inl (some (.int 0)) ∧ z = (SH, mm, lm)))))) :
    J G M_X10_isClear 3 [(0, .ref 63), (1, .int x1), (2, .int x2), (3, .int x3), (4, .int x4)] [] (SH, mm, lm) false o z false a b := by
  refine J_iload (i := 4) rfl dX10_isClear_3 ?_
  refine J_aload_n rfl (i := 0) rfl dX10_isClear_5 ?_
  refine J_geti kls_10 (q := 63) (k := 8) sh_63 (by decide) rfl gw_1441 dX10_isClear_6 ?_
  refine J_icmp_ge (tgt := 66) dX10_isClear_9 (by decide) (fun hb15 => ?_) (fun hb15 => ?_)
  · replace hw := hw.1 hb15
    refine J_iconst (v := 1) (by decide) dX10_isClear_66 ?_
    exact J_fini (ty := .boolean) rfl rfl dX10_isClear_67 hw
  · replace hw := hw.2 hb15
    refine J_iload (i := 4) rfl dX10_isClear_12 ?_
    refine J_iload_n rfl (i := 1) rfl dX10_isClear_14 ?_
    refine J_icmp_eq (tgt := 60) dX10_isClear_15 (by decide) (fun hb14 => ?_) (fun hb14 => ?_)
    · replace hw := hw.1 hb14
      refine J_iinc [(4, .int (x4 + 1)), (0, .ref 63), (1, .int x1), (2, .int x2), (3, .int x3)] (i := 4) (v := (x4 + 1)) rfl rfl (by decide) rfl dX10_isClear_60 ?_
      refine J_goto (tgt := 3) dX10_isClear_63 (by decide) ?_
      exact J_sub [1, 2, 3, 4, 0] rfl hw
    · replace hw := hw.2 hb14
      refine J_aload_n rfl (i := 0) rfl dX10_isClear_18 ?_
      refine J_iload (i := 4) rfl dX10_isClear_19 ?_
      refine J_iconst (v := 0) (by decide) dX10_isClear_21 ?_
      obtain ⟨v2, hc1, hw⟩ := hw
      refine J_callV (as := [.int x4, .int 0]) (k := 63) (st := []) cal_X10_of cai_X10_of gw_1688 ⟨by decide, by decide⟩ cnt_X10_of sh_63 rfl rfl (Nat.le_of_ble_eq_true rfl) dX10_isClear_22 (Nat.zero_add _).symm (Nat.zero_add _).symm hc1 ?_
      refine J_iload_n rfl (i := 2) rfl dX10_isClear_25 ?_
      refine J_icmp_ne (tgt := 60) dX10_isClear_26 (by decide) (fun hb13 => ?_) (fun hb13 => ?_)
      · replace hw := hw.1 hb13
        refine J_iinc [(4, .int (x4 + 1)), (0, .ref 63), (1, .int x1), (2, .int x2), (3, .int x3)] (i := 4) (v := (x4 + 1)) rfl rfl (by decide) rfl dX10_isClear_60 ?_
        refine J_goto (tgt := 3) dX10_isClear_63 (by decide) ?_
        exact J_sub [1, 2, 3, 4, 0] rfl hw
      · replace hw := hw.2 hb13
        refine J_aload_n rfl (i := 0) rfl dX10_isClear_29 ?_
        refine J_iload (i := 4) rfl dX10_isClear_30 ?_
        refine J_iconst (v := 1) (by decide) dX10_isClear_32 ?_
        obtain ⟨v5, hc4, hw⟩ := hw
        refine J_callV (as := [.int x4, .int 1]) (k := 63) (st := []) cal_X10_of cai_X10_of gw_1688 ⟨by decide, by decide⟩ cnt_X10_of sh_63 rfl rfl (Nat.le_of_ble_eq_true rfl) dX10_isClear_33 (Nat.zero_add _).symm (Nat.zero_add _).symm hc4 ?_
        refine J_iload_n rfl (i := 3) rfl dX10_isClear_36 ?_
        refine J_isub dX10_isClear_37 ?_
        obtain ⟨v8, hc7, hw⟩ := hw
        refine J_callS (as := [.int (v5 - x3)]) (st := []) cal_X10_size cas_X10_size gw_1696 ⟨by decide, by decide⟩ cnt_X10_size rfl (Nat.le_of_ble_eq_true rfl) dX10_isClear_38 (Nat.zero_add _).symm (Nat.zero_add _).symm hc7 ?_
        refine J_aload_n rfl (i := 0) rfl dX10_isClear_41 ?_
        refine J_getr kls_10 (q := 63) (k := 10) sh_63 (by decide) rfl gw_1443 dX10_isClear_42 ?_
        refine J_iload (i := 4) rfl dX10_isClear_45 ?_
        obtain ⟨j10, ej10, hj10, hw⟩ := hw
        refine J_iald sh_69 ej10 hj10 (by decide) dX10_isClear_47 ?_
        refine J_aload_n rfl (i := 0) rfl dX10_isClear_48 ?_
        refine J_getr kls_10 (q := 63) (k := 10) sh_63 (by decide) rfl gw_1443 dX10_isClear_49 ?_
        refine J_iload_n rfl (i := 1) rfl dX10_isClear_52 ?_
        obtain ⟨j11, ej11, hj11, hw⟩ := hw
        refine J_iald sh_69 ej11 hj11 (by decide) dX10_isClear_53 ?_
        refine J_iadd dX10_isClear_54 ?_
        refine J_icmp_ge (tgt := 60) dX10_isClear_55 (by decide) (fun hb12 => ?_) (fun hb12 => ?_)
        · replace hw := hw.1 hb12
          refine J_iinc [(4, .int (x4 + 1)), (0, .ref 63), (1, .int x1), (2, .int x2), (3, .int x3)] (i := 4) (v := (x4 + 1)) rfl rfl (by decide) rfl dX10_isClear_60 ?_
          refine J_goto (tgt := 3) dX10_isClear_63 (by decide) ?_
          exact J_sub [1, 2, 3, 4, 0] rfl hw
        · replace hw := hw.2 hb12
          refine J_iconst (v := 0) (by decide) dX10_isClear_58 ?_
          exact J_fini (ty := .boolean) rfl rfl dX10_isClear_59 hw
theorem dX10_isBalanced_0 : decode cX10_isBalanced 0 = .ok (.iload_n 2, 1) := by decide +kernel
theorem dX10_isBalanced_1 : decode cX10_isBalanced 1 = .ok (.invokestatic 232, 3) := by decide +kernel
theorem dX10_isBalanced_4 : decode cX10_isBalanced 4 = .ok (.aload_n 0, 1) := by decide +kernel
theorem dX10_isBalanced_5 : decode cX10_isBalanced 5 = .ok (.getfield 19, 3) := by decide +kernel
theorem dX10_isBalanced_8 : decode cX10_isBalanced 8 = .ok (.iload_n 1, 1) := by decide +kernel
theorem dX10_isBalanced_9 : decode cX10_isBalanced 9 = .ok (.iaload, 1) := by decide +kernel
theorem dX10_isBalanced_10 : decode cX10_isBalanced 10 = .ok (.if_icmp .gt 7, 3) := by decide +kernel
theorem dX10_isBalanced_13 : decode cX10_isBalanced 13 = .ok (.iconst 1, 1) := by decide +kernel
theorem dX10_isBalanced_14 : decode cX10_isBalanced 14 = .ok (.goto 4, 3) := by decide +kernel
theorem dX10_isBalanced_17 : decode cX10_isBalanced 17 = .ok (.iconst 0, 1) := by decide +kernel
theorem dX10_isBalanced_18 : decode cX10_isBalanced 18 = .ok (.ireturn, 1) := by decide +kernel
set_option maxRecDepth 20000 in
theorem bX10_isBalanced_0 {G : Gx} {mm : Nat → Nat → Int32} {lm : Nat → Int64} {x1 : Int32} {x2 : Int32} {o : Ou} {z : Wd} {a b : Nat} (hw : ∃ (v2 : Int32), Ct G M_X10_size [.int x2] (SH, mm, lm) false (.inl (some (.int v2))) (SH, mm, lm) false 0 0 ∧ ∃ j4 : Nat, x1 = nI j4 ∧ j4 < 4 ∧ (((mm 67 j4) < v2) → o = .inl (some (.int 0)) ∧ z = (SH, mm, lm)) ∧ ((¬ (mm 67 j4) < v2) → o = .inl (some (.int 1)) ∧ z = (SH, mm, lm))) :
    J G M_X10_isBalanced 0 [(0, .ref 63), (1, .int x1), (2, .int x2)] [] (SH, mm, lm) false o z false a b := by
  refine J_iload_n rfl (i := 2) rfl dX10_isBalanced_0 ?_
  obtain ⟨v2, hc1, hw⟩ := hw
  refine J_callS (as := [.int x2]) (st := []) cal_X10_size cas_X10_size gw_1696 ⟨by decide, by decide⟩ cnt_X10_size rfl (Nat.le_of_ble_eq_true rfl) dX10_isBalanced_1 (Nat.zero_add _).symm (Nat.zero_add _).symm hc1 ?_
  refine J_aload_n rfl (i := 0) rfl dX10_isBalanced_4 ?_
  refine J_getr kls_10 (q := 63) (k := 7) sh_63 (by decide) rfl gw_1440 dX10_isBalanced_5 ?_
  refine J_iload_n rfl (i := 1) rfl dX10_isBalanced_8 ?_
  obtain ⟨j4, ej4, hj4, hw⟩ := hw
  refine J_iald sh_67 ej4 hj4 (by decide) dX10_isBalanced_9 ?_
  refine J_icmp_gt (tgt := 17) dX10_isBalanced_10 (by decide) (fun hb5 => ?_) (fun hb5 => ?_)
  · replace hw := hw.1 hb5
    refine J_iconst (v := 0) (by decide) dX10_isBalanced_17 ?_
    exact J_fini (ty := .boolean) rfl rfl dX10_isBalanced_18 hw
  · replace hw := hw.2 hb5
    refine J_iconst (v := 1) (by decide) dX10_isBalanced_13 ?_
    refine J_goto (tgt := 18) dX10_isBalanced_14 (by decide) ?_
    exact J_fini (ty := .boolean) rfl rfl dX10_isBalanced_18 hw
theorem dX10_hang_0 : decode cX10_hang 0 = .ok (.aload_n 0, 1) := by decide +kernel
theorem dX10_hang_1 : decode cX10_hang 1 = .ok (.aload_n 0, 1) := by decide +kernel
theorem dX10_hang_2 : decode cX10_hang 2 = .ok (.iload_n 1, 1) := by decide +kernel
theorem dX10_hang_3 : decode cX10_hang 3 = .ok (.invokevirtual 235, 3) := by decide +kernel
theorem dX10_hang_6 : decode cX10_hang 6 = .ok (.ifCond .eq 22, 3) := by decide +kernel
theorem dX10_hang_9 : decode cX10_hang 9 = .ok (.aload_n 0, 1) := by decide +kernel
theorem dX10_hang_10 : decode cX10_hang 10 = .ok (.iload_n 2, 1) := by decide +kernel
theorem dX10_hang_11 : decode cX10_hang 11 = .ok (.invokevirtual 238, 3) := by decide +kernel
theorem dX10_hang_14 : decode cX10_hang 14 = .ok (.ifCond .eq 14, 3) := by decide +kernel
theorem dX10_hang_17 : decode cX10_hang 17 = .ok (.iload_n 3, 1) := by decide +kernel
theorem dX10_hang_18 : decode cX10_hang 18 = .ok (.invokestatic 241, 3) := by decide +kernel
theorem dX10_hang_21 : decode cX10_hang 21 = .ok (.ifCond .eq 7, 3) := by decide +kernel
theorem dX10_hang_24 : decode cX10_hang 24 = .ok (.iconst 1, 1) := by decide +kernel
theorem dX10_hang_25 : decode cX10_hang 25 = .ok (.goto 4, 3) := by decide +kernel
theorem dX10_hang_28 : decode cX10_hang 28 = .ok (.iconst 0, 1) := by decide +kernel
theorem dX10_hang_29 : decode cX10_hang 29 = .ok (.invokevirtual 221, 3) := by decide +kernel
theorem dX10_hang_32 : decode cX10_hang 32 = .ok (.ifCond .eq 5, 3) := by decide +kernel
theorem dX10_hang_35 : decode cX10_hang 35 = .ok (.iconst 0, 1) := by decide +kernel
theorem dX10_hang_36 : decode cX10_hang 36 = .ok (.ireturn, 1) := by decide +kernel
theorem dX10_hang_37 : decode cX10_hang 37 = .ok (.aload_n 0, 1) := by decide +kernel
theorem dX10_hang_38 : decode cX10_hang 38 = .ok (.iload_n 1, 1) := by decide +kernel
theorem dX10_hang_39 : decode cX10_hang 39 = .ok (.invokevirtual 244, 3) := by decide +kernel
theorem dX10_hang_42 : decode cX10_hang 42 = .ok (.ifCond .eq 6, 3) := by decide +kernel
theorem dX10_hang_45 : decode cX10_hang 45 = .ok (.bipush (-2), 2) := by decide +kernel
theorem dX10_hang_47 : decode cX10_hang 47 = .ok (.ireturn, 1) := by decide +kernel
theorem dX10_hang_48 : decode cX10_hang 48 = .ok (.aload_n 0, 1) := by decide +kernel
theorem dX10_hang_49 : decode cX10_hang 49 = .ok (.iload_n 1, 1) := by decide +kernel
theorem dX10_hang_50 : decode cX10_hang 50 = .ok (.iload_n 2, 1) := by decide +kernel
theorem dX10_hang_51 : decode cX10_hang 51 = .ok (.iload_n 3, 1) := by decide +kernel
theorem dX10_hang_52 : decode cX10_hang 52 = .ok (.invokevirtual 247, 3) := by decide +kernel
theorem dX10_hang_55 : decode cX10_hang 55 = .ok (.ifCond .ne 6, 3) := by decide +kernel
theorem dX10_hang_58 : decode cX10_hang 58 = .ok (.bipush (-3), 2) := by decide +kernel
theorem dX10_hang_60 : decode cX10_hang 60 = .ok (.ireturn, 1) := by decide +kernel
theorem dX10_hang_61 : decode cX10_hang 61 = .ok (.aload_n 0, 1) := by decide +kernel
theorem dX10_hang_62 : decode cX10_hang 62 = .ok (.iload_n 2, 1) := by decide +kernel
theorem dX10_hang_63 : decode cX10_hang 63 = .ok (.aload_n 0, 1) := by decide +kernel
theorem dX10_hang_64 : decode cX10_hang 64 = .ok (.iload_n 2, 1) := by decide +kernel
theorem dX10_hang_65 : decode cX10_hang 65 = .ok (.invokevirtual 251, 3) := by decide +kernel
theorem dX10_hang_68 : decode cX10_hang 68 = .ok (.aload_n 0, 1) := by decide +kernel
theorem dX10_hang_69 : decode cX10_hang 69 = .ok (.getfield 22, 3) := by decide +kernel
theorem dX10_hang_72 : decode cX10_hang 72 = .ok (.iload_n 1, 1) := by decide +kernel
theorem dX10_hang_73 : decode cX10_hang 73 = .ok (.iaload, 1) := by decide +kernel
theorem dX10_hang_74 : decode cX10_hang 74 = .ok (.iload_n 3, 1) := by decide +kernel
theorem dX10_hang_75 : decode cX10_hang 75 = .ok (.imul, 1) := by decide +kernel
theorem dX10_hang_76 : decode cX10_hang 76 = .ok (.iadd, 1) := by decide +kernel
theorem dX10_hang_77 : decode cX10_hang 77 = .ok (.invokevirtual 254, 3) := by decide +kernel
theorem dX10_hang_80 : decode cX10_hang 80 = .ok (.ifCond .ne 6, 3) := by decide +kernel
theorem dX10_hang_83 : decode cX10_hang 83 = .ok (.bipush (-4), 2) := by decide +kernel
theorem dX10_hang_85 : decode cX10_hang 85 = .ok (.ireturn, 1) := by decide +kernel
theorem dX10_hang_86 : decode cX10_hang 86 = .ok (.aload_n 0, 1) := by decide +kernel
theorem dX10_hang_87 : decode cX10_hang 87 = .ok (.invokevirtual 257, 3) := by decide +kernel
theorem dX10_hang_90 : decode cX10_hang 90 = .ok (.aload_n 0, 1) := by decide +kernel
theorem dX10_hang_91 : decode cX10_hang 91 = .ok (.iload_n 1, 1) := by decide +kernel
theorem dX10_hang_92 : decode cX10_hang 92 = .ok (.iconst 0, 1) := by decide +kernel
theorem dX10_hang_93 : decode cX10_hang 93 = .ok (.iload_n 2, 1) := by decide +kernel
theorem dX10_hang_94 : decode cX10_hang 94 = .ok (.invokevirtual 260, 3) := by decide +kernel
theorem dX10_hang_97 : decode cX10_hang 97 = .ok (.aload_n 0, 1) := by decide +kernel
theorem dX10_hang_98 : decode cX10_hang 98 = .ok (.iload_n 1, 1) := by decide +kernel
theorem dX10_hang_99 : decode cX10_hang 99 = .ok (.iconst 1, 1) := by decide +kernel
theorem dX10_hang_100 : decode cX10_hang 100 = .ok (.iload_n 3, 1) := by decide +kernel
theorem dX10_hang_101 : decode cX10_hang 101 = .ok (.invokevirtual 260, 3) := by decide +kernel
theorem dX10_hang_104 : decode cX10_hang 104 = .ok (.aload_n 0, 1) := by decide +kernel
theorem dX10_hang_105 : decode cX10_hang 105 = .ok (.iload_n 2, 1) := by decide +kernel
theorem dX10_hang_106 : decode cX10_hang 106 = .ok (.invokevirtual 264, 3) := by decide +kernel
theorem dX10_hang_109 : decode cX10_hang 109 = .ok (.ireturn, 1) := by decide +kernel
set_option maxRecDepth 20000 in
theorem bX10_hang_0 {G : Gx} {mm : Nat → Nat → Int32} {lm : Nat → Int64} {x1 : Int32} {x2 : Int32} {x3 : Int32} {o : Ou} {z : Wd} {a b : Nat} (hw : ∃ (v2 : Int32), Ct G M_X10_isBell [.ref 63, .int x1] (SH, mm, lm) false (.inl (some (.int v2))) (SH, mm, lm) false 0 0 ∧ ((v2 = 0) → ∃ (v5 : Int32) (m6 : Nat → Nat → Int32), Ct G M_X10_isWrong [.ref 63, .int 0] (SH, mm, lm) false (.inl (some (.int v5))) (SH, m6, lm) false 0 0 ∧ ((v5 = 0) → J G M_X10_hang 37 [(0, .ref 63), (1, .int x1), (2, .int x2), (3, .int x3)] [] (SH, m6, lm) false o z false a b) ∧ ((¬ v5 = 0) → o = .inl (some (.int 0)) ∧ z = (SH, m6, lm))) ∧ ((¬ v2 = 0) → ∃ (v9 : Int32), Ct G M_X10_isBeam [.ref 63, .int x2] (SH, mm, lm) false (.inl (some (.int v9))) (SH, mm, lm) false 0 0 ∧ ((v9 = 0) → ∃ (v12 : Int32) (m13 : Nat → Nat → Int32), Ct G M_X10_isWrong [.ref 63, .int 0] (SH, mm, lm) false (.inl (some (.int v12))) (SH, m13, lm) false 0 0 ∧ ((v12 = 0) → J G M_X10_hang 37 [(0, .ref 63), (1, .int x1), (2, .int x2), (3, .int x3)] [] (SH, m13, lm) false o z false a b) ∧ ((¬ v12 = 0) → o = .inl (some (.int 0)) ∧ z = (SH, m13, lm))) ∧ ((¬ v9 = 0) → ∃ (v16 : Int32), Ct G M_X10_isPosition [.int x3] (SH, mm, lm) false (.inl (some (.int v16))) (SH, mm, lm) false 0 0 ∧ ((v16 = 0) → ∃ (v19 : Int32) (m20 : Nat → Nat → Int32), Ct G M_X10_isWrong [.ref 63, .int 0] (SH, mm, lm) false (.inl (some (.int v19))) (SH, m20, lm) false 0 0 ∧ ((v19 = 0) → J G M_X10_hang 37 [(0, .ref 63), (1, .int x1), (2, .int x2), (3, .int x3)] [] (SH, m20, lm) false o z false a b) ∧ ((¬ v19 = 0) → o = .inl (some (.int 0)) ∧ z = (SH, m20, lm))) ∧ ((¬ v16 = 0) → ∃ (v23 : Int32) (m24 : Nat → Nat → Int32), Ct G M_X10_isWrong [.ref 63, .int 1] (SH, mm, lm) false (.inl (some (.int v23))) (SH, m24, lm) false 0 0 ∧ ((v23 = 0) → J G M_X10_hang 37 [(0, .ref 63), (1, .int x1), (2, .int x2), (3, .int x3)] [] (SH, m24, lm) false o z false a b) ∧ ((¬ v23 = 0) → o = .inl (some (.int 0)) ∧ z = (SH, m24, lm)))))) :
    J G M_X10_hang 0 [(0, .ref 63), (1, .int x1), (2, .int x2), (3, .int x3)] [] (SH, mm, lm) false o z false a b := by
  refine J_aload_n rfl (i := 0) rfl dX10_hang_0 ?_
  refine J_aload_n rfl (i := 0) rfl dX10_hang_1 ?_
  refine J_iload_n rfl (i := 1) rfl dX10_hang_2 ?_
  obtain ⟨v2, hc1, hw⟩ := hw
  refine J_callV (as := [.int x1]) (k := 63) (st := [.ref 63]) cal_X10_isBell cai_X10_isBell gw_1671 ⟨by decide, by decide⟩ cnt_X10_isBell sh_63 rfl rfl (Nat.le_of_ble_eq_true rfl) dX10_hang_3 (Nat.zero_add _).symm (Nat.zero_add _).symm hc1 ?_
  refine J_if_eq (tgt := 28) dX10_hang_6 (by decide) (fun hb28 => ?_) (fun hb28 => ?_)
  · replace hw := hw.1 hb28
    refine J_iconst (v := 0) (by decide) dX10_hang_28 ?_
    obtain ⟨v5, m6, hc4, hw⟩ := hw
    refine J_callV (as := [.int 0]) (k := 63) (st := []) cal_X10_isWrong cai_X10_isWrong gw_1663 ⟨by decide, by decide⟩ cnt_X10_isWrong sh_63 rfl rfl (Nat.le_of_ble_eq_true rfl) dX10_hang_29 (Nat.zero_add _).symm (Nat.zero_add _).symm hc4 ?_
    refine J_if_eq (tgt := 37) dX10_hang_32 (by decide) (fun hb7 => ?_) (fun hb7 => ?_)
    · replace hw := hw.1 hb7
      exact hw
    · replace hw := hw.2 hb7
      refine J_iconst (v := 0) (by decide) dX10_hang_35 ?_
      exact J_fini (ty := .int) rfl rfl dX10_hang_36 hw
  · replace hw := hw.2 hb28
    refine J_aload_n rfl (i := 0) rfl dX10_hang_9 ?_
    refine J_iload_n rfl (i := 2) rfl dX10_hang_10 ?_
    obtain ⟨v9, hc8, hw⟩ := hw
    refine J_callV (as := [.int x2]) (k := 63) (st := [.ref 63]) cal_X10_isBeam cai_X10_isBeam gw_1675 ⟨by decide, by decide⟩ cnt_X10_isBeam sh_63 rfl rfl (Nat.le_of_ble_eq_true rfl) dX10_hang_11 (Nat.zero_add _).symm (Nat.zero_add _).symm hc8 ?_
    refine J_if_eq (tgt := 28) dX10_hang_14 (by decide) (fun hb27 => ?_) (fun hb27 => ?_)
    · replace hw := hw.1 hb27
      refine J_iconst (v := 0) (by decide) dX10_hang_28 ?_
      obtain ⟨v12, m13, hc11, hw⟩ := hw
      refine J_callV (as := [.int 0]) (k := 63) (st := []) cal_X10_isWrong cai_X10_isWrong gw_1663 ⟨by decide, by decide⟩ cnt_X10_isWrong sh_63 rfl rfl (Nat.le_of_ble_eq_true rfl) dX10_hang_29 (Nat.zero_add _).symm (Nat.zero_add _).symm hc11 ?_
      refine J_if_eq (tgt := 37) dX10_hang_32 (by decide) (fun hb14 => ?_) (fun hb14 => ?_)
      · replace hw := hw.1 hb14
        exact hw
      · replace hw := hw.2 hb14
        refine J_iconst (v := 0) (by decide) dX10_hang_35 ?_
        exact J_fini (ty := .int) rfl rfl dX10_hang_36 hw
    · replace hw := hw.2 hb27
      refine J_iload_n rfl (i := 3) rfl dX10_hang_17 ?_
      obtain ⟨v16, hc15, hw⟩ := hw
      refine J_callS (as := [.int x3]) (st := [.ref 63]) cal_X10_isPosition cas_X10_isPosition gw_1679 ⟨by decide, by decide⟩ cnt_X10_isPosition rfl (Nat.le_of_ble_eq_true rfl) dX10_hang_18 (Nat.zero_add _).symm (Nat.zero_add _).symm hc15 ?_
      refine J_if_eq (tgt := 28) dX10_hang_21 (by decide) (fun hb26 => ?_) (fun hb26 => ?_)
      · replace hw := hw.1 hb26
        refine J_iconst (v := 0) (by decide) dX10_hang_28 ?_
        obtain ⟨v19, m20, hc18, hw⟩ := hw
        refine J_callV (as := [.int 0]) (k := 63) (st := []) cal_X10_isWrong cai_X10_isWrong gw_1663 ⟨by decide, by decide⟩ cnt_X10_isWrong sh_63 rfl rfl (Nat.le_of_ble_eq_true rfl) dX10_hang_29 (Nat.zero_add _).symm (Nat.zero_add _).symm hc18 ?_
        refine J_if_eq (tgt := 37) dX10_hang_32 (by decide) (fun hb21 => ?_) (fun hb21 => ?_)
        · replace hw := hw.1 hb21
          exact hw
        · replace hw := hw.2 hb21
          refine J_iconst (v := 0) (by decide) dX10_hang_35 ?_
          exact J_fini (ty := .int) rfl rfl dX10_hang_36 hw
      · replace hw := hw.2 hb26
        refine J_iconst (v := 1) (by decide) dX10_hang_24 ?_
        refine J_goto (tgt := 29) dX10_hang_25 (by decide) ?_
        obtain ⟨v23, m24, hc22, hw⟩ := hw
        refine J_callV (as := [.int 1]) (k := 63) (st := []) cal_X10_isWrong cai_X10_isWrong gw_1663 ⟨by decide, by decide⟩ cnt_X10_isWrong sh_63 rfl rfl (Nat.le_of_ble_eq_true rfl) dX10_hang_29 (Nat.zero_add _).symm (Nat.zero_add _).symm hc22 ?_
        refine J_if_eq (tgt := 37) dX10_hang_32 (by decide) (fun hb25 => ?_) (fun hb25 => ?_)
        · replace hw := hw.1 hb25
          exact hw
        · replace hw := hw.2 hb25
          refine J_iconst (v := 0) (by decide) dX10_hang_35 ?_
          exact J_fini (ty := .int) rfl rfl dX10_hang_36 hw
set_option maxRecDepth 20000 in
theorem bX10_hang_37 {G : Gx} {mm : Nat → Nat → Int32} {lm : Nat → Int64} {x1 : Int32} {x2 : Int32} {x3 : Int32} {o : Ou} {z : Wd} {a b : Nat} (hw : ∃ (v2 : Int32), Ct G M_X10_hangs [.ref 63, .int x1] (SH, mm, lm) false (.inl (some (.int v2))) (SH, mm, lm) false 0 0 ∧ ((v2 = 0) → ∃ (v5 : Int32), Ct G M_X10_isClear [.ref 63, .int x1, .int x2, .int x3] (SH, mm, lm) false (.inl (some (.int v5))) (SH, mm, lm) false 0 0 ∧ ((¬ v5 = 0) → ∃ (v8 : Int32), Ct G M_X10_pull [.ref 63, .int x2] (SH, mm, lm) false (.inl (some (.int v8))) (SH, mm, lm) false 0 0 ∧ ∃ j10 : Nat, x1 = nI j10 ∧ j10 < 8 ∧ ∃ (v12 : Int32), Ct G M_X10_isBalanced [.ref 63, .int x2, .int (v8 + ((mm 68 j10) * x3))] (SH, mm, lm) false (.inl (some (.int v12))) (SH, mm, lm) false 0 0 ∧ ((¬ v12 = 0) → ∃ (m16 : Nat → Nat → Int32), Ct G M_X10_remember [.ref 63] (SH, mm, lm) false (.inl none) (SH, m16, lm) false 0 0 ∧ ∃ (m19 : Nat → Nat → Int32), Ct G M_X10_set [.ref 63, .int x1, .int 0, .int x2] (SH, m16, lm) false (.inl none) (SH, m19, lm) false 0 0 ∧ ∃ (m22 : Nat → Nat → Int32), Ct G M_X10_set [.ref 63, .int x1, .int 1, .int x3] (SH, m19, lm) false (.inl none) (SH, m22, lm) false 0 0 ∧ ∃ (v24 : Int32), Ct G M_X10_bellsOn [.ref 63, .int x2] (SH, m22, lm) false (.inl (some (.int v24))) (SH, m22, lm) false 0 0 ∧ o = .inl (some (.int v24)) ∧ z = (SH, m22, lm)) ∧ ((v12 = 0) → o = .inl (some (.int (-4))) ∧ z = (SH, mm, lm))) ∧ ((v5 = 0) → o = .inl (some (.int (-3))) ∧ z = (SH, mm, lm))) ∧ ((¬ v2 = 0) → o = .inl (some (.int (-2))) ∧ z = (SH, mm, lm))) :
    J G M_X10_hang 37 [(0, .ref 63), (1, .int x1), (2, .int x2), (3, .int x3)] [] (SH, mm, lm) false o z false a b := by
  refine J_aload_n rfl (i := 0) rfl dX10_hang_37 ?_
  refine J_iload_n rfl (i := 1) rfl dX10_hang_38 ?_
  obtain ⟨v2, hc1, hw⟩ := hw
  refine J_callV (as := [.int x1]) (k := 63) (st := []) cal_X10_hangs cai_X10_hangs gw_1684 ⟨by decide, by decide⟩ cnt_X10_hangs sh_63 rfl rfl (Nat.le_of_ble_eq_true rfl) dX10_hang_39 (Nat.zero_add _).symm (Nat.zero_add _).symm hc1 ?_
  refine J_if_eq (tgt := 48) dX10_hang_42 (by decide) (fun hb28 => ?_) (fun hb28 => ?_)
  · replace hw := hw.1 hb28
    refine J_aload_n rfl (i := 0) rfl dX10_hang_48 ?_
    refine J_iload_n rfl (i := 1) rfl dX10_hang_49 ?_
    refine J_iload_n rfl (i := 2) rfl dX10_hang_50 ?_
    refine J_iload_n rfl (i := 3) rfl dX10_hang_51 ?_
    obtain ⟨v5, hc4, hw⟩ := hw
    refine J_callV (as := [.int x1, .int x2, .int x3]) (k := 63) (st := []) cal_X10_isClear cai_X10_isClear gw_1692 ⟨by decide, by decide⟩ cnt_X10_isClear sh_63 rfl rfl (Nat.le_of_ble_eq_true rfl) dX10_hang_52 (Nat.zero_add _).symm (Nat.zero_add _).symm hc4 ?_
    refine J_if_ne (tgt := 61) dX10_hang_55 (by decide) (fun hb27 => ?_) (fun hb27 => ?_)
    · replace hw := hw.1 hb27
      refine J_aload_n rfl (i := 0) rfl dX10_hang_61 ?_
      refine J_iload_n rfl (i := 2) rfl dX10_hang_62 ?_
      refine J_aload_n rfl (i := 0) rfl dX10_hang_63 ?_
      refine J_iload_n rfl (i := 2) rfl dX10_hang_64 ?_
      obtain ⟨v8, hc7, hw⟩ := hw
      refine J_callV (as := [.int x2]) (k := 63) (st := [.int x2, .ref 63]) cal_X10_pull cai_X10_pull gw_1699 ⟨by decide, by decide⟩ cnt_X10_pull sh_63 rfl rfl (Nat.le_of_ble_eq_true rfl) dX10_hang_65 (Nat.zero_add _).symm (Nat.zero_add _).symm hc7 ?_
      refine J_aload_n rfl (i := 0) rfl dX10_hang_68 ?_
      refine J_getr kls_10 (q := 63) (k := 9) sh_63 (by decide) rfl gw_1442 dX10_hang_69 ?_
      refine J_iload_n rfl (i := 1) rfl dX10_hang_72 ?_
      obtain ⟨j10, ej10, hj10, hw⟩ := hw
      refine J_iald sh_68 ej10 hj10 (by decide) dX10_hang_73 ?_
      refine J_iload_n rfl (i := 3) rfl dX10_hang_74 ?_
      refine J_imul dX10_hang_75 ?_
      refine J_iadd dX10_hang_76 ?_
      obtain ⟨v12, hc11, hw⟩ := hw
      refine J_callV (as := [.int x2, .int (v8 + ((mm 68 j10) * x3))]) (k := 63) (st := []) cal_X10_isBalanced cai_X10_isBalanced gw_1703 ⟨by decide, by decide⟩ cnt_X10_isBalanced sh_63 rfl rfl (Nat.le_of_ble_eq_true rfl) dX10_hang_77 (Nat.zero_add _).symm (Nat.zero_add _).symm hc11 ?_
      refine J_if_ne (tgt := 86) dX10_hang_80 (by decide) (fun hb26 => ?_) (fun hb26 => ?_)
      · replace hw := hw.1 hb26
        refine J_aload_n rfl (i := 0) rfl dX10_hang_86 ?_
        obtain ⟨m16, hc14, hw⟩ := hw
        refine J_callV (as := []) (k := 63) (st := []) cal_X10_remember cai_X10_remember gw_1707 ⟨by decide, by decide⟩ cnt_X10_remember sh_63 rfl rfl (Nat.le_of_ble_eq_true rfl) dX10_hang_87 (Nat.zero_add _).symm (Nat.zero_add _).symm hc14 ?_
        refine J_aload_n rfl (i := 0) rfl dX10_hang_90 ?_
        refine J_iload_n rfl (i := 1) rfl dX10_hang_91 ?_
        refine J_iconst (v := 0) (by decide) dX10_hang_92 ?_
        refine J_iload_n rfl (i := 2) rfl dX10_hang_93 ?_
        obtain ⟨m19, hc17, hw⟩ := hw
        refine J_callV (as := [.int x1, .int 0, .int x2]) (k := 63) (st := []) cal_X10_set cai_X10_set gw_1711 ⟨by decide, by decide⟩ cnt_X10_set sh_63 rfl rfl (Nat.le_of_ble_eq_true rfl) dX10_hang_94 (Nat.zero_add _).symm (Nat.zero_add _).symm hc17 ?_
        refine J_aload_n rfl (i := 0) rfl dX10_hang_97 ?_
        refine J_iload_n rfl (i := 1) rfl dX10_hang_98 ?_
        refine J_iconst (v := 1) (by decide) dX10_hang_99 ?_
        refine J_iload_n rfl (i := 3) rfl dX10_hang_100 ?_
        obtain ⟨m22, hc20, hw⟩ := hw
        refine J_callV (as := [.int x1, .int 1, .int x3]) (k := 63) (st := []) cal_X10_set cai_X10_set gw_1711 ⟨by decide, by decide⟩ cnt_X10_set sh_63 rfl rfl (Nat.le_of_ble_eq_true rfl) dX10_hang_101 (Nat.zero_add _).symm (Nat.zero_add _).symm hc20 ?_
        refine J_aload_n rfl (i := 0) rfl dX10_hang_104 ?_
        refine J_iload_n rfl (i := 2) rfl dX10_hang_105 ?_
        obtain ⟨v24, hc23, hw⟩ := hw
        refine J_callV (as := [.int x2]) (k := 63) (st := []) cal_X10_bellsOn cai_X10_bellsOn gw_1715 ⟨by decide, by decide⟩ cnt_X10_bellsOn sh_63 rfl rfl (Nat.le_of_ble_eq_true rfl) dX10_hang_106 (Nat.zero_add _).symm (Nat.zero_add _).symm hc23 ?_
        exact J_fini (ty := .int) rfl rfl dX10_hang_109 hw
      · replace hw := hw.2 hb26
        refine J_bipush (v := (-4)) (by decide) dX10_hang_83 ?_
        exact J_fini (ty := .int) rfl rfl dX10_hang_85 hw
    · replace hw := hw.2 hb27
      refine J_bipush (v := (-3)) (by decide) dX10_hang_58 ?_
      exact J_fini (ty := .int) rfl rfl dX10_hang_60 hw
  · replace hw := hw.2 hb28
    refine J_bipush (v := (-2)) (by decide) dX10_hang_45 ?_
    exact J_fini (ty := .int) rfl rfl dX10_hang_47 hw
theorem dX10_takeDown_0 : decode cX10_takeDown 0 = .ok (.aload_n 0, 1) := by decide +kernel
theorem dX10_takeDown_1 : decode cX10_takeDown 1 = .ok (.aload_n 0, 1) := by decide +kernel
theorem dX10_takeDown_2 : decode cX10_takeDown 2 = .ok (.iload_n 1, 1) := by decide +kernel
theorem dX10_takeDown_3 : decode cX10_takeDown 3 = .ok (.invokevirtual 235, 3) := by decide +kernel
theorem dX10_takeDown_6 : decode cX10_takeDown 6 = .ok (.invokevirtual 221, 3) := by decide +kernel
theorem dX10_takeDown_9 : decode cX10_takeDown 9 = .ok (.ifCond .eq 5, 3) := by decide +kernel
theorem dX10_takeDown_12 : decode cX10_takeDown 12 = .ok (.iconst 0, 1) := by decide +kernel
theorem dX10_takeDown_13 : decode cX10_takeDown 13 = .ok (.ireturn, 1) := by decide +kernel
theorem dX10_takeDown_14 : decode cX10_takeDown 14 = .ok (.aload_n 0, 1) := by decide +kernel
theorem dX10_takeDown_15 : decode cX10_takeDown 15 = .ok (.iload_n 1, 1) := by decide +kernel
theorem dX10_takeDown_16 : decode cX10_takeDown 16 = .ok (.invokevirtual 244, 3) := by decide +kernel
theorem dX10_takeDown_19 : decode cX10_takeDown 19 = .ok (.ifCond .ne 6, 3) := by decide +kernel
theorem dX10_takeDown_22 : decode cX10_takeDown 22 = .ok (.bipush (-2), 2) := by decide +kernel
theorem dX10_takeDown_24 : decode cX10_takeDown 24 = .ok (.ireturn, 1) := by decide +kernel
theorem dX10_takeDown_25 : decode cX10_takeDown 25 = .ok (.aload_n 0, 1) := by decide +kernel
theorem dX10_takeDown_26 : decode cX10_takeDown 26 = .ok (.iload_n 1, 1) := by decide +kernel
theorem dX10_takeDown_27 : decode cX10_takeDown 27 = .ok (.iconst 0, 1) := by decide +kernel
theorem dX10_takeDown_28 : decode cX10_takeDown 28 = .ok (.invokevirtual 229, 3) := by decide +kernel
theorem dX10_takeDown_31 : decode cX10_takeDown 31 = .ok (.istore_n 2, 1) := by decide +kernel
theorem dX10_takeDown_32 : decode cX10_takeDown 32 = .ok (.aload_n 0, 1) := by decide +kernel
theorem dX10_takeDown_33 : decode cX10_takeDown 33 = .ok (.iload_n 2, 1) := by decide +kernel
theorem dX10_takeDown_34 : decode cX10_takeDown 34 = .ok (.aload_n 0, 1) := by decide +kernel
theorem dX10_takeDown_35 : decode cX10_takeDown 35 = .ok (.iload_n 2, 1) := by decide +kernel
theorem dX10_takeDown_36 : decode cX10_takeDown 36 = .ok (.invokevirtual 251, 3) := by decide +kernel
theorem dX10_takeDown_39 : decode cX10_takeDown 39 = .ok (.aload_n 0, 1) := by decide +kernel
theorem dX10_takeDown_40 : decode cX10_takeDown 40 = .ok (.getfield 22, 3) := by decide +kernel
theorem dX10_takeDown_43 : decode cX10_takeDown 43 = .ok (.iload_n 1, 1) := by decide +kernel
theorem dX10_takeDown_44 : decode cX10_takeDown 44 = .ok (.iaload, 1) := by decide +kernel
theorem dX10_takeDown_45 : decode cX10_takeDown 45 = .ok (.aload_n 0, 1) := by decide +kernel
theorem dX10_takeDown_46 : decode cX10_takeDown 46 = .ok (.iload_n 1, 1) := by decide +kernel
theorem dX10_takeDown_47 : decode cX10_takeDown 47 = .ok (.iconst 1, 1) := by decide +kernel
theorem dX10_takeDown_48 : decode cX10_takeDown 48 = .ok (.invokevirtual 229, 3) := by decide +kernel
theorem dX10_takeDown_51 : decode cX10_takeDown 51 = .ok (.imul, 1) := by decide +kernel
theorem dX10_takeDown_52 : decode cX10_takeDown 52 = .ok (.isub, 1) := by decide +kernel
theorem dX10_takeDown_53 : decode cX10_takeDown 53 = .ok (.invokevirtual 254, 3) := by decide +kernel
theorem dX10_takeDown_56 : decode cX10_takeDown 56 = .ok (.ifCond .ne 6, 3) := by decide +kernel
theorem dX10_takeDown_59 : decode cX10_takeDown 59 = .ok (.bipush (-4), 2) := by decide +kernel
theorem dX10_takeDown_61 : decode cX10_takeDown 61 = .ok (.ireturn, 1) := by decide +kernel
theorem dX10_takeDown_62 : decode cX10_takeDown 62 = .ok (.aload_n 0, 1) := by decide +kernel
theorem dX10_takeDown_63 : decode cX10_takeDown 63 = .ok (.invokevirtual 257, 3) := by decide +kernel
theorem dX10_takeDown_66 : decode cX10_takeDown 66 = .ok (.aload_n 0, 1) := by decide +kernel
theorem dX10_takeDown_67 : decode cX10_takeDown 67 = .ok (.iload_n 1, 1) := by decide +kernel
theorem dX10_takeDown_68 : decode cX10_takeDown 68 = .ok (.iconst 0, 1) := by decide +kernel
theorem dX10_takeDown_69 : decode cX10_takeDown 69 = .ok (.iconst (-1), 1) := by decide +kernel
theorem dX10_takeDown_70 : decode cX10_takeDown 70 = .ok (.invokevirtual 260, 3) := by decide +kernel
theorem dX10_takeDown_73 : decode cX10_takeDown 73 = .ok (.aload_n 0, 1) := by decide +kernel
theorem dX10_takeDown_74 : decode cX10_takeDown 74 = .ok (.iload_n 1, 1) := by decide +kernel
theorem dX10_takeDown_75 : decode cX10_takeDown 75 = .ok (.iconst 5, 1) := by decide +kernel
theorem dX10_takeDown_76 : decode cX10_takeDown 76 = .ok (.iconst (-1), 1) := by decide +kernel
theorem dX10_takeDown_77 : decode cX10_takeDown 77 = .ok (.invokevirtual 260, 3) := by decide +kernel
theorem dX10_takeDown_80 : decode cX10_takeDown 80 = .ok (.aload_n 0, 1) := by decide +kernel
theorem dX10_takeDown_81 : decode cX10_takeDown 81 = .ok (.iload_n 2, 1) := by decide +kernel
theorem dX10_takeDown_82 : decode cX10_takeDown 82 = .ok (.invokevirtual 264, 3) := by decide +kernel
theorem dX10_takeDown_85 : decode cX10_takeDown 85 = .ok (.ireturn, 1) := by decide +kernel
set_option maxRecDepth 20000 in
theorem bX10_takeDown_0 {G : Gx} {mm : Nat → Nat → Int32} {lm : Nat → Int64} {x1 : Int32} {o : Ou} {z : Wd} {a b : Nat} (hw : ∃ (v2 : Int32), Ct G M_X10_isBell [.ref 63, .int x1] (SH, mm, lm) false (.inl (some (.int v2))) (SH, mm, lm) false 0 0 ∧ ∃ (v5 : Int32) (m6 : Nat → Nat → Int32), Ct G M_X10_isWrong [.ref 63, .int v2] (SH, mm, lm) false (.inl (some (.int v5))) (SH, m6, lm) false 0 0 ∧ ((v5 = 0) → J G M_X10_takeDown 14 [(0, .ref 63), (1, .int x1)] [] (SH, m6, lm) false o z false a b) ∧ ((¬ v5 = 0) → o = .inl (some (.int 0)) ∧ z = (SH, m6, lm))) :
    J G M_X10_takeDown 0 [(0, .ref 63), (1, .int x1)] [] (SH, mm, lm) false o z false a b := by
  refine J_aload_n rfl (i := 0) rfl dX10_takeDown_0 ?_
  refine J_aload_n rfl (i := 0) rfl dX10_takeDown_1 ?_
  refine J_iload_n rfl (i := 1) rfl dX10_takeDown_2 ?_
  obtain ⟨v2, hc1, hw⟩ := hw
  refine J_callV (as := [.int x1]) (k := 63) (st := [.ref 63]) cal_X10_isBell cai_X10_isBell gw_1671 ⟨by decide, by decide⟩ cnt_X10_isBell sh_63 rfl rfl (Nat.le_of_ble_eq_true rfl) dX10_takeDown_3 (Nat.zero_add _).symm (Nat.zero_add _).symm hc1 ?_
  obtain ⟨v5, m6, hc4, hw⟩ := hw
  refine J_callV (as := [.int v2]) (k := 63) (st := []) cal_X10_isWrong cai_X10_isWrong gw_1663 ⟨by decide, by decide⟩ cnt_X10_isWrong sh_63 rfl rfl (Nat.le_of_ble_eq_true rfl) dX10_takeDown_6 (Nat.zero_add _).symm (Nat.zero_add _).symm hc4 ?_
  refine J_if_eq (tgt := 14) dX10_takeDown_9 (by decide) (fun hb7 => ?_) (fun hb7 => ?_)
  · replace hw := hw.1 hb7
    exact hw
  · replace hw := hw.2 hb7
    refine J_iconst (v := 0) (by decide) dX10_takeDown_12 ?_
    exact J_fini (ty := .int) rfl rfl dX10_takeDown_13 hw
set_option maxRecDepth 20000 in
theorem bX10_takeDown_14 {G : Gx} {mm : Nat → Nat → Int32} {lm : Nat → Int64} {x1 : Int32} {o : Ou} {z : Wd} {a b : Nat} (hw : ∃ (v2 : Int32), Ct G M_X10_hangs [.ref 63, .int x1] (SH, mm, lm) false (.inl (some (.int v2))) (SH, mm, lm) false 0 0 ∧ ((¬ v2 = 0) → ∃ (v5 : Int32), Ct G M_X10_of [.ref 63, .int x1, .int 0] (SH, mm, lm) false (.inl (some (.int v5))) (SH, mm, lm) false 0 0 ∧ ∃ (v8 : Int32), Ct G M_X10_pull [.ref 63, .int v5] (SH, mm, lm) false (.inl (some (.int v8))) (SH, mm, lm) false 0 0 ∧ ∃ j10 : Nat, x1 = nI j10 ∧ j10 < 8 ∧ ∃ (v12 : Int32), Ct G M_X10_of [.ref 63, .int x1, .int 1] (SH, mm, lm) false (.inl (some (.int v12))) (SH, mm, lm) false 0 0 ∧ ∃ (v15 : Int32), Ct G M_X10_isBalanced [.ref 63, .int v5, .int (v8 - ((mm 68 j10) * v12))] (SH, mm, lm) false (.inl (some (.int v15))) (SH, mm, lm) false 0 0 ∧ ((¬ v15 = 0) → ∃ (m19 : Nat → Nat → Int32), Ct G M_X10_remember [.ref 63] (SH, mm, lm) false (.inl none) (SH, m19, lm) false 0 0 ∧ ∃ (m22 : Nat → Nat → Int32), Ct G M_X10_set [.ref 63, .int x1, .int 0, .int (-1)] (SH, m19, lm) false (.inl none) (SH, m22, lm) false 0 0 ∧ ∃ (m25 : Nat → Nat → Int32), Ct G M_X10_set [.ref 63, .int x1, .int 5, .int (-1)] (SH, m22, lm) false (.inl none) (SH, m25, lm) false 0 0 ∧ ∃ (v27 : Int32), Ct G M_X10_bellsOn [.ref 63, .int v5] (SH, m25, lm) false (.inl (some (.int v27))) (SH, m25, lm) false 0 0 ∧ o = .inl (some (.int v27)) ∧ z = (SH, m25, lm)) ∧ ((v15 = 0) → o = .inl (some (.int (-4))) ∧ z = (SH, mm, lm))) ∧ ((v2 = 0) → o = .inl (some (.int (-2))) ∧ z = (SH, mm, lm))) :
    J G M_X10_takeDown 14 [(0, .ref 63), (1, .int x1)] [] (SH, mm, lm) false o z false a b := by
  refine J_aload_n rfl (i := 0) rfl dX10_takeDown_14 ?_
  refine J_iload_n rfl (i := 1) rfl dX10_takeDown_15 ?_
  obtain ⟨v2, hc1, hw⟩ := hw
  refine J_callV (as := [.int x1]) (k := 63) (st := []) cal_X10_hangs cai_X10_hangs gw_1684 ⟨by decide, by decide⟩ cnt_X10_hangs sh_63 rfl rfl (Nat.le_of_ble_eq_true rfl) dX10_takeDown_16 (Nat.zero_add _).symm (Nat.zero_add _).symm hc1 ?_
  refine J_if_ne (tgt := 25) dX10_takeDown_19 (by decide) (fun hb30 => ?_) (fun hb30 => ?_)
  · replace hw := hw.1 hb30
    refine J_aload_n rfl (i := 0) rfl dX10_takeDown_25 ?_
    refine J_iload_n rfl (i := 1) rfl dX10_takeDown_26 ?_
    refine J_iconst (v := 0) (by decide) dX10_takeDown_27 ?_
    obtain ⟨v5, hc4, hw⟩ := hw
    refine J_callV (as := [.int x1, .int 0]) (k := 63) (st := []) cal_X10_of cai_X10_of gw_1688 ⟨by decide, by decide⟩ cnt_X10_of sh_63 rfl rfl (Nat.le_of_ble_eq_true rfl) dX10_takeDown_28 (Nat.zero_add _).symm (Nat.zero_add _).symm hc4 ?_
    refine J_istore_n [(2, .int v5), (0, .ref 63), (1, .int x1)] rfl (i := 2) (by decide) rfl dX10_takeDown_31 ?_
    refine J_aload_n rfl (i := 0) rfl dX10_takeDown_32 ?_
    refine J_iload_n rfl (i := 2) rfl dX10_takeDown_33 ?_
    refine J_aload_n rfl (i := 0) rfl dX10_takeDown_34 ?_
    refine J_iload_n rfl (i := 2) rfl dX10_takeDown_35 ?_
    obtain ⟨v8, hc7, hw⟩ := hw
    refine J_callV (as := [.int v5]) (k := 63) (st := [.int v5, .ref 63]) cal_X10_pull cai_X10_pull gw_1699 ⟨by decide, by decide⟩ cnt_X10_pull sh_63 rfl rfl (Nat.le_of_ble_eq_true rfl) dX10_takeDown_36 (Nat.zero_add _).symm (Nat.zero_add _).symm hc7 ?_
    refine J_aload_n rfl (i := 0) rfl dX10_takeDown_39 ?_
    refine J_getr kls_10 (q := 63) (k := 9) sh_63 (by decide) rfl gw_1442 dX10_takeDown_40 ?_
    refine J_iload_n rfl (i := 1) rfl dX10_takeDown_43 ?_
    obtain ⟨j10, ej10, hj10, hw⟩ := hw
    refine J_iald sh_68 ej10 hj10 (by decide) dX10_takeDown_44 ?_
    refine J_aload_n rfl (i := 0) rfl dX10_takeDown_45 ?_
    refine J_iload_n rfl (i := 1) rfl dX10_takeDown_46 ?_
    refine J_iconst (v := 1) (by decide) dX10_takeDown_47 ?_
    obtain ⟨v12, hc11, hw⟩ := hw
    refine J_callV (as := [.int x1, .int 1]) (k := 63) (st := [.int (mm 68 j10), .int v8, .int v5, .ref 63]) cal_X10_of cai_X10_of gw_1688 ⟨by decide, by decide⟩ cnt_X10_of sh_63 rfl rfl (Nat.le_of_ble_eq_true rfl) dX10_takeDown_48 (Nat.zero_add _).symm (Nat.zero_add _).symm hc11 ?_
    refine J_imul dX10_takeDown_51 ?_
    refine J_isub dX10_takeDown_52 ?_
    obtain ⟨v15, hc14, hw⟩ := hw
    refine J_callV (as := [.int v5, .int (v8 - ((mm 68 j10) * v12))]) (k := 63) (st := []) cal_X10_isBalanced cai_X10_isBalanced gw_1703 ⟨by decide, by decide⟩ cnt_X10_isBalanced sh_63 rfl rfl (Nat.le_of_ble_eq_true rfl) dX10_takeDown_53 (Nat.zero_add _).symm (Nat.zero_add _).symm hc14 ?_
    refine J_if_ne (tgt := 62) dX10_takeDown_56 (by decide) (fun hb29 => ?_) (fun hb29 => ?_)
    · replace hw := hw.1 hb29
      refine J_aload_n rfl (i := 0) rfl dX10_takeDown_62 ?_
      obtain ⟨m19, hc17, hw⟩ := hw
      refine J_callV (as := []) (k := 63) (st := []) cal_X10_remember cai_X10_remember gw_1707 ⟨by decide, by decide⟩ cnt_X10_remember sh_63 rfl rfl (Nat.le_of_ble_eq_true rfl) dX10_takeDown_63 (Nat.zero_add _).symm (Nat.zero_add _).symm hc17 ?_
      refine J_aload_n rfl (i := 0) rfl dX10_takeDown_66 ?_
      refine J_iload_n rfl (i := 1) rfl dX10_takeDown_67 ?_
      refine J_iconst (v := 0) (by decide) dX10_takeDown_68 ?_
      refine J_iconst (v := (-1)) (by decide) dX10_takeDown_69 ?_
      obtain ⟨m22, hc20, hw⟩ := hw
      refine J_callV (as := [.int x1, .int 0, .int (-1)]) (k := 63) (st := []) cal_X10_set cai_X10_set gw_1711 ⟨by decide, by decide⟩ cnt_X10_set sh_63 rfl rfl (Nat.le_of_ble_eq_true rfl) dX10_takeDown_70 (Nat.zero_add _).symm (Nat.zero_add _).symm hc20 ?_
      refine J_aload_n rfl (i := 0) rfl dX10_takeDown_73 ?_
      refine J_iload_n rfl (i := 1) rfl dX10_takeDown_74 ?_
      refine J_iconst (v := 5) (by decide) dX10_takeDown_75 ?_
      refine J_iconst (v := (-1)) (by decide) dX10_takeDown_76 ?_
      obtain ⟨m25, hc23, hw⟩ := hw
      refine J_callV (as := [.int x1, .int 5, .int (-1)]) (k := 63) (st := []) cal_X10_set cai_X10_set gw_1711 ⟨by decide, by decide⟩ cnt_X10_set sh_63 rfl rfl (Nat.le_of_ble_eq_true rfl) dX10_takeDown_77 (Nat.zero_add _).symm (Nat.zero_add _).symm hc23 ?_
      refine J_aload_n rfl (i := 0) rfl dX10_takeDown_80 ?_
      refine J_iload_n rfl (i := 2) rfl dX10_takeDown_81 ?_
      obtain ⟨v27, hc26, hw⟩ := hw
      refine J_callV (as := [.int v5]) (k := 63) (st := []) cal_X10_bellsOn cai_X10_bellsOn gw_1715 ⟨by decide, by decide⟩ cnt_X10_bellsOn sh_63 rfl rfl (Nat.le_of_ble_eq_true rfl) dX10_takeDown_82 (Nat.zero_add _).symm (Nat.zero_add _).symm hc26 ?_
      exact J_fini (ty := .int) rfl rfl dX10_takeDown_85 hw
    · replace hw := hw.2 hb29
      refine J_bipush (v := (-4)) (by decide) dX10_takeDown_59 ?_
      exact J_fini (ty := .int) rfl rfl dX10_takeDown_61 hw
  · replace hw := hw.2 hb30
    refine J_bipush (v := (-2)) (by decide) dX10_takeDown_22 ?_
    exact J_fini (ty := .int) rfl rfl dX10_takeDown_24 hw
theorem dX10_shift_0 : decode cX10_shift 0 = .ok (.aload_n 0, 1) := by decide +kernel
theorem dX10_shift_1 : decode cX10_shift 1 = .ok (.aload_n 0, 1) := by decide +kernel
theorem dX10_shift_2 : decode cX10_shift 2 = .ok (.iload_n 1, 1) := by decide +kernel
theorem dX10_shift_3 : decode cX10_shift 3 = .ok (.invokevirtual 235, 3) := by decide +kernel
theorem dX10_shift_6 : decode cX10_shift 6 = .ok (.ifCond .eq 14, 3) := by decide +kernel
theorem dX10_shift_9 : decode cX10_shift 9 = .ok (.iload_n 2, 1) := by decide +kernel
theorem dX10_shift_10 : decode cX10_shift 10 = .ok (.invokestatic 241, 3) := by decide +kernel
theorem dX10_shift_13 : decode cX10_shift 13 = .ok (.ifCond .eq 7, 3) := by decide +kernel
theorem dX10_shift_16 : decode cX10_shift 16 = .ok (.iconst 1, 1) := by decide +kernel
theorem dX10_shift_17 : decode cX10_shift 17 = .ok (.goto 4, 3) := by decide +kernel
theorem dX10_shift_20 : decode cX10_shift 20 = .ok (.iconst 0, 1) := by decide +kernel
theorem dX10_shift_21 : decode cX10_shift 21 = .ok (.invokevirtual 221, 3) := by decide +kernel
theorem dX10_shift_24 : decode cX10_shift 24 = .ok (.ifCond .eq 5, 3) := by decide +kernel
theorem dX10_shift_27 : decode cX10_shift 27 = .ok (.iconst 0, 1) := by decide +kernel
theorem dX10_shift_28 : decode cX10_shift 28 = .ok (.ireturn, 1) := by decide +kernel
theorem dX10_shift_29 : decode cX10_shift 29 = .ok (.aload_n 0, 1) := by decide +kernel
theorem dX10_shift_30 : decode cX10_shift 30 = .ok (.iload_n 1, 1) := by decide +kernel
theorem dX10_shift_31 : decode cX10_shift 31 = .ok (.invokevirtual 244, 3) := by decide +kernel
theorem dX10_shift_34 : decode cX10_shift 34 = .ok (.ifCond .ne 6, 3) := by decide +kernel
theorem dX10_shift_37 : decode cX10_shift 37 = .ok (.bipush (-2), 2) := by decide +kernel
theorem dX10_shift_39 : decode cX10_shift 39 = .ok (.ireturn, 1) := by decide +kernel
theorem dX10_shift_40 : decode cX10_shift 40 = .ok (.aload_n 0, 1) := by decide +kernel
theorem dX10_shift_41 : decode cX10_shift 41 = .ok (.iload_n 1, 1) := by decide +kernel
theorem dX10_shift_42 : decode cX10_shift 42 = .ok (.iconst 0, 1) := by decide +kernel
theorem dX10_shift_43 : decode cX10_shift 43 = .ok (.invokevirtual 229, 3) := by decide +kernel
theorem dX10_shift_46 : decode cX10_shift 46 = .ok (.istore_n 3, 1) := by decide +kernel
theorem dX10_shift_47 : decode cX10_shift 47 = .ok (.aload_n 0, 1) := by decide +kernel
theorem dX10_shift_48 : decode cX10_shift 48 = .ok (.iload_n 1, 1) := by decide +kernel
theorem dX10_shift_49 : decode cX10_shift 49 = .ok (.iconst 1, 1) := by decide +kernel
theorem dX10_shift_50 : decode cX10_shift 50 = .ok (.invokevirtual 229, 3) := by decide +kernel
theorem dX10_shift_53 : decode cX10_shift 53 = .ok (.istore 4, 2) := by decide +kernel
theorem dX10_shift_55 : decode cX10_shift 55 = .ok (.aload_n 0, 1) := by decide +kernel
theorem dX10_shift_56 : decode cX10_shift 56 = .ok (.iload_n 1, 1) := by decide +kernel
theorem dX10_shift_57 : decode cX10_shift 57 = .ok (.iload_n 3, 1) := by decide +kernel
theorem dX10_shift_58 : decode cX10_shift 58 = .ok (.iload_n 2, 1) := by decide +kernel
theorem dX10_shift_59 : decode cX10_shift 59 = .ok (.invokevirtual 247, 3) := by decide +kernel
theorem dX10_shift_62 : decode cX10_shift 62 = .ok (.ifCond .ne 6, 3) := by decide +kernel
theorem dX10_shift_65 : decode cX10_shift 65 = .ok (.bipush (-3), 2) := by decide +kernel
theorem dX10_shift_67 : decode cX10_shift 67 = .ok (.ireturn, 1) := by decide +kernel
theorem dX10_shift_68 : decode cX10_shift 68 = .ok (.aload_n 0, 1) := by decide +kernel
theorem dX10_shift_69 : decode cX10_shift 69 = .ok (.iload_n 3, 1) := by decide +kernel
theorem dX10_shift_70 : decode cX10_shift 70 = .ok (.aload_n 0, 1) := by decide +kernel
theorem dX10_shift_71 : decode cX10_shift 71 = .ok (.iload_n 3, 1) := by decide +kernel
theorem dX10_shift_72 : decode cX10_shift 72 = .ok (.invokevirtual 251, 3) := by decide +kernel
theorem dX10_shift_75 : decode cX10_shift 75 = .ok (.aload_n 0, 1) := by decide +kernel
theorem dX10_shift_76 : decode cX10_shift 76 = .ok (.getfield 22, 3) := by decide +kernel
theorem dX10_shift_79 : decode cX10_shift 79 = .ok (.iload_n 1, 1) := by decide +kernel
theorem dX10_shift_80 : decode cX10_shift 80 = .ok (.iaload, 1) := by decide +kernel
theorem dX10_shift_81 : decode cX10_shift 81 = .ok (.iload_n 2, 1) := by decide +kernel
theorem dX10_shift_82 : decode cX10_shift 82 = .ok (.iload 4, 2) := by decide +kernel
theorem dX10_shift_84 : decode cX10_shift 84 = .ok (.isub, 1) := by decide +kernel
theorem dX10_shift_85 : decode cX10_shift 85 = .ok (.imul, 1) := by decide +kernel
theorem dX10_shift_86 : decode cX10_shift 86 = .ok (.iadd, 1) := by decide +kernel
theorem dX10_shift_87 : decode cX10_shift 87 = .ok (.invokevirtual 254, 3) := by decide +kernel
theorem dX10_shift_90 : decode cX10_shift 90 = .ok (.ifCond .ne 6, 3) := by decide +kernel
theorem dX10_shift_93 : decode cX10_shift 93 = .ok (.bipush (-4), 2) := by decide +kernel
theorem dX10_shift_95 : decode cX10_shift 95 = .ok (.ireturn, 1) := by decide +kernel
theorem dX10_shift_96 : decode cX10_shift 96 = .ok (.aload_n 0, 1) := by decide +kernel
theorem dX10_shift_97 : decode cX10_shift 97 = .ok (.invokevirtual 257, 3) := by decide +kernel
theorem dX10_shift_100 : decode cX10_shift 100 = .ok (.aload_n 0, 1) := by decide +kernel
theorem dX10_shift_101 : decode cX10_shift 101 = .ok (.iload_n 1, 1) := by decide +kernel
theorem dX10_shift_102 : decode cX10_shift 102 = .ok (.iconst 1, 1) := by decide +kernel
theorem dX10_shift_103 : decode cX10_shift 103 = .ok (.iload_n 2, 1) := by decide +kernel
theorem dX10_shift_104 : decode cX10_shift 104 = .ok (.invokevirtual 260, 3) := by decide +kernel
theorem dX10_shift_107 : decode cX10_shift 107 = .ok (.bipush 100, 2) := by decide +kernel
theorem dX10_shift_109 : decode cX10_shift 109 = .ok (.iload 4, 2) := by decide +kernel
theorem dX10_shift_111 : decode cX10_shift 111 = .ok (.iadd, 1) := by decide +kernel
theorem dX10_shift_112 : decode cX10_shift 112 = .ok (.ireturn, 1) := by decide +kernel
set_option maxRecDepth 20000 in
theorem bX10_shift_0 {G : Gx} {mm : Nat → Nat → Int32} {lm : Nat → Int64} {x1 : Int32} {x2 : Int32} {o : Ou} {z : Wd} {a b : Nat} (hw : ∃ (v2 : Int32), Ct G M_X10_isBell [.ref 63, .int x1] (SH, mm, lm) false (.inl (some (.int v2))) (SH, mm, lm) false 0 0 ∧ ((v2 = 0) → ∃ (v5 : Int32) (m6 : Nat → Nat → Int32), Ct G M_X10_isWrong [.ref 63, .int 0] (SH, mm, lm) false (.inl (some (.int v5))) (SH, m6, lm) false 0 0 ∧ ((v5 = 0) → J G M_X10_shift 29 [(0, .ref 63), (1, .int x1), (2, .int x2)] [] (SH, m6, lm) false o z false a b) ∧ ((¬ v5 = 0) → o = .inl (some (.int 0)) ∧ z = (SH, m6, lm))) ∧ ((¬ v2 = 0) → ∃ (v9 : Int32), Ct G M_X10_isPosition [.int x2] (SH, mm, lm) false (.inl (some (.int v9))) (SH, mm, lm) false 0 0 ∧ ((v9 = 0) → ∃ (v12 : Int32) (m13 : Nat → Nat → Int32), Ct G M_X10_isWrong [.ref 63, .int 0] (SH, mm, lm) false (.inl (some (.int v12))) (SH, m13, lm) false 0 0 ∧ ((v12 = 0) → J G M_X10_shift 29 [(0, .ref 63), (1, .int x1), (2, .int x2)] [] (SH, m13, lm) false o z false a b) ∧ ((¬ v12 = 0) → o = .inl (some (.int 0)) ∧ z = (SH, m13, lm))) ∧ ((¬ v9 = 0) → ∃ (v16 : Int32) (m17 : Nat → Nat → Int32), Ct G M_X10_isWrong [.ref 63, .int 1] (SH, mm, lm) false (.inl (some (.int v16))) (SH, m17, lm) false 0 0 ∧ ((v16 = 0) → J G M_X10_shift 29 [(0, .ref 63), (1, .int x1), (2, .int x2)] [] (SH, m17, lm) false o z false a b) ∧ ((¬ v16 = 0) → o = .inl (some (.int 0)) ∧ z = (SH, m17, lm))))) :
    J G M_X10_shift 0 [(0, .ref 63), (1, .int x1), (2, .int x2)] [] (SH, mm, lm) false o z false a b := by
  refine J_aload_n rfl (i := 0) rfl dX10_shift_0 ?_
  refine J_aload_n rfl (i := 0) rfl dX10_shift_1 ?_
  refine J_iload_n rfl (i := 1) rfl dX10_shift_2 ?_
  obtain ⟨v2, hc1, hw⟩ := hw
  refine J_callV (as := [.int x1]) (k := 63) (st := [.ref 63]) cal_X10_isBell cai_X10_isBell gw_1671 ⟨by decide, by decide⟩ cnt_X10_isBell sh_63 rfl rfl (Nat.le_of_ble_eq_true rfl) dX10_shift_3 (Nat.zero_add _).symm (Nat.zero_add _).symm hc1 ?_
  refine J_if_eq (tgt := 20) dX10_shift_6 (by decide) (fun hb20 => ?_) (fun hb20 => ?_)
  · replace hw := hw.1 hb20
    refine J_iconst (v := 0) (by decide) dX10_shift_20 ?_
    obtain ⟨v5, m6, hc4, hw⟩ := hw
    refine J_callV (as := [.int 0]) (k := 63) (st := []) cal_X10_isWrong cai_X10_isWrong gw_1663 ⟨by decide, by decide⟩ cnt_X10_isWrong sh_63 rfl rfl (Nat.le_of_ble_eq_true rfl) dX10_shift_21 (Nat.zero_add _).symm (Nat.zero_add _).symm hc4 ?_
    refine J_if_eq (tgt := 29) dX10_shift_24 (by decide) (fun hb7 => ?_) (fun hb7 => ?_)
    · replace hw := hw.1 hb7
      exact hw
    · replace hw := hw.2 hb7
      refine J_iconst (v := 0) (by decide) dX10_shift_27 ?_
      exact J_fini (ty := .int) rfl rfl dX10_shift_28 hw
  · replace hw := hw.2 hb20
    refine J_iload_n rfl (i := 2) rfl dX10_shift_9 ?_
    obtain ⟨v9, hc8, hw⟩ := hw
    refine J_callS (as := [.int x2]) (st := [.ref 63]) cal_X10_isPosition cas_X10_isPosition gw_1679 ⟨by decide, by decide⟩ cnt_X10_isPosition rfl (Nat.le_of_ble_eq_true rfl) dX10_shift_10 (Nat.zero_add _).symm (Nat.zero_add _).symm hc8 ?_
    refine J_if_eq (tgt := 20) dX10_shift_13 (by decide) (fun hb19 => ?_) (fun hb19 => ?_)
    · replace hw := hw.1 hb19
      refine J_iconst (v := 0) (by decide) dX10_shift_20 ?_
      obtain ⟨v12, m13, hc11, hw⟩ := hw
      refine J_callV (as := [.int 0]) (k := 63) (st := []) cal_X10_isWrong cai_X10_isWrong gw_1663 ⟨by decide, by decide⟩ cnt_X10_isWrong sh_63 rfl rfl (Nat.le_of_ble_eq_true rfl) dX10_shift_21 (Nat.zero_add _).symm (Nat.zero_add _).symm hc11 ?_
      refine J_if_eq (tgt := 29) dX10_shift_24 (by decide) (fun hb14 => ?_) (fun hb14 => ?_)
      · replace hw := hw.1 hb14
        exact hw
      · replace hw := hw.2 hb14
        refine J_iconst (v := 0) (by decide) dX10_shift_27 ?_
        exact J_fini (ty := .int) rfl rfl dX10_shift_28 hw
    · replace hw := hw.2 hb19
      refine J_iconst (v := 1) (by decide) dX10_shift_16 ?_
      refine J_goto (tgt := 21) dX10_shift_17 (by decide) ?_
      obtain ⟨v16, m17, hc15, hw⟩ := hw
      refine J_callV (as := [.int 1]) (k := 63) (st := []) cal_X10_isWrong cai_X10_isWrong gw_1663 ⟨by decide, by decide⟩ cnt_X10_isWrong sh_63 rfl rfl (Nat.le_of_ble_eq_true rfl) dX10_shift_21 (Nat.zero_add _).symm (Nat.zero_add _).symm hc15 ?_
      refine J_if_eq (tgt := 29) dX10_shift_24 (by decide) (fun hb18 => ?_) (fun hb18 => ?_)
      · replace hw := hw.1 hb18
        exact hw
      · replace hw := hw.2 hb18
        refine J_iconst (v := 0) (by decide) dX10_shift_27 ?_
        exact J_fini (ty := .int) rfl rfl dX10_shift_28 hw
set_option maxRecDepth 20000 in
theorem bX10_shift_29 {G : Gx} {mm : Nat → Nat → Int32} {lm : Nat → Int64} {x1 : Int32} {x2 : Int32} {o : Ou} {z : Wd} {a b : Nat} (hw : ∃ (v2 : Int32), Ct G M_X10_hangs [.ref 63, .int x1] (SH, mm, lm) false (.inl (some (.int v2))) (SH, mm, lm) false 0 0 ∧ ((¬ v2 = 0) → ∃ (v5 : Int32), Ct G M_X10_of [.ref 63, .int x1, .int 0] (SH, mm, lm) false (.inl (some (.int v5))) (SH, mm, lm) false 0 0 ∧ ∃ (v8 : Int32), Ct G M_X10_of [.ref 63, .int x1, .int 1] (SH, mm, lm) false (.inl (some (.int v8))) (SH, mm, lm) false 0 0 ∧ ∃ (v11 : Int32), Ct G M_X10_isClear [.ref 63, .int x1, .int v5, .int x2] (SH, mm, lm) false (.inl (some (.int v11))) (SH, mm, lm) false 0 0 ∧ ((¬ v11 = 0) → ∃ (v14 : Int32), Ct G M_X10_pull [.ref 63, .int v5] (SH, mm, lm) false (.inl (some (.int v14))) (SH, mm, lm) false 0 0 ∧ ∃ j16 : Nat, x1 = nI j16 ∧ j16 < 8 ∧ ∃ (v18 : Int32), Ct G M_X10_isBalanced [.ref 63, .int v5, .int (v14 + ((mm 68 j16) * (x2 - v8)))] (SH, mm, lm) false (.inl (some (.int v18))) (SH, mm, lm) false 0 0 ∧ ((¬ v18 = 0) → ∃ (m22 : Nat → Nat → Int32), Ct G M_X10_remember [.ref 63] (SH, mm, lm) false (.inl none) (SH, m22, lm) false 0 0 ∧ ∃ (m25 : Nat → Nat → Int32), Ct G M_X10_set [.ref 63, .int x1, .int 1, .int x2] (SH, m22, lm) false (.inl none) (SH, m25, lm) false 0 0 ∧ o = .inl (some (.int (100 + v8))) ∧ z = (SH, m25, lm)) ∧ ((v18 = 0) → o = .inl (some (.int (-4))) ∧ z = (SH, mm, lm))) ∧ ((v11 = 0) → o = .inl (some (.int (-3))) ∧ z = (SH, mm, lm))) ∧ ((v2 = 0) → o = .inl (some (.int (-2))) ∧ z = (SH, mm, lm))) :
    J G M_X10_shift 29 [(0, .ref 63), (1, .int x1), (2, .int x2)] [] (SH, mm, lm) false o z false a b := by
  refine J_aload_n rfl (i := 0) rfl dX10_shift_29 ?_
  refine J_iload_n rfl (i := 1) rfl dX10_shift_30 ?_
  obtain ⟨v2, hc1, hw⟩ := hw
  refine J_callV (as := [.int x1]) (k := 63) (st := []) cal_X10_hangs cai_X10_hangs gw_1684 ⟨by decide, by decide⟩ cnt_X10_hangs sh_63 rfl rfl (Nat.le_of_ble_eq_true rfl) dX10_shift_31 (Nat.zero_add _).symm (Nat.zero_add _).symm hc1 ?_
  refine J_if_ne (tgt := 40) dX10_shift_34 (by decide) (fun hb28 => ?_) (fun hb28 => ?_)
  · replace hw := hw.1 hb28
    refine J_aload_n rfl (i := 0) rfl dX10_shift_40 ?_
    refine J_iload_n rfl (i := 1) rfl dX10_shift_41 ?_
    refine J_iconst (v := 0) (by decide) dX10_shift_42 ?_
    obtain ⟨v5, hc4, hw⟩ := hw
    refine J_callV (as := [.int x1, .int 0]) (k := 63) (st := []) cal_X10_of cai_X10_of gw_1688 ⟨by decide, by decide⟩ cnt_X10_of sh_63 rfl rfl (Nat.le_of_ble_eq_true rfl) dX10_shift_43 (Nat.zero_add _).symm (Nat.zero_add _).symm hc4 ?_
    refine J_istore_n [(3, .int v5), (0, .ref 63), (1, .int x1), (2, .int x2)] rfl (i := 3) (by decide) rfl dX10_shift_46 ?_
    refine J_aload_n rfl (i := 0) rfl dX10_shift_47 ?_
    refine J_iload_n rfl (i := 1) rfl dX10_shift_48 ?_
    refine J_iconst (v := 1) (by decide) dX10_shift_49 ?_
    obtain ⟨v8, hc7, hw⟩ := hw
    refine J_callV (as := [.int x1, .int 1]) (k := 63) (st := []) cal_X10_of cai_X10_of gw_1688 ⟨by decide, by decide⟩ cnt_X10_of sh_63 rfl rfl (Nat.le_of_ble_eq_true rfl) dX10_shift_50 (Nat.zero_add _).symm (Nat.zero_add _).symm hc7 ?_
    refine J_istore [(4, .int v8), (3, .int v5), (0, .ref 63), (1, .int x1), (2, .int x2)] (i := 4) (by decide) rfl dX10_shift_53 ?_
    refine J_aload_n rfl (i := 0) rfl dX10_shift_55 ?_
    refine J_iload_n rfl (i := 1) rfl dX10_shift_56 ?_
    refine J_iload_n rfl (i := 3) rfl dX10_shift_57 ?_
    refine J_iload_n rfl (i := 2) rfl dX10_shift_58 ?_
    obtain ⟨v11, hc10, hw⟩ := hw
    refine J_callV (as := [.int x1, .int v5, .int x2]) (k := 63) (st := []) cal_X10_isClear cai_X10_isClear gw_1692 ⟨by decide, by decide⟩ cnt_X10_isClear sh_63 rfl rfl (Nat.le_of_ble_eq_true rfl) dX10_shift_59 (Nat.zero_add _).symm (Nat.zero_add _).symm hc10 ?_
    refine J_if_ne (tgt := 68) dX10_shift_62 (by decide) (fun hb27 => ?_) (fun hb27 => ?_)
    · replace hw := hw.1 hb27
      refine J_aload_n rfl (i := 0) rfl dX10_shift_68 ?_
      refine J_iload_n rfl (i := 3) rfl dX10_shift_69 ?_
      refine J_aload_n rfl (i := 0) rfl dX10_shift_70 ?_
      refine J_iload_n rfl (i := 3) rfl dX10_shift_71 ?_
      obtain ⟨v14, hc13, hw⟩ := hw
      refine J_callV (as := [.int v5]) (k := 63) (st := [.int v5, .ref 63]) cal_X10_pull cai_X10_pull gw_1699 ⟨by decide, by decide⟩ cnt_X10_pull sh_63 rfl rfl (Nat.le_of_ble_eq_true rfl) dX10_shift_72 (Nat.zero_add _).symm (Nat.zero_add _).symm hc13 ?_
      refine J_aload_n rfl (i := 0) rfl dX10_shift_75 ?_
      refine J_getr kls_10 (q := 63) (k := 9) sh_63 (by decide) rfl gw_1442 dX10_shift_76 ?_
      refine J_iload_n rfl (i := 1) rfl dX10_shift_79 ?_
      obtain ⟨j16, ej16, hj16, hw⟩ := hw
      refine J_iald sh_68 ej16 hj16 (by decide) dX10_shift_80 ?_
      refine J_iload_n rfl (i := 2) rfl dX10_shift_81 ?_
      refine J_iload (i := 4) rfl dX10_shift_82 ?_
      refine J_isub dX10_shift_84 ?_
      refine J_imul dX10_shift_85 ?_
      refine J_iadd dX10_shift_86 ?_
      obtain ⟨v18, hc17, hw⟩ := hw
      refine J_callV (as := [.int v5, .int (v14 + ((mm 68 j16) * (x2 - v8)))]) (k := 63) (st := []) cal_X10_isBalanced cai_X10_isBalanced gw_1703 ⟨by decide, by decide⟩ cnt_X10_isBalanced sh_63 rfl rfl (Nat.le_of_ble_eq_true rfl) dX10_shift_87 (Nat.zero_add _).symm (Nat.zero_add _).symm hc17 ?_
      refine J_if_ne (tgt := 96) dX10_shift_90 (by decide) (fun hb26 => ?_) (fun hb26 => ?_)
      · replace hw := hw.1 hb26
        refine J_aload_n rfl (i := 0) rfl dX10_shift_96 ?_
        obtain ⟨m22, hc20, hw⟩ := hw
        refine J_callV (as := []) (k := 63) (st := []) cal_X10_remember cai_X10_remember gw_1707 ⟨by decide, by decide⟩ cnt_X10_remember sh_63 rfl rfl (Nat.le_of_ble_eq_true rfl) dX10_shift_97 (Nat.zero_add _).symm (Nat.zero_add _).symm hc20 ?_
        refine J_aload_n rfl (i := 0) rfl dX10_shift_100 ?_
        refine J_iload_n rfl (i := 1) rfl dX10_shift_101 ?_
        refine J_iconst (v := 1) (by decide) dX10_shift_102 ?_
        refine J_iload_n rfl (i := 2) rfl dX10_shift_103 ?_
        obtain ⟨m25, hc23, hw⟩ := hw
        refine J_callV (as := [.int x1, .int 1, .int x2]) (k := 63) (st := []) cal_X10_set cai_X10_set gw_1711 ⟨by decide, by decide⟩ cnt_X10_set sh_63 rfl rfl (Nat.le_of_ble_eq_true rfl) dX10_shift_104 (Nat.zero_add _).symm (Nat.zero_add _).symm hc23 ?_
        refine J_bipush (v := 100) (by decide) dX10_shift_107 ?_
        refine J_iload (i := 4) rfl dX10_shift_109 ?_
        refine J_iadd dX10_shift_111 ?_
        exact J_fini (ty := .int) rfl rfl dX10_shift_112 hw
      · replace hw := hw.2 hb26
        refine J_bipush (v := (-4)) (by decide) dX10_shift_93 ?_
        exact J_fini (ty := .int) rfl rfl dX10_shift_95 hw
    · replace hw := hw.2 hb27
      refine J_bipush (v := (-3)) (by decide) dX10_shift_65 ?_
      exact J_fini (ty := .int) rfl rfl dX10_shift_67 hw
  · replace hw := hw.2 hb28
    refine J_bipush (v := (-2)) (by decide) dX10_shift_37 ?_
    exact J_fini (ty := .int) rfl rfl dX10_shift_39 hw
theorem dX10_beamOf_0 : decode cX10_beamOf 0 = .ok (.aload_n 0, 1) := by decide +kernel
theorem dX10_beamOf_1 : decode cX10_beamOf 1 = .ok (.aload_n 0, 1) := by decide +kernel
theorem dX10_beamOf_2 : decode cX10_beamOf 2 = .ok (.iload_n 1, 1) := by decide +kernel
theorem dX10_beamOf_3 : decode cX10_beamOf 3 = .ok (.invokevirtual 235, 3) := by decide +kernel
theorem dX10_beamOf_6 : decode cX10_beamOf 6 = .ok (.invokevirtual 221, 3) := by decide +kernel
theorem dX10_beamOf_9 : decode cX10_beamOf 9 = .ok (.ifCond .eq 5, 3) := by decide +kernel
theorem dX10_beamOf_12 : decode cX10_beamOf 12 = .ok (.iconst 0, 1) := by decide +kernel
theorem dX10_beamOf_13 : decode cX10_beamOf 13 = .ok (.ireturn, 1) := by decide +kernel
theorem dX10_beamOf_14 : decode cX10_beamOf 14 = .ok (.aload_n 0, 1) := by decide +kernel
theorem dX10_beamOf_15 : decode cX10_beamOf 15 = .ok (.iload_n 1, 1) := by decide +kernel
theorem dX10_beamOf_16 : decode cX10_beamOf 16 = .ok (.invokevirtual 244, 3) := by decide +kernel
theorem dX10_beamOf_19 : decode cX10_beamOf 19 = .ok (.ifCond .eq 12, 3) := by decide +kernel
theorem dX10_beamOf_22 : decode cX10_beamOf 22 = .ok (.aload_n 0, 1) := by decide +kernel
theorem dX10_beamOf_23 : decode cX10_beamOf 23 = .ok (.iload_n 1, 1) := by decide +kernel
theorem dX10_beamOf_24 : decode cX10_beamOf 24 = .ok (.iconst 0, 1) := by decide +kernel
theorem dX10_beamOf_25 : decode cX10_beamOf 25 = .ok (.invokevirtual 229, 3) := by decide +kernel
theorem dX10_beamOf_28 : decode cX10_beamOf 28 = .ok (.goto 5, 3) := by decide +kernel
theorem dX10_beamOf_31 : decode cX10_beamOf 31 = .ok (.bipush (-2), 2) := by decide +kernel
theorem dX10_beamOf_33 : decode cX10_beamOf 33 = .ok (.ireturn, 1) := by decide +kernel
set_option maxRecDepth 20000 in
theorem bX10_beamOf_0 {G : Gx} {mm : Nat → Nat → Int32} {lm : Nat → Int64} {x1 : Int32} {o : Ou} {z : Wd} {a b : Nat} (hw : ∃ (v2 : Int32), Ct G M_X10_isBell [.ref 63, .int x1] (SH, mm, lm) false (.inl (some (.int v2))) (SH, mm, lm) false 0 0 ∧ ∃ (v5 : Int32) (m6 : Nat → Nat → Int32), Ct G M_X10_isWrong [.ref 63, .int v2] (SH, mm, lm) false (.inl (some (.int v5))) (SH, m6, lm) false 0 0 ∧ ((v5 = 0) → J G M_X10_beamOf 14 [(0, .ref 63), (1, .int x1)] [] (SH, m6, lm) false o z false a b) ∧ ((¬ v5 = 0) → o = .inl (some (.int 0)) ∧ z = (SH, m6, lm))) :
    J G M_X10_beamOf 0 [(0, .ref 63), (1, .int x1)] [] (SH, mm, lm) false o z false a b := by
  refine J_aload_n rfl (i := 0) rfl dX10_beamOf_0 ?_
  refine J_aload_n rfl (i := 0) rfl dX10_beamOf_1 ?_
  refine J_iload_n rfl (i := 1) rfl dX10_beamOf_2 ?_
  obtain ⟨v2, hc1, hw⟩ := hw
  refine J_callV (as := [.int x1]) (k := 63) (st := [.ref 63]) cal_X10_isBell cai_X10_isBell gw_1671 ⟨by decide, by decide⟩ cnt_X10_isBell sh_63 rfl rfl (Nat.le_of_ble_eq_true rfl) dX10_beamOf_3 (Nat.zero_add _).symm (Nat.zero_add _).symm hc1 ?_
  obtain ⟨v5, m6, hc4, hw⟩ := hw
  refine J_callV (as := [.int v2]) (k := 63) (st := []) cal_X10_isWrong cai_X10_isWrong gw_1663 ⟨by decide, by decide⟩ cnt_X10_isWrong sh_63 rfl rfl (Nat.le_of_ble_eq_true rfl) dX10_beamOf_6 (Nat.zero_add _).symm (Nat.zero_add _).symm hc4 ?_
  refine J_if_eq (tgt := 14) dX10_beamOf_9 (by decide) (fun hb7 => ?_) (fun hb7 => ?_)
  · replace hw := hw.1 hb7
    exact hw
  · replace hw := hw.2 hb7
    refine J_iconst (v := 0) (by decide) dX10_beamOf_12 ?_
    exact J_fini (ty := .int) rfl rfl dX10_beamOf_13 hw
set_option maxRecDepth 20000 in
theorem bX10_beamOf_14 {G : Gx} {mm : Nat → Nat → Int32} {lm : Nat → Int64} {x1 : Int32} {o : Ou} {z : Wd} {a b : Nat} (hw : ∃ (v2 : Int32), Ct G M_X10_hangs [.ref 63, .int x1] (SH, mm, lm) false (.inl (some (.int v2))) (SH, mm, lm) false 0 0 ∧ ((v2 = 0) → o = .inl (some (.int (-2))) ∧ z = (SH, mm, lm)) ∧ ((¬ v2 = 0) → ∃ (v5 : Int32), Ct G M_X10_of [.ref 63, .int x1, .int 0] (SH, mm, lm) false (.inl (some (.int v5))) (SH, mm, lm) false 0 0 ∧ o = .inl (some (.int v5)) ∧ z = (SH, mm, lm))) :
    J G M_X10_beamOf 14 [(0, .ref 63), (1, .int x1)] [] (SH, mm, lm) false o z false a b := by
  refine J_aload_n rfl (i := 0) rfl dX10_beamOf_14 ?_
  refine J_iload_n rfl (i := 1) rfl dX10_beamOf_15 ?_
  obtain ⟨v2, hc1, hw⟩ := hw
  refine J_callV (as := [.int x1]) (k := 63) (st := []) cal_X10_hangs cai_X10_hangs gw_1684 ⟨by decide, by decide⟩ cnt_X10_hangs sh_63 rfl rfl (Nat.le_of_ble_eq_true rfl) dX10_beamOf_16 (Nat.zero_add _).symm (Nat.zero_add _).symm hc1 ?_
  refine J_if_eq (tgt := 31) dX10_beamOf_19 (by decide) (fun hb7 => ?_) (fun hb7 => ?_)
  · replace hw := hw.1 hb7
    refine J_bipush (v := (-2)) (by decide) dX10_beamOf_31 ?_
    exact J_fini (ty := .int) rfl rfl dX10_beamOf_33 hw
  · replace hw := hw.2 hb7
    refine J_aload_n rfl (i := 0) rfl dX10_beamOf_22 ?_
    refine J_iload_n rfl (i := 1) rfl dX10_beamOf_23 ?_
    refine J_iconst (v := 0) (by decide) dX10_beamOf_24 ?_
    obtain ⟨v5, hc4, hw⟩ := hw
    refine J_callV (as := [.int x1, .int 0]) (k := 63) (st := []) cal_X10_of cai_X10_of gw_1688 ⟨by decide, by decide⟩ cnt_X10_of sh_63 rfl rfl (Nat.le_of_ble_eq_true rfl) dX10_beamOf_25 (Nat.zero_add _).symm (Nat.zero_add _).symm hc4 ?_
    refine J_goto (tgt := 33) dX10_beamOf_28 (by decide) ?_
    exact J_fini (ty := .int) rfl rfl dX10_beamOf_33 hw
theorem dX10_positionOf_0 : decode cX10_positionOf 0 = .ok (.aload_n 0, 1) := by decide +kernel
theorem dX10_positionOf_1 : decode cX10_positionOf 1 = .ok (.aload_n 0, 1) := by decide +kernel
theorem dX10_positionOf_2 : decode cX10_positionOf 2 = .ok (.iload_n 1, 1) := by decide +kernel
theorem dX10_positionOf_3 : decode cX10_positionOf 3 = .ok (.invokevirtual 235, 3) := by decide +kernel
theorem dX10_positionOf_6 : decode cX10_positionOf 6 = .ok (.invokevirtual 221, 3) := by decide +kernel
theorem dX10_positionOf_9 : decode cX10_positionOf 9 = .ok (.ifCond .eq 5, 3) := by decide +kernel
theorem dX10_positionOf_12 : decode cX10_positionOf 12 = .ok (.iconst 0, 1) := by decide +kernel
theorem dX10_positionOf_13 : decode cX10_positionOf 13 = .ok (.ireturn, 1) := by decide +kernel
theorem dX10_positionOf_14 : decode cX10_positionOf 14 = .ok (.aload_n 0, 1) := by decide +kernel
theorem dX10_positionOf_15 : decode cX10_positionOf 15 = .ok (.aload_n 0, 1) := by decide +kernel
theorem dX10_positionOf_16 : decode cX10_positionOf 16 = .ok (.iload_n 1, 1) := by decide +kernel
theorem dX10_positionOf_17 : decode cX10_positionOf 17 = .ok (.invokevirtual 244, 3) := by decide +kernel
theorem dX10_positionOf_20 : decode cX10_positionOf 20 = .ok (.ifCond .eq 7, 3) := by decide +kernel
theorem dX10_positionOf_23 : decode cX10_positionOf 23 = .ok (.iconst 0, 1) := by decide +kernel
theorem dX10_positionOf_24 : decode cX10_positionOf 24 = .ok (.goto 4, 3) := by decide +kernel
theorem dX10_positionOf_27 : decode cX10_positionOf 27 = .ok (.iconst 3, 1) := by decide +kernel
theorem dX10_positionOf_28 : decode cX10_positionOf 28 = .ok (.putfield 77, 3) := by decide +kernel
theorem dX10_positionOf_31 : decode cX10_positionOf 31 = .ok (.aload_n 0, 1) := by decide +kernel
theorem dX10_positionOf_32 : decode cX10_positionOf 32 = .ok (.getfield 77, 3) := by decide +kernel
theorem dX10_positionOf_35 : decode cX10_positionOf 35 = .ok (.ifCond .le 7, 3) := by decide +kernel
theorem dX10_positionOf_38 : decode cX10_positionOf 38 = .ok (.iconst 0, 1) := by decide +kernel
theorem dX10_positionOf_39 : decode cX10_positionOf 39 = .ok (.goto 9, 3) := by decide +kernel
theorem dX10_positionOf_42 : decode cX10_positionOf 42 = .ok (.aload_n 0, 1) := by decide +kernel
theorem dX10_positionOf_43 : decode cX10_positionOf 43 = .ok (.iload_n 1, 1) := by decide +kernel
theorem dX10_positionOf_44 : decode cX10_positionOf 44 = .ok (.iconst 1, 1) := by decide +kernel
theorem dX10_positionOf_45 : decode cX10_positionOf 45 = .ok (.invokevirtual 229, 3) := by decide +kernel
theorem dX10_positionOf_48 : decode cX10_positionOf 48 = .ok (.ireturn, 1) := by decide +kernel
set_option maxRecDepth 20000 in
theorem bX10_positionOf_0 {G : Gx} {mm : Nat → Nat → Int32} {lm : Nat → Int64} {x1 : Int32} {o : Ou} {z : Wd} {a b : Nat} (hw : ∃ (v2 : Int32), Ct G M_X10_isBell [.ref 63, .int x1] (SH, mm, lm) false (.inl (some (.int v2))) (SH, mm, lm) false 0 0 ∧ ∃ (v5 : Int32) (m6 : Nat → Nat → Int32), Ct G M_X10_isWrong [.ref 63, .int v2] (SH, mm, lm) false (.inl (some (.int v5))) (SH, m6, lm) false 0 0 ∧ ((v5 = 0) → J G M_X10_positionOf 14 [(0, .ref 63), (1, .int x1)] [] (SH, m6, lm) false o z false a b) ∧ ((¬ v5 = 0) → o = .inl (some (.int 0)) ∧ z = (SH, m6, lm))) :
    J G M_X10_positionOf 0 [(0, .ref 63), (1, .int x1)] [] (SH, mm, lm) false o z false a b := by
  refine J_aload_n rfl (i := 0) rfl dX10_positionOf_0 ?_
  refine J_aload_n rfl (i := 0) rfl dX10_positionOf_1 ?_
  refine J_iload_n rfl (i := 1) rfl dX10_positionOf_2 ?_
  obtain ⟨v2, hc1, hw⟩ := hw
  refine J_callV (as := [.int x1]) (k := 63) (st := [.ref 63]) cal_X10_isBell cai_X10_isBell gw_1671 ⟨by decide, by decide⟩ cnt_X10_isBell sh_63 rfl rfl (Nat.le_of_ble_eq_true rfl) dX10_positionOf_3 (Nat.zero_add _).symm (Nat.zero_add _).symm hc1 ?_
  obtain ⟨v5, m6, hc4, hw⟩ := hw
  refine J_callV (as := [.int v2]) (k := 63) (st := []) cal_X10_isWrong cai_X10_isWrong gw_1663 ⟨by decide, by decide⟩ cnt_X10_isWrong sh_63 rfl rfl (Nat.le_of_ble_eq_true rfl) dX10_positionOf_6 (Nat.zero_add _).symm (Nat.zero_add _).symm hc4 ?_
  refine J_if_eq (tgt := 14) dX10_positionOf_9 (by decide) (fun hb7 => ?_) (fun hb7 => ?_)
  · replace hw := hw.1 hb7
    exact hw
  · replace hw := hw.2 hb7
    refine J_iconst (v := 0) (by decide) dX10_positionOf_12 ?_
    exact J_fini (ty := .int) rfl rfl dX10_positionOf_13 hw
set_option maxRecDepth 20000 in
theorem bX10_positionOf_14 {G : Gx} {mm : Nat → Nat → Int32} {lm : Nat → Int64} {x1 : Int32} {o : Ou} {z : Wd} {a b : Nat} (hw : ∃ (v2 : Int32), Ct G M_X10_hangs [.ref 63, .int x1] (SH, mm, lm) false (.inl (some (.int v2))) (SH, mm, lm) false 0 0 ∧ ((v2 = 0) → ((((mset mm 63 4 3) 63 4) ≤ 0) → ∃ (v5 : Int32), Ct G M_X10_of [.ref 63, .int x1, .int 1] (SH, (mset mm 63 4 3), lm) false (.inl (some (.int v5))) (SH, (mset mm 63 4 3), lm) false 0 0 ∧ o = .inl (some (.int v5)) ∧ z = (SH, (mset mm 63 4 3), lm)) ∧ ((¬ ((mset mm 63 4 3) 63 4) ≤ 0) → o = .inl (some (.int 0)) ∧ z = (SH, (mset mm 63 4 3), lm))) ∧ ((¬ v2 = 0) → ((((mset mm 63 4 0) 63 4) ≤ 0) → ∃ (v9 : Int32), Ct G M_X10_of [.ref 63, .int x1, .int 1] (SH, (mset mm 63 4 0), lm) false (.inl (some (.int v9))) (SH, (mset mm 63 4 0), lm) false 0 0 ∧ o = .inl (some (.int v9)) ∧ z = (SH, (mset mm 63 4 0), lm)) ∧ ((¬ ((mset mm 63 4 0) 63 4) ≤ 0) → o = .inl (some (.int 0)) ∧ z = (SH, (mset mm 63 4 0), lm)))) :
    J G M_X10_positionOf 14 [(0, .ref 63), (1, .int x1)] [] (SH, mm, lm) false o z false a b := by
  refine J_aload_n rfl (i := 0) rfl dX10_positionOf_14 ?_
  refine J_aload_n rfl (i := 0) rfl dX10_positionOf_15 ?_
  refine J_iload_n rfl (i := 1) rfl dX10_positionOf_16 ?_
  obtain ⟨v2, hc1, hw⟩ := hw
  refine J_callV (as := [.int x1]) (k := 63) (st := [.ref 63]) cal_X10_hangs cai_X10_hangs gw_1684 ⟨by decide, by decide⟩ cnt_X10_hangs sh_63 rfl rfl (Nat.le_of_ble_eq_true rfl) dX10_positionOf_17 (Nat.zero_add _).symm (Nat.zero_add _).symm hc1 ?_
  refine J_if_eq (tgt := 27) dX10_positionOf_20 (by decide) (fun hb12 => ?_) (fun hb12 => ?_)
  · replace hw := hw.1 hb12
    refine J_iconst (v := 3) (by decide) dX10_positionOf_27 ?_
    refine J_puti kls_10 (q := 63) (k := 4) sh_63 (by decide) rfl rfl (fun _ => rfl) (fun _ => rfl) gw_1437 dX10_positionOf_28 ?_
    refine J_aload_n rfl (i := 0) rfl dX10_positionOf_31 ?_
    refine J_geti kls_10 (q := 63) (k := 4) sh_63 (by decide) rfl gw_1437 dX10_positionOf_32 ?_
    refine J_if_le (tgt := 42) dX10_positionOf_35 (by decide) (fun hb7 => ?_) (fun hb7 => ?_)
    · replace hw := hw.1 hb7
      refine J_aload_n rfl (i := 0) rfl dX10_positionOf_42 ?_
      refine J_iload_n rfl (i := 1) rfl dX10_positionOf_43 ?_
      refine J_iconst (v := 1) (by decide) dX10_positionOf_44 ?_
      obtain ⟨v5, hc4, hw⟩ := hw
      refine J_callV (as := [.int x1, .int 1]) (k := 63) (st := []) cal_X10_of cai_X10_of gw_1688 ⟨by decide, by decide⟩ cnt_X10_of sh_63 rfl rfl (Nat.le_of_ble_eq_true rfl) dX10_positionOf_45 (Nat.zero_add _).symm (Nat.zero_add _).symm hc4 ?_
      exact J_fini (ty := .int) rfl rfl dX10_positionOf_48 hw
    · replace hw := hw.2 hb7
      refine J_iconst (v := 0) (by decide) dX10_positionOf_38 ?_
      refine J_goto (tgt := 48) dX10_positionOf_39 (by decide) ?_
      exact J_fini (ty := .int) rfl rfl dX10_positionOf_48 hw
  · replace hw := hw.2 hb12
    refine J_iconst (v := 0) (by decide) dX10_positionOf_23 ?_
    refine J_goto (tgt := 28) dX10_positionOf_24 (by decide) ?_
    refine J_puti kls_10 (q := 63) (k := 4) sh_63 (by decide) rfl rfl (fun _ => rfl) (fun _ => rfl) gw_1437 dX10_positionOf_28 ?_
    refine J_aload_n rfl (i := 0) rfl dX10_positionOf_31 ?_
    refine J_geti kls_10 (q := 63) (k := 4) sh_63 (by decide) rfl gw_1437 dX10_positionOf_32 ?_
    refine J_if_le (tgt := 42) dX10_positionOf_35 (by decide) (fun hb11 => ?_) (fun hb11 => ?_)
    · replace hw := hw.1 hb11
      refine J_aload_n rfl (i := 0) rfl dX10_positionOf_42 ?_
      refine J_iload_n rfl (i := 1) rfl dX10_positionOf_43 ?_
      refine J_iconst (v := 1) (by decide) dX10_positionOf_44 ?_
      obtain ⟨v9, hc8, hw⟩ := hw
      refine J_callV (as := [.int x1, .int 1]) (k := 63) (st := []) cal_X10_of cai_X10_of gw_1688 ⟨by decide, by decide⟩ cnt_X10_of sh_63 rfl rfl (Nat.le_of_ble_eq_true rfl) dX10_positionOf_45 (Nat.zero_add _).symm (Nat.zero_add _).symm hc8 ?_
      exact J_fini (ty := .int) rfl rfl dX10_positionOf_48 hw
    · replace hw := hw.2 hb11
      refine J_iconst (v := 0) (by decide) dX10_positionOf_38 ?_
      refine J_goto (tgt := 48) dX10_positionOf_39 (by decide) ?_
      exact J_fini (ty := .int) rfl rfl dX10_positionOf_48 hw
theorem dX10_torque_0 : decode cX10_torque 0 = .ok (.aload_n 0, 1) := by decide +kernel
theorem dX10_torque_1 : decode cX10_torque 1 = .ok (.aload_n 0, 1) := by decide +kernel
theorem dX10_torque_2 : decode cX10_torque 2 = .ok (.iload_n 1, 1) := by decide +kernel
theorem dX10_torque_3 : decode cX10_torque 3 = .ok (.invokevirtual 238, 3) := by decide +kernel
theorem dX10_torque_6 : decode cX10_torque 6 = .ok (.invokevirtual 221, 3) := by decide +kernel
theorem dX10_torque_9 : decode cX10_torque 9 = .ok (.ifCond .eq 7, 3) := by decide +kernel
theorem dX10_torque_12 : decode cX10_torque 12 = .ok (.iconst 0, 1) := by decide +kernel
theorem dX10_torque_13 : decode cX10_torque 13 = .ok (.goto 8, 3) := by decide +kernel
theorem dX10_torque_16 : decode cX10_torque 16 = .ok (.aload_n 0, 1) := by decide +kernel
theorem dX10_torque_17 : decode cX10_torque 17 = .ok (.iload_n 1, 1) := by decide +kernel
theorem dX10_torque_18 : decode cX10_torque 18 = .ok (.invokevirtual 251, 3) := by decide +kernel
theorem dX10_torque_21 : decode cX10_torque 21 = .ok (.ireturn, 1) := by decide +kernel
set_option maxRecDepth 20000 in
theorem bX10_torque_0 {G : Gx} {mm : Nat → Nat → Int32} {lm : Nat → Int64} {x1 : Int32} {o : Ou} {z : Wd} {a b : Nat} (hw : ∃ (v2 : Int32), Ct G M_X10_isBeam [.ref 63, .int x1] (SH, mm, lm) false (.inl (some (.int v2))) (SH, mm, lm) false 0 0 ∧ ∃ (v5 : Int32) (m6 : Nat → Nat → Int32), Ct G M_X10_isWrong [.ref 63, .int v2] (SH, mm, lm) false (.inl (some (.int v5))) (SH, m6, lm) false 0 0 ∧ ((v5 = 0) → J G M_X10_torque 16 [(0, .ref 63), (1, .int x1)] [] (SH, m6, lm) false o z false a b) ∧ ((¬ v5 = 0) → o = .inl (some (.int 0)) ∧ z = (SH, m6, lm))) :
    J G M_X10_torque 0 [(0, .ref 63), (1, .int x1)] [] (SH, mm, lm) false o z false a b := by
  refine J_aload_n rfl (i := 0) rfl dX10_torque_0 ?_
  refine J_aload_n rfl (i := 0) rfl dX10_torque_1 ?_
  refine J_iload_n rfl (i := 1) rfl dX10_torque_2 ?_
  obtain ⟨v2, hc1, hw⟩ := hw
  refine J_callV (as := [.int x1]) (k := 63) (st := [.ref 63]) cal_X10_isBeam cai_X10_isBeam gw_1675 ⟨by decide, by decide⟩ cnt_X10_isBeam sh_63 rfl rfl (Nat.le_of_ble_eq_true rfl) dX10_torque_3 (Nat.zero_add _).symm (Nat.zero_add _).symm hc1 ?_
  obtain ⟨v5, m6, hc4, hw⟩ := hw
  refine J_callV (as := [.int v2]) (k := 63) (st := []) cal_X10_isWrong cai_X10_isWrong gw_1663 ⟨by decide, by decide⟩ cnt_X10_isWrong sh_63 rfl rfl (Nat.le_of_ble_eq_true rfl) dX10_torque_6 (Nat.zero_add _).symm (Nat.zero_add _).symm hc4 ?_
  refine J_if_eq (tgt := 16) dX10_torque_9 (by decide) (fun hb7 => ?_) (fun hb7 => ?_)
  · replace hw := hw.1 hb7
    exact hw
  · replace hw := hw.2 hb7
    refine J_iconst (v := 0) (by decide) dX10_torque_12 ?_
    refine J_goto (tgt := 21) dX10_torque_13 (by decide) ?_
    exact J_fini (ty := .int) rfl rfl dX10_torque_21 hw
set_option maxRecDepth 20000 in
theorem bX10_torque_16 {G : Gx} {mm : Nat → Nat → Int32} {lm : Nat → Int64} {x1 : Int32} {o : Ou} {z : Wd} {a b : Nat} (hw : ∃ (v2 : Int32), Ct G M_X10_pull [.ref 63, .int x1] (SH, mm, lm) false (.inl (some (.int v2))) (SH, mm, lm) false 0 0 ∧ o = .inl (some (.int v2)) ∧ z = (SH, mm, lm)) :
    J G M_X10_torque 16 [(0, .ref 63), (1, .int x1)] [] (SH, mm, lm) false o z false a b := by
  refine J_aload_n rfl (i := 0) rfl dX10_torque_16 ?_
  refine J_iload_n rfl (i := 1) rfl dX10_torque_17 ?_
  obtain ⟨v2, hc1, hw⟩ := hw
  refine J_callV (as := [.int x1]) (k := 63) (st := []) cal_X10_pull cai_X10_pull gw_1699 ⟨by decide, by decide⟩ cnt_X10_pull sh_63 rfl rfl (Nat.le_of_ble_eq_true rfl) dX10_torque_18 (Nat.zero_add _).symm (Nat.zero_add _).symm hc1 ?_
  exact J_fini (ty := .int) rfl rfl dX10_torque_21 hw
theorem dX10_bellAt_0 : decode cX10_bellAt 0 = .ok (.aload_n 0, 1) := by decide +kernel
theorem dX10_bellAt_1 : decode cX10_bellAt 1 = .ok (.aload_n 0, 1) := by decide +kernel
theorem dX10_bellAt_2 : decode cX10_bellAt 2 = .ok (.iload_n 1, 1) := by decide +kernel
theorem dX10_bellAt_3 : decode cX10_bellAt 3 = .ok (.invokevirtual 238, 3) := by decide +kernel
theorem dX10_bellAt_6 : decode cX10_bellAt 6 = .ok (.ifCond .eq 11, 3) := by decide +kernel
theorem dX10_bellAt_9 : decode cX10_bellAt 9 = .ok (.iload_n 2, 1) := by decide +kernel
theorem dX10_bellAt_10 : decode cX10_bellAt 10 = .ok (.ifCond .lt 7, 3) := by decide +kernel
theorem dX10_bellAt_13 : decode cX10_bellAt 13 = .ok (.iconst 1, 1) := by decide +kernel
theorem dX10_bellAt_14 : decode cX10_bellAt 14 = .ok (.goto 4, 3) := by decide +kernel
theorem dX10_bellAt_17 : decode cX10_bellAt 17 = .ok (.iconst 0, 1) := by decide +kernel
theorem dX10_bellAt_18 : decode cX10_bellAt 18 = .ok (.invokevirtual 221, 3) := by decide +kernel
theorem dX10_bellAt_21 : decode cX10_bellAt 21 = .ok (.ifCond .eq 5, 3) := by decide +kernel
theorem dX10_bellAt_24 : decode cX10_bellAt 24 = .ok (.iconst 0, 1) := by decide +kernel
theorem dX10_bellAt_25 : decode cX10_bellAt 25 = .ok (.ireturn, 1) := by decide +kernel
theorem dX10_bellAt_26 : decode cX10_bellAt 26 = .ok (.iconst 0, 1) := by decide +kernel
theorem dX10_bellAt_27 : decode cX10_bellAt 27 = .ok (.istore_n 3, 1) := by decide +kernel
theorem dX10_bellAt_28 : decode cX10_bellAt 28 = .ok (.iload_n 3, 1) := by decide +kernel
theorem dX10_bellAt_29 : decode cX10_bellAt 29 = .ok (.aload_n 0, 1) := by decide +kernel
theorem dX10_bellAt_30 : decode cX10_bellAt 30 = .ok (.getfield 206, 3) := by decide +kernel
theorem dX10_bellAt_33 : decode cX10_bellAt 33 = .ok (.if_icmp .ge 88, 3) := by decide +kernel
theorem dX10_bellAt_36 : decode cX10_bellAt 36 = .ok (.aload_n 0, 1) := by decide +kernel
theorem dX10_bellAt_37 : decode cX10_bellAt 37 = .ok (.iload_n 3, 1) := by decide +kernel
theorem dX10_bellAt_38 : decode cX10_bellAt 38 = .ok (.iconst 0, 1) := by decide +kernel
theorem dX10_bellAt_39 : decode cX10_bellAt 39 = .ok (.invokevirtual 229, 3) := by decide +kernel
theorem dX10_bellAt_42 : decode cX10_bellAt 42 = .ok (.iload_n 1, 1) := by decide +kernel
theorem dX10_bellAt_43 : decode cX10_bellAt 43 = .ok (.if_icmp .eq 6, 3) := by decide +kernel
theorem dX10_bellAt_46 : decode cX10_bellAt 46 = .ok (.goto 69, 3) := by decide +kernel
theorem dX10_bellAt_49 : decode cX10_bellAt 49 = .ok (.iconst 0, 1) := by decide +kernel
theorem dX10_bellAt_50 : decode cX10_bellAt 50 = .ok (.istore 4, 2) := by decide +kernel
theorem dX10_bellAt_52 : decode cX10_bellAt 52 = .ok (.iconst 0, 1) := by decide +kernel
theorem dX10_bellAt_53 : decode cX10_bellAt 53 = .ok (.istore 5, 2) := by decide +kernel
theorem dX10_bellAt_55 : decode cX10_bellAt 55 = .ok (.iload 5, 2) := by decide +kernel
theorem dX10_bellAt_57 : decode cX10_bellAt 57 = .ok (.aload_n 0, 1) := by decide +kernel
theorem dX10_bellAt_58 : decode cX10_bellAt 58 = .ok (.getfield 206, 3) := by decide +kernel
theorem dX10_bellAt_61 : decode cX10_bellAt 61 = .ok (.if_icmp .ge 46, 3) := by decide +kernel
theorem dX10_bellAt_64 : decode cX10_bellAt 64 = .ok (.iload 4, 2) := by decide +kernel
theorem dX10_bellAt_66 : decode cX10_bellAt 66 = .ok (.aload_n 0, 1) := by decide +kernel
theorem dX10_bellAt_67 : decode cX10_bellAt 67 = .ok (.iload 5, 2) := by decide +kernel
theorem dX10_bellAt_69 : decode cX10_bellAt 69 = .ok (.iconst 0, 1) := by decide +kernel
theorem dX10_bellAt_70 : decode cX10_bellAt 70 = .ok (.invokevirtual 229, 3) := by decide +kernel
theorem dX10_bellAt_73 : decode cX10_bellAt 73 = .ok (.iload_n 1, 1) := by decide +kernel
theorem dX10_bellAt_74 : decode cX10_bellAt 74 = .ok (.if_icmp .ne 23, 3) := by decide +kernel
theorem dX10_bellAt_77 : decode cX10_bellAt 77 = .ok (.aload_n 0, 1) := by decide +kernel
theorem dX10_bellAt_78 : decode cX10_bellAt 78 = .ok (.iload 5, 2) := by decide +kernel
theorem dX10_bellAt_80 : decode cX10_bellAt 80 = .ok (.iconst 1, 1) := by decide +kernel
theorem dX10_bellAt_81 : decode cX10_bellAt 81 = .ok (.invokevirtual 229, 3) := by decide +kernel
theorem dX10_bellAt_84 : decode cX10_bellAt 84 = .ok (.aload_n 0, 1) := by decide +kernel
theorem dX10_bellAt_85 : decode cX10_bellAt 85 = .ok (.iload_n 3, 1) := by decide +kernel
theorem dX10_bellAt_86 : decode cX10_bellAt 86 = .ok (.iconst 1, 1) := by decide +kernel
theorem dX10_bellAt_87 : decode cX10_bellAt 87 = .ok (.invokevirtual 229, 3) := by decide +kernel
theorem dX10_bellAt_90 : decode cX10_bellAt 90 = .ok (.if_icmp .ge 7, 3) := by decide +kernel
theorem dX10_bellAt_93 : decode cX10_bellAt 93 = .ok (.iconst 1, 1) := by decide +kernel
theorem dX10_bellAt_94 : decode cX10_bellAt 94 = .ok (.goto 4, 3) := by decide +kernel
theorem dX10_bellAt_97 : decode cX10_bellAt 97 = .ok (.iconst 0, 1) := by decide +kernel
theorem dX10_bellAt_98 : decode cX10_bellAt 98 = .ok (.iadd, 1) := by decide +kernel
theorem dX10_bellAt_99 : decode cX10_bellAt 99 = .ok (.istore 4, 2) := by decide +kernel
theorem dX10_bellAt_101 : decode cX10_bellAt 101 = .ok (.iinc 5 1, 3) := by decide +kernel
theorem dX10_bellAt_104 : decode cX10_bellAt 104 = .ok (.goto (-49), 3) := by decide +kernel
theorem dX10_bellAt_107 : decode cX10_bellAt 107 = .ok (.iload 4, 2) := by decide +kernel
theorem dX10_bellAt_109 : decode cX10_bellAt 109 = .ok (.iload_n 2, 1) := by decide +kernel
theorem dX10_bellAt_110 : decode cX10_bellAt 110 = .ok (.if_icmp .ne 5, 3) := by decide +kernel
theorem dX10_bellAt_113 : decode cX10_bellAt 113 = .ok (.iload_n 3, 1) := by decide +kernel
theorem dX10_bellAt_114 : decode cX10_bellAt 114 = .ok (.ireturn, 1) := by decide +kernel
theorem dX10_bellAt_115 : decode cX10_bellAt 115 = .ok (.iinc 3 1, 3) := by decide +kernel
theorem dX10_bellAt_118 : decode cX10_bellAt 118 = .ok (.goto (-90), 3) := by decide +kernel
theorem dX10_bellAt_121 : decode cX10_bellAt 121 = .ok (.bipush (-2), 2) := by decide +kernel
theorem dX10_bellAt_123 : decode cX10_bellAt 123 = .ok (.ireturn, 1) := by decide +kernel
set_option maxRecDepth 20000 in
theorem bX10_bellAt_0 {G : Gx} {mm : Nat → Nat → Int32} {lm : Nat → Int64} {x1 : Int32} {x2 : Int32} {o : Ou} {z : Wd} {a b : Nat} (hw : ∃ (v2 : Int32), Ct G M_X10_isBeam [.ref 63, .int x1] (SH, mm, lm) false (.inl (some (.int v2))) (SH, mm, lm) false 0 0 ∧ ((v2 = 0) → ∃ (v5 : Int32) (m6 : Nat → Nat → Int32), Ct G M_X10_isWrong [.ref 63, .int 0] (SH, mm, lm) false (.inl (some (.int v5))) (SH, m6, lm) false 0 0 ∧ ((v5 = 0) → J G M_X10_bellAt 26 [(0, .ref 63), (1, .int x1), (2, .int x2)] [] (SH, m6, lm) false o z false a b) ∧ ((¬ v5 = 0) → o = .inl (some (.int 0)) ∧ z = (SH, m6, lm))) ∧ ((¬ v2 = 0) → ((x2 < 0) → ∃ (v9 : Int32) (m10 : Nat → Nat → Int32), Ct G M_X10_isWrong [.ref 63, .int 0] (SH, mm, lm) false (.inl (some (.int v9))) (SH, m10, lm) false 0 0 ∧ ((v9 = 0) → J G M_X10_bellAt 26 [(0, .ref 63), (1, .int x1), (2, .int x2)] [] (SH, m10, lm) false o z false a b) ∧ ((¬ v9 = 0) → o = .inl (some (.int 0)) ∧ z = (SH, m10, lm))) ∧ ((¬ x2 < 0) → ∃ (v13 : Int32) (m14 : Nat → Nat → Int32), Ct G M_X10_isWrong [.ref 63, .int 1] (SH, mm, lm) false (.inl (some (.int v13))) (SH, m14, lm) false 0 0 ∧ ((v13 = 0) → J G M_X10_bellAt 26 [(0, .ref 63), (1, .int x1), (2, .int x2)] [] (SH, m14, lm) false o z false a b) ∧ ((¬ v13 = 0) → o = .inl (some (.int 0)) ∧ z = (SH, m14, lm))))) :
    J G M_X10_bellAt 0 [(0, .ref 63), (1, .int x1), (2, .int x2)] [] (SH, mm, lm) false o z false a b := by
  refine J_aload_n rfl (i := 0) rfl dX10_bellAt_0 ?_
  refine J_aload_n rfl (i := 0) rfl dX10_bellAt_1 ?_
  refine J_iload_n rfl (i := 1) rfl dX10_bellAt_2 ?_
  obtain ⟨v2, hc1, hw⟩ := hw
  refine J_callV (as := [.int x1]) (k := 63) (st := [.ref 63]) cal_X10_isBeam cai_X10_isBeam gw_1675 ⟨by decide, by decide⟩ cnt_X10_isBeam sh_63 rfl rfl (Nat.le_of_ble_eq_true rfl) dX10_bellAt_3 (Nat.zero_add _).symm (Nat.zero_add _).symm hc1 ?_
  refine J_if_eq (tgt := 17) dX10_bellAt_6 (by decide) (fun hb17 => ?_) (fun hb17 => ?_)
  · replace hw := hw.1 hb17
    refine J_iconst (v := 0) (by decide) dX10_bellAt_17 ?_
    obtain ⟨v5, m6, hc4, hw⟩ := hw
    refine J_callV (as := [.int 0]) (k := 63) (st := []) cal_X10_isWrong cai_X10_isWrong gw_1663 ⟨by decide, by decide⟩ cnt_X10_isWrong sh_63 rfl rfl (Nat.le_of_ble_eq_true rfl) dX10_bellAt_18 (Nat.zero_add _).symm (Nat.zero_add _).symm hc4 ?_
    refine J_if_eq (tgt := 26) dX10_bellAt_21 (by decide) (fun hb7 => ?_) (fun hb7 => ?_)
    · replace hw := hw.1 hb7
      exact hw
    · replace hw := hw.2 hb7
      refine J_iconst (v := 0) (by decide) dX10_bellAt_24 ?_
      exact J_fini (ty := .int) rfl rfl dX10_bellAt_25 hw
  · replace hw := hw.2 hb17
    refine J_iload_n rfl (i := 2) rfl dX10_bellAt_9 ?_
    refine J_if_lt (tgt := 17) dX10_bellAt_10 (by decide) (fun hb16 => ?_) (fun hb16 => ?_)
    · replace hw := hw.1 hb16
      refine J_iconst (v := 0) (by decide) dX10_bellAt_17 ?_
      obtain ⟨v9, m10, hc8, hw⟩ := hw
      refine J_callV (as := [.int 0]) (k := 63) (st := []) cal_X10_isWrong cai_X10_isWrong gw_1663 ⟨by decide, by decide⟩ cnt_X10_isWrong sh_63 rfl rfl (Nat.le_of_ble_eq_true rfl) dX10_bellAt_18 (Nat.zero_add _).symm (Nat.zero_add _).symm hc8 ?_
      refine J_if_eq (tgt := 26) dX10_bellAt_21 (by decide) (fun hb11 => ?_) (fun hb11 => ?_)
      · replace hw := hw.1 hb11
        exact hw
      · replace hw := hw.2 hb11
        refine J_iconst (v := 0) (by decide) dX10_bellAt_24 ?_
        exact J_fini (ty := .int) rfl rfl dX10_bellAt_25 hw
    · replace hw := hw.2 hb16
      refine J_iconst (v := 1) (by decide) dX10_bellAt_13 ?_
      refine J_goto (tgt := 18) dX10_bellAt_14 (by decide) ?_
      obtain ⟨v13, m14, hc12, hw⟩ := hw
      refine J_callV (as := [.int 1]) (k := 63) (st := []) cal_X10_isWrong cai_X10_isWrong gw_1663 ⟨by decide, by decide⟩ cnt_X10_isWrong sh_63 rfl rfl (Nat.le_of_ble_eq_true rfl) dX10_bellAt_18 (Nat.zero_add _).symm (Nat.zero_add _).symm hc12 ?_
      refine J_if_eq (tgt := 26) dX10_bellAt_21 (by decide) (fun hb15 => ?_) (fun hb15 => ?_)
      · replace hw := hw.1 hb15
        exact hw
      · replace hw := hw.2 hb15
        refine J_iconst (v := 0) (by decide) dX10_bellAt_24 ?_
        exact J_fini (ty := .int) rfl rfl dX10_bellAt_25 hw
set_option maxRecDepth 20000 in
theorem bX10_bellAt_26 {G : Gx} {mm : Nat → Nat → Int32} {lm : Nat → Int64} {x1 : Int32} {x2 : Int32} {o : Ou} {z : Wd} {a b : Nat} (hw : J G M_X10_bellAt 28 [(0, .ref 63), (1, .int x1), (2, .int x2), (3, .int 0)] [] (SH, mm, lm) false o z false a b) :
    J G M_X10_bellAt 26 [(0, .ref 63), (1, .int x1), (2, .int x2)] [] (SH, mm, lm) false o z false a b := by
  refine J_iconst (v := 0) (by decide) dX10_bellAt_26 ?_
  refine J_istore_n [(3, .int 0), (0, .ref 63), (1, .int x1), (2, .int x2)] rfl (i := 3) (by decide) rfl dX10_bellAt_27 ?_
  exact J_sub [1, 2, 3, 0] rfl hw
set_option maxRecDepth 20000 in
theorem bX10_bellAt_28 {G : Gx} {mm : Nat → Nat → Int32} {lm : Nat → Int64} {x1 : Int32} {x2 : Int32} {x3 : Int32} {o : Ou} {z : Wd} {a b : Nat} (hw : (((mm 63 8) ≤ x3) → o = .inl (some (.int (-2))) ∧ z = (SH, mm, lm)) ∧ ((¬ (mm 63 8) ≤ x3) → ∃ (v2 : Int32), Ct G M_X10_of [.ref 63, .int x3, .int 0] (SH, mm, lm) false (.inl (some (.int v2))) (SH, mm, lm) false 0 0 ∧ ((v2 = x1) → J G M_X10_bellAt 55 [(0, .ref 63), (1, .int x1), (2, .int x2), (3, .int x3), (4, .int 0), (5, .int 0)] [] (SH, mm, lm) false o z false a b) ∧ ((¬ v2 = x1) → J G M_X10_bellAt 28 [(0, .ref 63), (1, .int x1), (2, .int x2), (3, .int (x3 + 1))] [] (SH, mm, lm) false o z false a b))) :
    J G M_X10_bellAt 28 [(0, .ref 63), (1, .int x1), (2, .int x2), (3, .int x3)] [] (SH, mm, lm) false o z false a b := by
  refine J_iload_n rfl (i := 3) rfl dX10_bellAt_28 ?_
  refine J_aload_n rfl (i := 0) rfl dX10_bellAt_29 ?_
  refine J_geti kls_10 (q := 63) (k := 8) sh_63 (by decide) rfl gw_1441 dX10_bellAt_30 ?_
  refine J_icmp_ge (tgt := 121) dX10_bellAt_33 (by decide) (fun hb5 => ?_) (fun hb5 => ?_)
  · replace hw := hw.1 hb5
    refine J_bipush (v := (-2)) (by decide) dX10_bellAt_121 ?_
    exact J_fini (ty := .int) rfl rfl dX10_bellAt_123 hw
  · replace hw := hw.2 hb5
    refine J_aload_n rfl (i := 0) rfl dX10_bellAt_36 ?_
    refine J_iload_n rfl (i := 3) rfl dX10_bellAt_37 ?_
    refine J_iconst (v := 0) (by decide) dX10_bellAt_38 ?_
    obtain ⟨v2, hc1, hw⟩ := hw
    refine J_callV (as := [.int x3, .int 0]) (k := 63) (st := []) cal_X10_of cai_X10_of gw_1688 ⟨by decide, by decide⟩ cnt_X10_of sh_63 rfl rfl (Nat.le_of_ble_eq_true rfl) dX10_bellAt_39 (Nat.zero_add _).symm (Nat.zero_add _).symm hc1 ?_
    refine J_iload_n rfl (i := 1) rfl dX10_bellAt_42 ?_
    refine J_icmp_eq (tgt := 49) dX10_bellAt_43 (by decide) (fun hb4 => ?_) (fun hb4 => ?_)
    · replace hw := hw.1 hb4
      refine J_iconst (v := 0) (by decide) dX10_bellAt_49 ?_
      refine J_istore [(4, .int 0), (0, .ref 63), (1, .int x1), (2, .int x2), (3, .int x3)] (i := 4) (by decide) rfl dX10_bellAt_50 ?_
      refine J_iconst (v := 0) (by decide) dX10_bellAt_52 ?_
      refine J_istore [(5, .int 0), (4, .int 0), (0, .ref 63), (1, .int x1), (2, .int x2), (3, .int x3)] (i := 5) (by decide) rfl dX10_bellAt_53 ?_
      exact J_sub [2, 3, 4, 5, 1, 0] rfl hw
    · replace hw := hw.2 hb4
      refine J_goto (tgt := 115) dX10_bellAt_46 (by decide) ?_
      refine J_iinc [(3, .int (x3 + 1)), (0, .ref 63), (1, .int x1), (2, .int x2)] (i := 3) (v := (x3 + 1)) rfl rfl (by decide) rfl dX10_bellAt_115 ?_
      refine J_goto (tgt := 28) dX10_bellAt_118 (by decide) ?_
      exact J_sub [1, 2, 3, 0] rfl hw
set_option maxRecDepth 20000 in
theorem bX10_bellAt_55 {G : Gx} {mm : Nat → Nat → Int32} {lm : Nat → Int64} {x1 : Int32} {x2 : Int32} {x3 : Int32} {x4 : Int32} {x5 : Int32} {o : Ou} {z : Wd} {a b : Nat} (hw : (((mm 63 8) ≤ x5) → ((¬ x4 = x2) → J G M_X10_bellAt 28 [(0, .ref 63), (1, .int x1), (2, .int x2), (3, .int (x3 + 1))] [] (SH, mm, lm) false o z false a b) ∧ ((x4 = x2) → o = .inl (some (.int x3)) ∧ z = (SH, mm, lm))) ∧ ((¬ (mm 63 8) ≤ x5) → ∃ (v3 : Int32), Ct G M_X10_of [.ref 63, .int x5, .int 0] (SH, mm, lm) false (.inl (some (.int v3))) (SH, mm, lm) false 0 0 ∧ ((¬ v3 = x1) → J G M_X10_bellAt 55 [(0, .ref 63), (1, .int x1), (2, .int x2), (3, .int x3), (4, .int (x4 + 0)), (5, .int (x5 + 1))] [] (SH, mm, lm) false o z false a b) ∧ ((v3 = x1) → ∃ (v6 : Int32), Ct G M_X10_of [.ref 63, .int x5, .int 1] (SH, mm, lm) false (.inl (some (.int v6))) (SH, mm, lm) false 0 0 ∧ ∃ (v9 : Int32), Ct G M_X10_of [.ref 63, .int x3, .int 1] (SH, mm, lm) false (.inl (some (.int v9))) (SH, mm, lm) false 0 0 ∧ ((v9 ≤ v6) → J G M_X10_bellAt 55 [(0, .ref 63), (1, .int x1), (2, .int x2), (3, .int x3), (4, .int (x4 + 0)), (5, .int (x5 + 1))] [] (SH, mm, lm) false o z false a b) ∧ ((¬ v9 ≤ v6) → J G M_X10_bellAt 55 [(0, .ref 63), (1, .int x1), (2, .int x2), (3, .int x3), (4, .int (x4 + 1)), (5, .int (x5 + 1))] [] (SH, mm, lm) false o z false a b)))) :
    J G M_X10_bellAt 55 [(0, .ref 63), (1, .int x1), (2, .int x2), (3, .int x3), (4, .int x4), (5, .int x5)] [] (SH, mm, lm) false o z false a b := by
  refine J_iload (i := 5) rfl dX10_bellAt_55 ?_
  refine J_aload_n rfl (i := 0) rfl dX10_bellAt_57 ?_
  refine J_geti kls_10 (q := 63) (k := 8) sh_63 (by decide) rfl gw_1441 dX10_bellAt_58 ?_
  refine J_icmp_ge (tgt := 107) dX10_bellAt_61 (by decide) (fun hb13 => ?_) (fun hb13 => ?_)
  · replace hw := hw.1 hb13
    refine J_iload (i := 4) rfl dX10_bellAt_107 ?_
    refine J_iload_n rfl (i := 2) rfl dX10_bellAt_109 ?_
    refine J_icmp_ne (tgt := 115) dX10_bellAt_110 (by decide) (fun hb1 => ?_) (fun hb1 => ?_)
    · replace hw := hw.1 hb1
      refine J_iinc [(3, .int (x3 + 1)), (0, .ref 63), (1, .int x1), (2, .int x2), (4, .int x4), (5, .int x5)] (i := 3) (v := (x3 + 1)) rfl rfl (by decide) rfl dX10_bellAt_115 ?_
      refine J_goto (tgt := 28) dX10_bellAt_118 (by decide) ?_
      exact J_sub [1, 2, 3, 0] rfl hw
    · replace hw := hw.2 hb1
      refine J_iload_n rfl (i := 3) rfl dX10_bellAt_113 ?_
      exact J_fini (ty := .int) rfl rfl dX10_bellAt_114 hw
  · replace hw := hw.2 hb13
    refine J_iload (i := 4) rfl dX10_bellAt_64 ?_
    refine J_aload_n rfl (i := 0) rfl dX10_bellAt_66 ?_
    refine J_iload (i := 5) rfl dX10_bellAt_67 ?_
    refine J_iconst (v := 0) (by decide) dX10_bellAt_69 ?_
    obtain ⟨v3, hc2, hw⟩ := hw
    refine J_callV (as := [.int x5, .int 0]) (k := 63) (st := [.int x4]) cal_X10_of cai_X10_of gw_1688 ⟨by decide, by decide⟩ cnt_X10_of sh_63 rfl rfl (Nat.le_of_ble_eq_true rfl) dX10_bellAt_70 (Nat.zero_add _).symm (Nat.zero_add _).symm hc2 ?_
    refine J_iload_n rfl (i := 1) rfl dX10_bellAt_73 ?_
    refine J_icmp_ne (tgt := 97) dX10_bellAt_74 (by decide) (fun hb12 => ?_) (fun hb12 => ?_)
    · replace hw := hw.1 hb12
      refine J_iconst (v := 0) (by decide) dX10_bellAt_97 ?_
      refine J_iadd dX10_bellAt_98 ?_
      refine J_istore [(4, .int (x4 + 0)), (0, .ref 63), (1, .int x1), (2, .int x2), (3, .int x3), (5, .int x5)] (i := 4) (by decide) rfl dX10_bellAt_99 ?_
      refine J_iinc [(5, .int (x5 + 1)), (4, .int (x4 + 0)), (0, .ref 63), (1, .int x1), (2, .int x2), (3, .int x3)] (i := 5) (v := (x5 + 1)) rfl rfl (by decide) rfl dX10_bellAt_101 ?_
      refine J_goto (tgt := 55) dX10_bellAt_104 (by decide) ?_
      exact J_sub [2, 3, 4, 5, 1, 0] rfl hw
    · replace hw := hw.2 hb12
      refine J_aload_n rfl (i := 0) rfl dX10_bellAt_77 ?_
      refine J_iload (i := 5) rfl dX10_bellAt_78 ?_
      refine J_iconst (v := 1) (by decide) dX10_bellAt_80 ?_
      obtain ⟨v6, hc5, hw⟩ := hw
      refine J_callV (as := [.int x5, .int 1]) (k := 63) (st := [.int x4]) cal_X10_of cai_X10_of gw_1688 ⟨by decide, by decide⟩ cnt_X10_of sh_63 rfl rfl (Nat.le_of_ble_eq_true rfl) dX10_bellAt_81 (Nat.zero_add _).symm (Nat.zero_add _).symm hc5 ?_
      refine J_aload_n rfl (i := 0) rfl dX10_bellAt_84 ?_
      refine J_iload_n rfl (i := 3) rfl dX10_bellAt_85 ?_
      refine J_iconst (v := 1) (by decide) dX10_bellAt_86 ?_
      obtain ⟨v9, hc8, hw⟩ := hw
      refine J_callV (as := [.int x3, .int 1]) (k := 63) (st := [.int v6, .int x4]) cal_X10_of cai_X10_of gw_1688 ⟨by decide, by decide⟩ cnt_X10_of sh_63 rfl rfl (Nat.le_of_ble_eq_true rfl) dX10_bellAt_87 (Nat.zero_add _).symm (Nat.zero_add _).symm hc8 ?_
      refine J_icmp_ge (tgt := 97) dX10_bellAt_90 (by decide) (fun hb11 => ?_) (fun hb11 => ?_)
      · replace hw := hw.1 hb11
        refine J_iconst (v := 0) (by decide) dX10_bellAt_97 ?_
        refine J_iadd dX10_bellAt_98 ?_
        refine J_istore [(4, .int (x4 + 0)), (0, .ref 63), (1, .int x1), (2, .int x2), (3, .int x3), (5, .int x5)] (i := 4) (by decide) rfl dX10_bellAt_99 ?_
        refine J_iinc [(5, .int (x5 + 1)), (4, .int (x4 + 0)), (0, .ref 63), (1, .int x1), (2, .int x2), (3, .int x3)] (i := 5) (v := (x5 + 1)) rfl rfl (by decide) rfl dX10_bellAt_101 ?_
        refine J_goto (tgt := 55) dX10_bellAt_104 (by decide) ?_
        exact J_sub [2, 3, 4, 5, 1, 0] rfl hw
      · replace hw := hw.2 hb11
        refine J_iconst (v := 1) (by decide) dX10_bellAt_93 ?_
        refine J_goto (tgt := 98) dX10_bellAt_94 (by decide) ?_
        refine J_iadd dX10_bellAt_98 ?_
        refine J_istore [(4, .int (x4 + 1)), (0, .ref 63), (1, .int x1), (2, .int x2), (3, .int x3), (5, .int x5)] (i := 4) (by decide) rfl dX10_bellAt_99 ?_
        refine J_iinc [(5, .int (x5 + 1)), (4, .int (x4 + 1)), (0, .ref 63), (1, .int x1), (2, .int x2), (3, .int x3)] (i := 5) (v := (x5 + 1)) rfl rfl (by decide) rfl dX10_bellAt_101 ?_
        refine J_goto (tgt := 55) dX10_bellAt_104 (by decide) ?_
        exact J_sub [2, 3, 4, 5, 1, 0] rfl hw
theorem dX10_canHang_0 : decode cX10_canHang 0 = .ok (.aload_n 0, 1) := by decide +kernel
theorem dX10_canHang_1 : decode cX10_canHang 1 = .ok (.iload_n 1, 1) := by decide +kernel
theorem dX10_canHang_2 : decode cX10_canHang 2 = .ok (.iload_n 2, 1) := by decide +kernel
theorem dX10_canHang_3 : decode cX10_canHang 3 = .ok (.iload_n 3, 1) := by decide +kernel
theorem dX10_canHang_4 : decode cX10_canHang 4 = .ok (.invokevirtual 247, 3) := by decide +kernel
theorem dX10_canHang_7 : decode cX10_canHang 7 = .ok (.ifCond .eq 29, 3) := by decide +kernel
theorem dX10_canHang_10 : decode cX10_canHang 10 = .ok (.aload_n 0, 1) := by decide +kernel
theorem dX10_canHang_11 : decode cX10_canHang 11 = .ok (.iload_n 2, 1) := by decide +kernel
theorem dX10_canHang_12 : decode cX10_canHang 12 = .ok (.aload_n 0, 1) := by decide +kernel
theorem dX10_canHang_13 : decode cX10_canHang 13 = .ok (.iload_n 2, 1) := by decide +kernel
theorem dX10_canHang_14 : decode cX10_canHang 14 = .ok (.invokevirtual 251, 3) := by decide +kernel
theorem dX10_canHang_17 : decode cX10_canHang 17 = .ok (.aload_n 0, 1) := by decide +kernel
theorem dX10_canHang_18 : decode cX10_canHang 18 = .ok (.getfield 22, 3) := by decide +kernel
theorem dX10_canHang_21 : decode cX10_canHang 21 = .ok (.iload_n 1, 1) := by decide +kernel
theorem dX10_canHang_22 : decode cX10_canHang 22 = .ok (.iaload, 1) := by decide +kernel
theorem dX10_canHang_23 : decode cX10_canHang 23 = .ok (.iload_n 3, 1) := by decide +kernel
theorem dX10_canHang_24 : decode cX10_canHang 24 = .ok (.imul, 1) := by decide +kernel
theorem dX10_canHang_25 : decode cX10_canHang 25 = .ok (.iadd, 1) := by decide +kernel
theorem dX10_canHang_26 : decode cX10_canHang 26 = .ok (.invokevirtual 254, 3) := by decide +kernel
theorem dX10_canHang_29 : decode cX10_canHang 29 = .ok (.ifCond .eq 7, 3) := by decide +kernel
theorem dX10_canHang_32 : decode cX10_canHang 32 = .ok (.iconst 1, 1) := by decide +kernel
theorem dX10_canHang_33 : decode cX10_canHang 33 = .ok (.goto 4, 3) := by decide +kernel
theorem dX10_canHang_36 : decode cX10_canHang 36 = .ok (.iconst 0, 1) := by decide +kernel
theorem dX10_canHang_37 : decode cX10_canHang 37 = .ok (.ireturn, 1) := by decide +kernel
set_option maxRecDepth 20000 in
theorem bX10_canHang_0 {G : Gx} {mm : Nat → Nat → Int32} {lm : Nat → Int64} {x1 : Int32} {x2 : Int32} {x3 : Int32} {o : Ou} {z : Wd} {a b : Nat} (hw : ∃ (v2 : Int32), Ct G M_X10_isClear [.ref 63, .int x1, .int x2, .int x3] (SH, mm, lm) false (.inl (some (.int v2))) (SH, mm, lm) false 0 0 ∧ ((v2 = 0) → o = .inl (some (.int 0)) ∧ z = (SH, mm, lm)) ∧ ((¬ v2 = 0) → ∃ (v5 : Int32), Ct G M_X10_pull [.ref 63, .int x2] (SH, mm, lm) false (.inl (some (.int v5))) (SH, mm, lm) false 0 0 ∧ ∃ j7 : Nat, x1 = nI j7 ∧ j7 < 8 ∧ ∃ (v9 : Int32), Ct G M_X10_isBalanced [.ref 63, .int x2, .int (v5 + ((mm 68 j7) * x3))] (SH, mm, lm) false (.inl (some (.int v9))) (SH, mm, lm) false 0 0 ∧ ((v9 = 0) → o = .inl (some (.int 0)) ∧ z = (SH, mm, lm)) ∧ ((¬ v9 = 0) → o = .inl (some (.int 1)) ∧ z = (SH, mm, lm)))) :
    J G M_X10_canHang 0 [(0, .ref 63), (1, .int x1), (2, .int x2), (3, .int x3)] [] (SH, mm, lm) false o z false a b := by
  refine J_aload_n rfl (i := 0) rfl dX10_canHang_0 ?_
  refine J_iload_n rfl (i := 1) rfl dX10_canHang_1 ?_
  refine J_iload_n rfl (i := 2) rfl dX10_canHang_2 ?_
  refine J_iload_n rfl (i := 3) rfl dX10_canHang_3 ?_
  obtain ⟨v2, hc1, hw⟩ := hw
  refine J_callV (as := [.int x1, .int x2, .int x3]) (k := 63) (st := []) cal_X10_isClear cai_X10_isClear gw_1692 ⟨by decide, by decide⟩ cnt_X10_isClear sh_63 rfl rfl (Nat.le_of_ble_eq_true rfl) dX10_canHang_4 (Nat.zero_add _).symm (Nat.zero_add _).symm hc1 ?_
  refine J_if_eq (tgt := 36) dX10_canHang_7 (by decide) (fun hb12 => ?_) (fun hb12 => ?_)
  · replace hw := hw.1 hb12
    refine J_iconst (v := 0) (by decide) dX10_canHang_36 ?_
    exact J_fini (ty := .boolean) rfl rfl dX10_canHang_37 hw
  · replace hw := hw.2 hb12
    refine J_aload_n rfl (i := 0) rfl dX10_canHang_10 ?_
    refine J_iload_n rfl (i := 2) rfl dX10_canHang_11 ?_
    refine J_aload_n rfl (i := 0) rfl dX10_canHang_12 ?_
    refine J_iload_n rfl (i := 2) rfl dX10_canHang_13 ?_
    obtain ⟨v5, hc4, hw⟩ := hw
    refine J_callV (as := [.int x2]) (k := 63) (st := [.int x2, .ref 63]) cal_X10_pull cai_X10_pull gw_1699 ⟨by decide, by decide⟩ cnt_X10_pull sh_63 rfl rfl (Nat.le_of_ble_eq_true rfl) dX10_canHang_14 (Nat.zero_add _).symm (Nat.zero_add _).symm hc4 ?_
    refine J_aload_n rfl (i := 0) rfl dX10_canHang_17 ?_
    refine J_getr kls_10 (q := 63) (k := 9) sh_63 (by decide) rfl gw_1442 dX10_canHang_18 ?_
    refine J_iload_n rfl (i := 1) rfl dX10_canHang_21 ?_
    obtain ⟨j7, ej7, hj7, hw⟩ := hw
    refine J_iald sh_68 ej7 hj7 (by decide) dX10_canHang_22 ?_
    refine J_iload_n rfl (i := 3) rfl dX10_canHang_23 ?_
    refine J_imul dX10_canHang_24 ?_
    refine J_iadd dX10_canHang_25 ?_
    obtain ⟨v9, hc8, hw⟩ := hw
    refine J_callV (as := [.int x2, .int (v5 + ((mm 68 j7) * x3))]) (k := 63) (st := []) cal_X10_isBalanced cai_X10_isBalanced gw_1703 ⟨by decide, by decide⟩ cnt_X10_isBalanced sh_63 rfl rfl (Nat.le_of_ble_eq_true rfl) dX10_canHang_26 (Nat.zero_add _).symm (Nat.zero_add _).symm hc8 ?_
    refine J_if_eq (tgt := 36) dX10_canHang_29 (by decide) (fun hb11 => ?_) (fun hb11 => ?_)
    · replace hw := hw.1 hb11
      refine J_iconst (v := 0) (by decide) dX10_canHang_36 ?_
      exact J_fini (ty := .boolean) rfl rfl dX10_canHang_37 hw
    · replace hw := hw.2 hb11
      refine J_iconst (v := 1) (by decide) dX10_canHang_32 ?_
      refine J_goto (tgt := 37) dX10_canHang_33 (by decide) ?_
      exact J_fini (ty := .boolean) rfl rfl dX10_canHang_37 hw
theorem dX10_freePositions_0 : decode cX10_freePositions 0 = .ok (.aload_n 0, 1) := by decide +kernel
theorem dX10_freePositions_1 : decode cX10_freePositions 1 = .ok (.aload_n 0, 1) := by decide +kernel
theorem dX10_freePositions_2 : decode cX10_freePositions 2 = .ok (.iload_n 1, 1) := by decide +kernel
theorem dX10_freePositions_3 : decode cX10_freePositions 3 = .ok (.invokevirtual 235, 3) := by decide +kernel
theorem dX10_freePositions_6 : decode cX10_freePositions 6 = .ok (.ifCond .eq 15, 3) := by decide +kernel
theorem dX10_freePositions_9 : decode cX10_freePositions 9 = .ok (.aload_n 0, 1) := by decide +kernel
theorem dX10_freePositions_10 : decode cX10_freePositions 10 = .ok (.iload_n 2, 1) := by decide +kernel
theorem dX10_freePositions_11 : decode cX10_freePositions 11 = .ok (.invokevirtual 238, 3) := by decide +kernel
theorem dX10_freePositions_14 : decode cX10_freePositions 14 = .ok (.ifCond .eq 7, 3) := by decide +kernel
theorem dX10_freePositions_17 : decode cX10_freePositions 17 = .ok (.iconst 1, 1) := by decide +kernel
theorem dX10_freePositions_18 : decode cX10_freePositions 18 = .ok (.goto 4, 3) := by decide +kernel
theorem dX10_freePositions_21 : decode cX10_freePositions 21 = .ok (.iconst 0, 1) := by decide +kernel
theorem dX10_freePositions_22 : decode cX10_freePositions 22 = .ok (.invokevirtual 221, 3) := by decide +kernel
theorem dX10_freePositions_25 : decode cX10_freePositions 25 = .ok (.ifCond .eq 5, 3) := by decide +kernel
theorem dX10_freePositions_28 : decode cX10_freePositions 28 = .ok (.iconst 0, 1) := by decide +kernel
theorem dX10_freePositions_29 : decode cX10_freePositions 29 = .ok (.ireturn, 1) := by decide +kernel
theorem dX10_freePositions_30 : decode cX10_freePositions 30 = .ok (.aload_n 0, 1) := by decide +kernel
theorem dX10_freePositions_31 : decode cX10_freePositions 31 = .ok (.iload_n 1, 1) := by decide +kernel
theorem dX10_freePositions_32 : decode cX10_freePositions 32 = .ok (.invokevirtual 244, 3) := by decide +kernel
theorem dX10_freePositions_35 : decode cX10_freePositions 35 = .ok (.ifCond .eq 6, 3) := by decide +kernel
theorem dX10_freePositions_38 : decode cX10_freePositions 38 = .ok (.bipush (-2), 2) := by decide +kernel
theorem dX10_freePositions_40 : decode cX10_freePositions 40 = .ok (.ireturn, 1) := by decide +kernel
theorem dX10_freePositions_41 : decode cX10_freePositions 41 = .ok (.iconst 0, 1) := by decide +kernel
theorem dX10_freePositions_42 : decode cX10_freePositions 42 = .ok (.istore_n 3, 1) := by decide +kernel
theorem dX10_freePositions_43 : decode cX10_freePositions 43 = .ok (.bipush (-15), 2) := by decide +kernel
theorem dX10_freePositions_45 : decode cX10_freePositions 45 = .ok (.istore 4, 2) := by decide +kernel
theorem dX10_freePositions_47 : decode cX10_freePositions 47 = .ok (.iload 4, 2) := by decide +kernel
theorem dX10_freePositions_49 : decode cX10_freePositions 49 = .ok (.bipush 15, 2) := by decide +kernel
theorem dX10_freePositions_51 : decode cX10_freePositions 51 = .ok (.if_icmp .gt 28, 3) := by decide +kernel
theorem dX10_freePositions_54 : decode cX10_freePositions 54 = .ok (.iload_n 3, 1) := by decide +kernel
theorem dX10_freePositions_55 : decode cX10_freePositions 55 = .ok (.aload_n 0, 1) := by decide +kernel
theorem dX10_freePositions_56 : decode cX10_freePositions 56 = .ok (.iload_n 1, 1) := by decide +kernel
theorem dX10_freePositions_57 : decode cX10_freePositions 57 = .ok (.iload_n 2, 1) := by decide +kernel
theorem dX10_freePositions_58 : decode cX10_freePositions 58 = .ok (.iload 4, 2) := by decide +kernel
theorem dX10_freePositions_60 : decode cX10_freePositions 60 = .ok (.invokevirtual 267, 3) := by decide +kernel
theorem dX10_freePositions_63 : decode cX10_freePositions 63 = .ok (.ifCond .eq 7, 3) := by decide +kernel
theorem dX10_freePositions_66 : decode cX10_freePositions 66 = .ok (.iconst 1, 1) := by decide +kernel
theorem dX10_freePositions_67 : decode cX10_freePositions 67 = .ok (.goto 4, 3) := by decide +kernel
theorem dX10_freePositions_70 : decode cX10_freePositions 70 = .ok (.iconst 0, 1) := by decide +kernel
theorem dX10_freePositions_71 : decode cX10_freePositions 71 = .ok (.iadd, 1) := by decide +kernel
theorem dX10_freePositions_72 : decode cX10_freePositions 72 = .ok (.istore_n 3, 1) := by decide +kernel
theorem dX10_freePositions_73 : decode cX10_freePositions 73 = .ok (.iinc 4 1, 3) := by decide +kernel
theorem dX10_freePositions_76 : decode cX10_freePositions 76 = .ok (.goto (-29), 3) := by decide +kernel
theorem dX10_freePositions_79 : decode cX10_freePositions 79 = .ok (.iload_n 3, 1) := by decide +kernel
theorem dX10_freePositions_80 : decode cX10_freePositions 80 = .ok (.ireturn, 1) := by decide +kernel
set_option maxRecDepth 20000 in
theorem bX10_freePositions_0 {G : Gx} {mm : Nat → Nat → Int32} {lm : Nat → Int64} {x1 : Int32} {x2 : Int32} {o : Ou} {z : Wd} {a b : Nat} (hw : ∃ (v2 : Int32), Ct G M_X10_isBell [.ref 63, .int x1] (SH, mm, lm) false (.inl (some (.int v2))) (SH, mm, lm) false 0 0 ∧ ((v2 = 0) → ∃ (v5 : Int32) (m6 : Nat → Nat → Int32), Ct G M_X10_isWrong [.ref 63, .int 0] (SH, mm, lm) false (.inl (some (.int v5))) (SH, m6, lm) false 0 0 ∧ ((v5 = 0) → J G M_X10_freePositions 30 [(0, .ref 63), (1, .int x1), (2, .int x2)] [] (SH, m6, lm) false o z false a b) ∧ ((¬ v5 = 0) → o = .inl (some (.int 0)) ∧ z = (SH, m6, lm))) ∧ ((¬ v2 = 0) → ∃ (v9 : Int32), Ct G M_X10_isBeam [.ref 63, .int x2] (SH, mm, lm) false (.inl (some (.int v9))) (SH, mm, lm) false 0 0 ∧ ((v9 = 0) → ∃ (v12 : Int32) (m13 : Nat → Nat → Int32), Ct G M_X10_isWrong [.ref 63, .int 0] (SH, mm, lm) false (.inl (some (.int v12))) (SH, m13, lm) false 0 0 ∧ ((v12 = 0) → J G M_X10_freePositions 30 [(0, .ref 63), (1, .int x1), (2, .int x2)] [] (SH, m13, lm) false o z false a b) ∧ ((¬ v12 = 0) → o = .inl (some (.int 0)) ∧ z = (SH, m13, lm))) ∧ ((¬ v9 = 0) → ∃ (v16 : Int32) (m17 : Nat → Nat → Int32), Ct G M_X10_isWrong [.ref 63, .int 1] (SH, mm, lm) false (.inl (some (.int v16))) (SH, m17, lm) false 0 0 ∧ ((v16 = 0) → J G M_X10_freePositions 30 [(0, .ref 63), (1, .int x1), (2, .int x2)] [] (SH, m17, lm) false o z false a b) ∧ ((¬ v16 = 0) → o = .inl (some (.int 0)) ∧ z = (SH, m17, lm))))) :
    J G M_X10_freePositions 0 [(0, .ref 63), (1, .int x1), (2, .int x2)] [] (SH, mm, lm) false o z false a b := by
  refine J_aload_n rfl (i := 0) rfl dX10_freePositions_0 ?_
  refine J_aload_n rfl (i := 0) rfl dX10_freePositions_1 ?_
  refine J_iload_n rfl (i := 1) rfl dX10_freePositions_2 ?_
  obtain ⟨v2, hc1, hw⟩ := hw
  refine J_callV (as := [.int x1]) (k := 63) (st := [.ref 63]) cal_X10_isBell cai_X10_isBell gw_1671 ⟨by decide, by decide⟩ cnt_X10_isBell sh_63 rfl rfl (Nat.le_of_ble_eq_true rfl) dX10_freePositions_3 (Nat.zero_add _).symm (Nat.zero_add _).symm hc1 ?_
  refine J_if_eq (tgt := 21) dX10_freePositions_6 (by decide) (fun hb20 => ?_) (fun hb20 => ?_)
  · replace hw := hw.1 hb20
    refine J_iconst (v := 0) (by decide) dX10_freePositions_21 ?_
    obtain ⟨v5, m6, hc4, hw⟩ := hw
    refine J_callV (as := [.int 0]) (k := 63) (st := []) cal_X10_isWrong cai_X10_isWrong gw_1663 ⟨by decide, by decide⟩ cnt_X10_isWrong sh_63 rfl rfl (Nat.le_of_ble_eq_true rfl) dX10_freePositions_22 (Nat.zero_add _).symm (Nat.zero_add _).symm hc4 ?_
    refine J_if_eq (tgt := 30) dX10_freePositions_25 (by decide) (fun hb7 => ?_) (fun hb7 => ?_)
    · replace hw := hw.1 hb7
      exact hw
    · replace hw := hw.2 hb7
      refine J_iconst (v := 0) (by decide) dX10_freePositions_28 ?_
      exact J_fini (ty := .int) rfl rfl dX10_freePositions_29 hw
  · replace hw := hw.2 hb20
    refine J_aload_n rfl (i := 0) rfl dX10_freePositions_9 ?_
    refine J_iload_n rfl (i := 2) rfl dX10_freePositions_10 ?_
    obtain ⟨v9, hc8, hw⟩ := hw
    refine J_callV (as := [.int x2]) (k := 63) (st := [.ref 63]) cal_X10_isBeam cai_X10_isBeam gw_1675 ⟨by decide, by decide⟩ cnt_X10_isBeam sh_63 rfl rfl (Nat.le_of_ble_eq_true rfl) dX10_freePositions_11 (Nat.zero_add _).symm (Nat.zero_add _).symm hc8 ?_
    refine J_if_eq (tgt := 21) dX10_freePositions_14 (by decide) (fun hb19 => ?_) (fun hb19 => ?_)
    · replace hw := hw.1 hb19
      refine J_iconst (v := 0) (by decide) dX10_freePositions_21 ?_
      obtain ⟨v12, m13, hc11, hw⟩ := hw
      refine J_callV (as := [.int 0]) (k := 63) (st := []) cal_X10_isWrong cai_X10_isWrong gw_1663 ⟨by decide, by decide⟩ cnt_X10_isWrong sh_63 rfl rfl (Nat.le_of_ble_eq_true rfl) dX10_freePositions_22 (Nat.zero_add _).symm (Nat.zero_add _).symm hc11 ?_
      refine J_if_eq (tgt := 30) dX10_freePositions_25 (by decide) (fun hb14 => ?_) (fun hb14 => ?_)
      · replace hw := hw.1 hb14
        exact hw
      · replace hw := hw.2 hb14
        refine J_iconst (v := 0) (by decide) dX10_freePositions_28 ?_
        exact J_fini (ty := .int) rfl rfl dX10_freePositions_29 hw
    · replace hw := hw.2 hb19
      refine J_iconst (v := 1) (by decide) dX10_freePositions_17 ?_
      refine J_goto (tgt := 22) dX10_freePositions_18 (by decide) ?_
      obtain ⟨v16, m17, hc15, hw⟩ := hw
      refine J_callV (as := [.int 1]) (k := 63) (st := []) cal_X10_isWrong cai_X10_isWrong gw_1663 ⟨by decide, by decide⟩ cnt_X10_isWrong sh_63 rfl rfl (Nat.le_of_ble_eq_true rfl) dX10_freePositions_22 (Nat.zero_add _).symm (Nat.zero_add _).symm hc15 ?_
      refine J_if_eq (tgt := 30) dX10_freePositions_25 (by decide) (fun hb18 => ?_) (fun hb18 => ?_)
      · replace hw := hw.1 hb18
        exact hw
      · replace hw := hw.2 hb18
        refine J_iconst (v := 0) (by decide) dX10_freePositions_28 ?_
        exact J_fini (ty := .int) rfl rfl dX10_freePositions_29 hw
set_option maxRecDepth 20000 in
theorem bX10_freePositions_30 {G : Gx} {mm : Nat → Nat → Int32} {lm : Nat → Int64} {x1 : Int32} {x2 : Int32} {o : Ou} {z : Wd} {a b : Nat} (hw : ∃ (v2 : Int32), Ct G M_X10_hangs [.ref 63, .int x1] (SH, mm, lm) false (.inl (some (.int v2))) (SH, mm, lm) false 0 0 ∧ ((v2 = 0) → J G M_X10_freePositions 47 [(0, .ref 63), (1, .int x1), (2, .int x2), (3, .int 0), (4, .int (-15))] [] (SH, mm, lm) false o z false a b) ∧ ((¬ v2 = 0) → o = .inl (some (.int (-2))) ∧ z = (SH, mm, lm))) :
    J G M_X10_freePositions 30 [(0, .ref 63), (1, .int x1), (2, .int x2)] [] (SH, mm, lm) false o z false a b := by
  refine J_aload_n rfl (i := 0) rfl dX10_freePositions_30 ?_
  refine J_iload_n rfl (i := 1) rfl dX10_freePositions_31 ?_
  obtain ⟨v2, hc1, hw⟩ := hw
  refine J_callV (as := [.int x1]) (k := 63) (st := []) cal_X10_hangs cai_X10_hangs gw_1684 ⟨by decide, by decide⟩ cnt_X10_hangs sh_63 rfl rfl (Nat.le_of_ble_eq_true rfl) dX10_freePositions_32 (Nat.zero_add _).symm (Nat.zero_add _).symm hc1 ?_
  refine J_if_eq (tgt := 41) dX10_freePositions_35 (by decide) (fun hb4 => ?_) (fun hb4 => ?_)
  · replace hw := hw.1 hb4
    refine J_iconst (v := 0) (by decide) dX10_freePositions_41 ?_
    refine J_istore_n [(3, .int 0), (0, .ref 63), (1, .int x1), (2, .int x2)] rfl (i := 3) (by decide) rfl dX10_freePositions_42 ?_
    refine J_bipush (v := (-15)) (by decide) dX10_freePositions_43 ?_
    refine J_istore [(4, .int (-15)), (3, .int 0), (0, .ref 63), (1, .int x1), (2, .int x2)] (i := 4) (by decide) rfl dX10_freePositions_45 ?_
    exact J_sub [2, 3, 4, 1, 0] rfl hw
  · replace hw := hw.2 hb4
    refine J_bipush (v := (-2)) (by decide) dX10_freePositions_38 ?_
    exact J_fini (ty := .int) rfl rfl dX10_freePositions_40 hw
set_option maxRecDepth 20000 in
theorem bX10_freePositions_47 {G : Gx} {mm : Nat → Nat → Int32} {lm : Nat → Int64} {x1 : Int32} {x2 : Int32} {x3 : Int32} {x4 : Int32} {o : Ou} {z : Wd} {a b : Nat} (hw : ((15 < x4) → o = .inl (some (.int x3)) ∧ z = (SH, mm, lm)) ∧ ((¬ 15 < x4) → ∃ (v2 : Int32), Ct G M_X10_canHang [.ref 63, .int x1, .int x2, .int x4] (SH, mm, lm) false (.inl (some (.int v2))) (SH, mm, lm) false 0 0 ∧ ((v2 = 0) → J G M_X10_freePositions 47 [(0, .ref 63), (1, .int x1), (2, .int x2), (3, .int (x3 + 0)), (4, .int (x4 + 1))] [] (SH, mm, lm) false o z false a b) ∧ ((¬ v2 = 0) → J G M_X10_freePositions 47 [(0, .ref 63), (1, .int x1), (2, .int x2), (3, .int (x3 + 1)), (4, .int (x4 + 1))] [] (SH, mm, lm) false o z false a b))) :
    J G M_X10_freePositions 47 [(0, .ref 63), (1, .int x1), (2, .int x2), (3, .int x3), (4, .int x4)] [] (SH, mm, lm) false o z false a b := by
  refine J_iload (i := 4) rfl dX10_freePositions_47 ?_
  refine J_bipush (v := 15) (by decide) dX10_freePositions_49 ?_
  refine J_icmp_gt (tgt := 79) dX10_freePositions_51 (by decide) (fun hb5 => ?_) (fun hb5 => ?_)
  · replace hw := hw.1 hb5
    refine J_iload_n rfl (i := 3) rfl dX10_freePositions_79 ?_
    exact J_fini (ty := .int) rfl rfl dX10_freePositions_80 hw
  · replace hw := hw.2 hb5
    refine J_iload_n rfl (i := 3) rfl dX10_freePositions_54 ?_
    refine J_aload_n rfl (i := 0) rfl dX10_freePositions_55 ?_
    refine J_iload_n rfl (i := 1) rfl dX10_freePositions_56 ?_
    refine J_iload_n rfl (i := 2) rfl dX10_freePositions_57 ?_
    refine J_iload (i := 4) rfl dX10_freePositions_58 ?_
    obtain ⟨v2, hc1, hw⟩ := hw
    refine J_callV (as := [.int x1, .int x2, .int x4]) (k := 63) (st := [.int x3]) cal_X10_canHang cai_X10_canHang gw_1747 ⟨by decide, by decide⟩ cnt_X10_canHang sh_63 rfl rfl (Nat.le_of_ble_eq_true rfl) dX10_freePositions_60 (Nat.zero_add _).symm (Nat.zero_add _).symm hc1 ?_
    refine J_if_eq (tgt := 70) dX10_freePositions_63 (by decide) (fun hb4 => ?_) (fun hb4 => ?_)
    · replace hw := hw.1 hb4
      refine J_iconst (v := 0) (by decide) dX10_freePositions_70 ?_
      refine J_iadd dX10_freePositions_71 ?_
      refine J_istore_n [(3, .int (x3 + 0)), (0, .ref 63), (1, .int x1), (2, .int x2), (4, .int x4)] rfl (i := 3) (by decide) rfl dX10_freePositions_72 ?_
      refine J_iinc [(4, .int (x4 + 1)), (3, .int (x3 + 0)), (0, .ref 63), (1, .int x1), (2, .int x2)] (i := 4) (v := (x4 + 1)) rfl rfl (by decide) rfl dX10_freePositions_73 ?_
      refine J_goto (tgt := 47) dX10_freePositions_76 (by decide) ?_
      exact J_sub [2, 3, 4, 1, 0] rfl hw
    · replace hw := hw.2 hb4
      refine J_iconst (v := 1) (by decide) dX10_freePositions_66 ?_
      refine J_goto (tgt := 71) dX10_freePositions_67 (by decide) ?_
      refine J_iadd dX10_freePositions_71 ?_
      refine J_istore_n [(3, .int (x3 + 1)), (0, .ref 63), (1, .int x1), (2, .int x2), (4, .int x4)] rfl (i := 3) (by decide) rfl dX10_freePositions_72 ?_
      refine J_iinc [(4, .int (x4 + 1)), (3, .int (x3 + 1)), (0, .ref 63), (1, .int x1), (2, .int x2)] (i := 4) (v := (x4 + 1)) rfl rfl (by decide) rfl dX10_freePositions_73 ?_
      refine J_goto (tgt := 47) dX10_freePositions_76 (by decide) ?_
      exact J_sub [2, 3, 4, 1, 0] rfl hw
theorem dX10_bestPosition_0 : decode cX10_bestPosition 0 = .ok (.aload_n 0, 1) := by decide +kernel
theorem dX10_bestPosition_1 : decode cX10_bestPosition 1 = .ok (.aload_n 0, 1) := by decide +kernel
theorem dX10_bestPosition_2 : decode cX10_bestPosition 2 = .ok (.iload_n 1, 1) := by decide +kernel
theorem dX10_bestPosition_3 : decode cX10_bestPosition 3 = .ok (.invokevirtual 235, 3) := by decide +kernel
theorem dX10_bestPosition_6 : decode cX10_bestPosition 6 = .ok (.ifCond .eq 15, 3) := by decide +kernel
theorem dX10_bestPosition_9 : decode cX10_bestPosition 9 = .ok (.aload_n 0, 1) := by decide +kernel
theorem dX10_bestPosition_10 : decode cX10_bestPosition 10 = .ok (.iload_n 2, 1) := by decide +kernel
theorem dX10_bestPosition_11 : decode cX10_bestPosition 11 = .ok (.invokevirtual 238, 3) := by decide +kernel
theorem dX10_bestPosition_14 : decode cX10_bestPosition 14 = .ok (.ifCond .eq 7, 3) := by decide +kernel
theorem dX10_bestPosition_17 : decode cX10_bestPosition 17 = .ok (.iconst 1, 1) := by decide +kernel
theorem dX10_bestPosition_18 : decode cX10_bestPosition 18 = .ok (.goto 4, 3) := by decide +kernel
theorem dX10_bestPosition_21 : decode cX10_bestPosition 21 = .ok (.iconst 0, 1) := by decide +kernel
theorem dX10_bestPosition_22 : decode cX10_bestPosition 22 = .ok (.invokevirtual 221, 3) := by decide +kernel
theorem dX10_bestPosition_25 : decode cX10_bestPosition 25 = .ok (.ifCond .eq 5, 3) := by decide +kernel
theorem dX10_bestPosition_28 : decode cX10_bestPosition 28 = .ok (.iconst 0, 1) := by decide +kernel
theorem dX10_bestPosition_29 : decode cX10_bestPosition 29 = .ok (.ireturn, 1) := by decide +kernel
theorem dX10_bestPosition_30 : decode cX10_bestPosition 30 = .ok (.aload_n 0, 1) := by decide +kernel
theorem dX10_bestPosition_31 : decode cX10_bestPosition 31 = .ok (.iload_n 1, 1) := by decide +kernel
theorem dX10_bestPosition_32 : decode cX10_bestPosition 32 = .ok (.invokevirtual 244, 3) := by decide +kernel
theorem dX10_bestPosition_35 : decode cX10_bestPosition 35 = .ok (.ifCond .eq 6, 3) := by decide +kernel
theorem dX10_bestPosition_38 : decode cX10_bestPosition 38 = .ok (.bipush (-2), 2) := by decide +kernel
theorem dX10_bestPosition_40 : decode cX10_bestPosition 40 = .ok (.ireturn, 1) := by decide +kernel
theorem dX10_bestPosition_41 : decode cX10_bestPosition 41 = .ok (.bipush (-3), 2) := by decide +kernel
theorem dX10_bestPosition_43 : decode cX10_bestPosition 43 = .ok (.istore_n 3, 1) := by decide +kernel
theorem dX10_bestPosition_44 : decode cX10_bestPosition 44 = .ok (.iconst 0, 1) := by decide +kernel
theorem dX10_bestPosition_45 : decode cX10_bestPosition 45 = .ok (.istore 4, 2) := by decide +kernel
theorem dX10_bestPosition_47 : decode cX10_bestPosition 47 = .ok (.bipush (-15), 2) := by decide +kernel
theorem dX10_bestPosition_49 : decode cX10_bestPosition 49 = .ok (.istore 5, 2) := by decide +kernel
theorem dX10_bestPosition_51 : decode cX10_bestPosition 51 = .ok (.iload 5, 2) := by decide +kernel
theorem dX10_bestPosition_53 : decode cX10_bestPosition 53 = .ok (.bipush 15, 2) := by decide +kernel
theorem dX10_bestPosition_55 : decode cX10_bestPosition 55 = .ok (.if_icmp .gt 61, 3) := by decide +kernel
theorem dX10_bestPosition_58 : decode cX10_bestPosition 58 = .ok (.aload_n 0, 1) := by decide +kernel
theorem dX10_bestPosition_59 : decode cX10_bestPosition 59 = .ok (.iload_n 2, 1) := by decide +kernel
theorem dX10_bestPosition_60 : decode cX10_bestPosition 60 = .ok (.invokevirtual 251, 3) := by decide +kernel
theorem dX10_bestPosition_63 : decode cX10_bestPosition 63 = .ok (.aload_n 0, 1) := by decide +kernel
theorem dX10_bestPosition_64 : decode cX10_bestPosition 64 = .ok (.getfield 22, 3) := by decide +kernel
theorem dX10_bestPosition_67 : decode cX10_bestPosition 67 = .ok (.iload_n 1, 1) := by decide +kernel
theorem dX10_bestPosition_68 : decode cX10_bestPosition 68 = .ok (.iaload, 1) := by decide +kernel
theorem dX10_bestPosition_69 : decode cX10_bestPosition 69 = .ok (.iload 5, 2) := by decide +kernel
theorem dX10_bestPosition_71 : decode cX10_bestPosition 71 = .ok (.imul, 1) := by decide +kernel
theorem dX10_bestPosition_72 : decode cX10_bestPosition 72 = .ok (.iadd, 1) := by decide +kernel
theorem dX10_bestPosition_73 : decode cX10_bestPosition 73 = .ok (.invokestatic 232, 3) := by decide +kernel
theorem dX10_bestPosition_76 : decode cX10_bestPosition 76 = .ok (.istore 6, 2) := by decide +kernel
theorem dX10_bestPosition_78 : decode cX10_bestPosition 78 = .ok (.aload_n 0, 1) := by decide +kernel
theorem dX10_bestPosition_79 : decode cX10_bestPosition 79 = .ok (.iload_n 1, 1) := by decide +kernel
theorem dX10_bestPosition_80 : decode cX10_bestPosition 80 = .ok (.iload_n 2, 1) := by decide +kernel
theorem dX10_bestPosition_81 : decode cX10_bestPosition 81 = .ok (.iload 5, 2) := by decide +kernel
theorem dX10_bestPosition_83 : decode cX10_bestPosition 83 = .ok (.invokevirtual 267, 3) := by decide +kernel
theorem dX10_bestPosition_86 : decode cX10_bestPosition 86 = .ok (.ifCond .eq 24, 3) := by decide +kernel
theorem dX10_bestPosition_89 : decode cX10_bestPosition 89 = .ok (.iload_n 3, 1) := by decide +kernel
theorem dX10_bestPosition_90 : decode cX10_bestPosition 90 = .ok (.ifCond .lt 10, 3) := by decide +kernel
theorem dX10_bestPosition_93 : decode cX10_bestPosition 93 = .ok (.iload 6, 2) := by decide +kernel
theorem dX10_bestPosition_95 : decode cX10_bestPosition 95 = .ok (.iload 4, 2) := by decide +kernel
theorem dX10_bestPosition_97 : decode cX10_bestPosition 97 = .ok (.if_icmp .ge 13, 3) := by decide +kernel
theorem dX10_bestPosition_100 : decode cX10_bestPosition 100 = .ok (.bipush 100, 2) := by decide +kernel
theorem dX10_bestPosition_102 : decode cX10_bestPosition 102 = .ok (.iload 5, 2) := by decide +kernel
theorem dX10_bestPosition_104 : decode cX10_bestPosition 104 = .ok (.iadd, 1) := by decide +kernel
theorem dX10_bestPosition_105 : decode cX10_bestPosition 105 = .ok (.istore_n 3, 1) := by decide +kernel
theorem dX10_bestPosition_106 : decode cX10_bestPosition 106 = .ok (.iload 6, 2) := by decide +kernel
theorem dX10_bestPosition_108 : decode cX10_bestPosition 108 = .ok (.istore 4, 2) := by decide +kernel
theorem dX10_bestPosition_110 : decode cX10_bestPosition 110 = .ok (.iinc 5 1, 3) := by decide +kernel
theorem dX10_bestPosition_113 : decode cX10_bestPosition 113 = .ok (.goto (-62), 3) := by decide +kernel
theorem dX10_bestPosition_116 : decode cX10_bestPosition 116 = .ok (.iload_n 3, 1) := by decide +kernel
theorem dX10_bestPosition_117 : decode cX10_bestPosition 117 = .ok (.ireturn, 1) := by decide +kernel
set_option maxRecDepth 20000 in
theorem bX10_bestPosition_0 {G : Gx} {mm : Nat → Nat → Int32} {lm : Nat → Int64} {x1 : Int32} {x2 : Int32} {o : Ou} {z : Wd} {a b : Nat} (hw : ∃ (v2 : Int32), Ct G M_X10_isBell [.ref 63, .int x1] (SH, mm, lm) false (.inl (some (.int v2))) (SH, mm, lm) false 0 0 ∧ ((v2 = 0) → ∃ (v5 : Int32) (m6 : Nat → Nat → Int32), Ct G M_X10_isWrong [.ref 63, .int 0] (SH, mm, lm) false (.inl (some (.int v5))) (SH, m6, lm) false 0 0 ∧ ((v5 = 0) → J G M_X10_bestPosition 30 [(0, .ref 63), (1, .int x1), (2, .int x2)] [] (SH, m6, lm) false o z false a b) ∧ ((¬ v5 = 0) → o = .inl (some (.int 0)) ∧ z = (SH, m6, lm))) ∧ ((¬ v2 = 0) → ∃ (v9 : Int32), Ct G M_X10_isBeam [.ref 63, .int x2] (SH, mm, lm) false (.inl (some (.int v9))) (SH, mm, lm) false 0 0 ∧ ((v9 = 0) → ∃ (v12 : Int32) (m13 : Nat → Nat → Int32), Ct G M_X10_isWrong [.ref 63, .int 0] (SH, mm, lm) false (.inl (some (.int v12))) (SH, m13, lm) false 0 0 ∧ ((v12 = 0) → J G M_X10_bestPosition 30 [(0, .ref 63), (1, .int x1), (2, .int x2)] [] (SH, m13, lm) false o z false a b) ∧ ((¬ v12 = 0) → o = .inl (some (.int 0)) ∧ z = (SH, m13, lm))) ∧ ((¬ v9 = 0) → ∃ (v16 : Int32) (m17 : Nat → Nat → Int32), Ct G M_X10_isWrong [.ref 63, .int 1] (SH, mm, lm) false (.inl (some (.int v16))) (SH, m17, lm) false 0 0 ∧ ((v16 = 0) → J G M_X10_bestPosition 30 [(0, .ref 63), (1, .int x1), (2, .int x2)] [] (SH, m17, lm) false o z false a b) ∧ ((¬ v16 = 0) → o = .inl (some (.int 0)) ∧ z = (SH, m17, lm))))) :
    J G M_X10_bestPosition 0 [(0, .ref 63), (1, .int x1), (2, .int x2)] [] (SH, mm, lm) false o z false a b := by
  refine J_aload_n rfl (i := 0) rfl dX10_bestPosition_0 ?_
  refine J_aload_n rfl (i := 0) rfl dX10_bestPosition_1 ?_
  refine J_iload_n rfl (i := 1) rfl dX10_bestPosition_2 ?_
  obtain ⟨v2, hc1, hw⟩ := hw
  refine J_callV (as := [.int x1]) (k := 63) (st := [.ref 63]) cal_X10_isBell cai_X10_isBell gw_1671 ⟨by decide, by decide⟩ cnt_X10_isBell sh_63 rfl rfl (Nat.le_of_ble_eq_true rfl) dX10_bestPosition_3 (Nat.zero_add _).symm (Nat.zero_add _).symm hc1 ?_
  refine J_if_eq (tgt := 21) dX10_bestPosition_6 (by decide) (fun hb20 => ?_) (fun hb20 => ?_)
  · replace hw := hw.1 hb20
    refine J_iconst (v := 0) (by decide) dX10_bestPosition_21 ?_
    obtain ⟨v5, m6, hc4, hw⟩ := hw
    refine J_callV (as := [.int 0]) (k := 63) (st := []) cal_X10_isWrong cai_X10_isWrong gw_1663 ⟨by decide, by decide⟩ cnt_X10_isWrong sh_63 rfl rfl (Nat.le_of_ble_eq_true rfl) dX10_bestPosition_22 (Nat.zero_add _).symm (Nat.zero_add _).symm hc4 ?_
    refine J_if_eq (tgt := 30) dX10_bestPosition_25 (by decide) (fun hb7 => ?_) (fun hb7 => ?_)
    · replace hw := hw.1 hb7
      exact hw
    · replace hw := hw.2 hb7
      refine J_iconst (v := 0) (by decide) dX10_bestPosition_28 ?_
      exact J_fini (ty := .int) rfl rfl dX10_bestPosition_29 hw
  · replace hw := hw.2 hb20
    refine J_aload_n rfl (i := 0) rfl dX10_bestPosition_9 ?_
    refine J_iload_n rfl (i := 2) rfl dX10_bestPosition_10 ?_
    obtain ⟨v9, hc8, hw⟩ := hw
    refine J_callV (as := [.int x2]) (k := 63) (st := [.ref 63]) cal_X10_isBeam cai_X10_isBeam gw_1675 ⟨by decide, by decide⟩ cnt_X10_isBeam sh_63 rfl rfl (Nat.le_of_ble_eq_true rfl) dX10_bestPosition_11 (Nat.zero_add _).symm (Nat.zero_add _).symm hc8 ?_
    refine J_if_eq (tgt := 21) dX10_bestPosition_14 (by decide) (fun hb19 => ?_) (fun hb19 => ?_)
    · replace hw := hw.1 hb19
      refine J_iconst (v := 0) (by decide) dX10_bestPosition_21 ?_
      obtain ⟨v12, m13, hc11, hw⟩ := hw
      refine J_callV (as := [.int 0]) (k := 63) (st := []) cal_X10_isWrong cai_X10_isWrong gw_1663 ⟨by decide, by decide⟩ cnt_X10_isWrong sh_63 rfl rfl (Nat.le_of_ble_eq_true rfl) dX10_bestPosition_22 (Nat.zero_add _).symm (Nat.zero_add _).symm hc11 ?_
      refine J_if_eq (tgt := 30) dX10_bestPosition_25 (by decide) (fun hb14 => ?_) (fun hb14 => ?_)
      · replace hw := hw.1 hb14
        exact hw
      · replace hw := hw.2 hb14
        refine J_iconst (v := 0) (by decide) dX10_bestPosition_28 ?_
        exact J_fini (ty := .int) rfl rfl dX10_bestPosition_29 hw
    · replace hw := hw.2 hb19
      refine J_iconst (v := 1) (by decide) dX10_bestPosition_17 ?_
      refine J_goto (tgt := 22) dX10_bestPosition_18 (by decide) ?_
      obtain ⟨v16, m17, hc15, hw⟩ := hw
      refine J_callV (as := [.int 1]) (k := 63) (st := []) cal_X10_isWrong cai_X10_isWrong gw_1663 ⟨by decide, by decide⟩ cnt_X10_isWrong sh_63 rfl rfl (Nat.le_of_ble_eq_true rfl) dX10_bestPosition_22 (Nat.zero_add _).symm (Nat.zero_add _).symm hc15 ?_
      refine J_if_eq (tgt := 30) dX10_bestPosition_25 (by decide) (fun hb18 => ?_) (fun hb18 => ?_)
      · replace hw := hw.1 hb18
        exact hw
      · replace hw := hw.2 hb18
        refine J_iconst (v := 0) (by decide) dX10_bestPosition_28 ?_
        exact J_fini (ty := .int) rfl rfl dX10_bestPosition_29 hw
set_option maxRecDepth 20000 in
theorem bX10_bestPosition_30 {G : Gx} {mm : Nat → Nat → Int32} {lm : Nat → Int64} {x1 : Int32} {x2 : Int32} {o : Ou} {z : Wd} {a b : Nat} (hw : ∃ (v2 : Int32), Ct G M_X10_hangs [.ref 63, .int x1] (SH, mm, lm) false (.inl (some (.int v2))) (SH, mm, lm) false 0 0 ∧ ((v2 = 0) → J G M_X10_bestPosition 51 [(0, .ref 63), (1, .int x1), (2, .int x2), (3, .int (-3)), (4, .int 0), (5, .int (-15))] [] (SH, mm, lm) false o z false a b) ∧ ((¬ v2 = 0) → o = .inl (some (.int (-2))) ∧ z = (SH, mm, lm))) :
    J G M_X10_bestPosition 30 [(0, .ref 63), (1, .int x1), (2, .int x2)] [] (SH, mm, lm) false o z false a b := by
  refine J_aload_n rfl (i := 0) rfl dX10_bestPosition_30 ?_
  refine J_iload_n rfl (i := 1) rfl dX10_bestPosition_31 ?_
  obtain ⟨v2, hc1, hw⟩ := hw
  refine J_callV (as := [.int x1]) (k := 63) (st := []) cal_X10_hangs cai_X10_hangs gw_1684 ⟨by decide, by decide⟩ cnt_X10_hangs sh_63 rfl rfl (Nat.le_of_ble_eq_true rfl) dX10_bestPosition_32 (Nat.zero_add _).symm (Nat.zero_add _).symm hc1 ?_
  refine J_if_eq (tgt := 41) dX10_bestPosition_35 (by decide) (fun hb4 => ?_) (fun hb4 => ?_)
  · replace hw := hw.1 hb4
    refine J_bipush (v := (-3)) (by decide) dX10_bestPosition_41 ?_
    refine J_istore_n [(3, .int (-3)), (0, .ref 63), (1, .int x1), (2, .int x2)] rfl (i := 3) (by decide) rfl dX10_bestPosition_43 ?_
    refine J_iconst (v := 0) (by decide) dX10_bestPosition_44 ?_
    refine J_istore [(4, .int 0), (3, .int (-3)), (0, .ref 63), (1, .int x1), (2, .int x2)] (i := 4) (by decide) rfl dX10_bestPosition_45 ?_
    refine J_bipush (v := (-15)) (by decide) dX10_bestPosition_47 ?_
    refine J_istore [(5, .int (-15)), (4, .int 0), (3, .int (-3)), (0, .ref 63), (1, .int x1), (2, .int x2)] (i := 5) (by decide) rfl dX10_bestPosition_49 ?_
    exact J_sub [3, 4, 5, 2, 1, 0] rfl hw
  · replace hw := hw.2 hb4
    refine J_bipush (v := (-2)) (by decide) dX10_bestPosition_38 ?_
    exact J_fini (ty := .int) rfl rfl dX10_bestPosition_40 hw
set_option maxRecDepth 20000 in
theorem bX10_bestPosition_51 {G : Gx} {mm : Nat → Nat → Int32} {lm : Nat → Int64} {x1 : Int32} {x2 : Int32} {x3 : Int32} {x4 : Int32} {x5 : Int32} {o : Ou} {z : Wd} {a b : Nat} (hw : ((15 < x5) → o = .inl (some (.int x3)) ∧ z = (SH, mm, lm)) ∧ ((¬ 15 < x5) → ∃ (v2 : Int32), Ct G M_X10_pull [.ref 63, .int x2] (SH, mm, lm) false (.inl (some (.int v2))) (SH, mm, lm) false 0 0 ∧ ∃ j4 : Nat, x1 = nI j4 ∧ j4 < 8 ∧ ∃ (v6 : Int32), Ct G M_X10_size [.int (v2 + ((mm 68 j4) * x5))] (SH, mm, lm) false (.inl (some (.int v6))) (SH, mm, lm) false 0 0 ∧ ∃ (v9 : Int32), Ct G M_X10_canHang [.ref 63, .int x1, .int x2, .int x5] (SH, mm, lm) false (.inl (some (.int v9))) (SH, mm, lm) false 0 0 ∧ ((v9 = 0) → J G M_X10_bestPosition 51 [(0, .ref 63), (1, .int x1), (2, .int x2), (3, .int x3), (4, .int x4), (5, .int (x5 + 1))] [] (SH, mm, lm) false o z false a b) ∧ ((¬ v9 = 0) → ((x3 < 0) → J G M_X10_bestPosition 51 [(0, .ref 63), (1, .int x1), (2, .int x2), (3, .int (100 + x5)), (4, .int v6), (5, .int (x5 + 1))] [] (SH, mm, lm) false o z false a b) ∧ ((¬ x3 < 0) → ((x4 ≤ v6) → J G M_X10_bestPosition 51 [(0, .ref 63), (1, .int x1), (2, .int x2), (3, .int x3), (4, .int x4), (5, .int (x5 + 1))] [] (SH, mm, lm) false o z false a b) ∧ ((¬ x4 ≤ v6) → J G M_X10_bestPosition 51 [(0, .ref 63), (1, .int x1), (2, .int x2), (3, .int (100 + x5)), (4, .int v6), (5, .int (x5 + 1))] [] (SH, mm, lm) false o z false a b))))) :
    J G M_X10_bestPosition 51 [(0, .ref 63), (1, .int x1), (2, .int x2), (3, .int x3), (4, .int x4), (5, .int x5)] [] (SH, mm, lm) false o z false a b := by
  refine J_iload (i := 5) rfl dX10_bestPosition_51 ?_
  refine J_bipush (v := 15) (by decide) dX10_bestPosition_53 ?_
  refine J_icmp_gt (tgt := 116) dX10_bestPosition_55 (by decide) (fun hb14 => ?_) (fun hb14 => ?_)
  · replace hw := hw.1 hb14
    refine J_iload_n rfl (i := 3) rfl dX10_bestPosition_116 ?_
    exact J_fini (ty := .int) rfl rfl dX10_bestPosition_117 hw
  · replace hw := hw.2 hb14
    refine J_aload_n rfl (i := 0) rfl dX10_bestPosition_58 ?_
    refine J_iload_n rfl (i := 2) rfl dX10_bestPosition_59 ?_
    obtain ⟨v2, hc1, hw⟩ := hw
    refine J_callV (as := [.int x2]) (k := 63) (st := []) cal_X10_pull cai_X10_pull gw_1699 ⟨by decide, by decide⟩ cnt_X10_pull sh_63 rfl rfl (Nat.le_of_ble_eq_true rfl) dX10_bestPosition_60 (Nat.zero_add _).symm (Nat.zero_add _).symm hc1 ?_
    refine J_aload_n rfl (i := 0) rfl dX10_bestPosition_63 ?_
    refine J_getr kls_10 (q := 63) (k := 9) sh_63 (by decide) rfl gw_1442 dX10_bestPosition_64 ?_
    refine J_iload_n rfl (i := 1) rfl dX10_bestPosition_67 ?_
    obtain ⟨j4, ej4, hj4, hw⟩ := hw
    refine J_iald sh_68 ej4 hj4 (by decide) dX10_bestPosition_68 ?_
    refine J_iload (i := 5) rfl dX10_bestPosition_69 ?_
    refine J_imul dX10_bestPosition_71 ?_
    refine J_iadd dX10_bestPosition_72 ?_
    obtain ⟨v6, hc5, hw⟩ := hw
    refine J_callS (as := [.int (v2 + ((mm 68 j4) * x5))]) (st := []) cal_X10_size cas_X10_size gw_1696 ⟨by decide, by decide⟩ cnt_X10_size rfl (Nat.le_of_ble_eq_true rfl) dX10_bestPosition_73 (Nat.zero_add _).symm (Nat.zero_add _).symm hc5 ?_
    refine J_istore [(6, .int v6), (0, .ref 63), (1, .int x1), (2, .int x2), (3, .int x3), (4, .int x4), (5, .int x5)] (i := 6) (by decide) rfl dX10_bestPosition_76 ?_
    refine J_aload_n rfl (i := 0) rfl dX10_bestPosition_78 ?_
    refine J_iload_n rfl (i := 1) rfl dX10_bestPosition_79 ?_
    refine J_iload_n rfl (i := 2) rfl dX10_bestPosition_80 ?_
    refine J_iload (i := 5) rfl dX10_bestPosition_81 ?_
    obtain ⟨v9, hc8, hw⟩ := hw
    refine J_callV (as := [.int x1, .int x2, .int x5]) (k := 63) (st := []) cal_X10_canHang cai_X10_canHang gw_1747 ⟨by decide, by decide⟩ cnt_X10_canHang sh_63 rfl rfl (Nat.le_of_ble_eq_true rfl) dX10_bestPosition_83 (Nat.zero_add _).symm (Nat.zero_add _).symm hc8 ?_
    refine J_if_eq (tgt := 110) dX10_bestPosition_86 (by decide) (fun hb13 => ?_) (fun hb13 => ?_)
    · replace hw := hw.1 hb13
      refine J_iinc [(5, .int (x5 + 1)), (6, .int v6), (0, .ref 63), (1, .int x1), (2, .int x2), (3, .int x3), (4, .int x4)] (i := 5) (v := (x5 + 1)) rfl rfl (by decide) rfl dX10_bestPosition_110 ?_
      refine J_goto (tgt := 51) dX10_bestPosition_113 (by decide) ?_
      exact J_sub [2, 3, 4, 5, 6, 0] rfl hw
    · replace hw := hw.2 hb13
      refine J_iload_n rfl (i := 3) rfl dX10_bestPosition_89 ?_
      refine J_if_lt (tgt := 100) dX10_bestPosition_90 (by decide) (fun hb12 => ?_) (fun hb12 => ?_)
      · replace hw := hw.1 hb12
        refine J_bipush (v := 100) (by decide) dX10_bestPosition_100 ?_
        refine J_iload (i := 5) rfl dX10_bestPosition_102 ?_
        refine J_iadd dX10_bestPosition_104 ?_
        refine J_istore_n [(3, .int (100 + x5)), (6, .int v6), (0, .ref 63), (1, .int x1), (2, .int x2), (4, .int x4), (5, .int x5)] rfl (i := 3) (by decide) rfl dX10_bestPosition_105 ?_
        refine J_iload (i := 6) rfl dX10_bestPosition_106 ?_
        refine J_istore [(4, .int v6), (3, .int (100 + x5)), (6, .int v6), (0, .ref 63), (1, .int x1), (2, .int x2), (5, .int x5)] (i := 4) (by decide) rfl dX10_bestPosition_108 ?_
        refine J_iinc [(5, .int (x5 + 1)), (4, .int v6), (3, .int (100 + x5)), (6, .int v6), (0, .ref 63), (1, .int x1), (2, .int x2)] (i := 5) (v := (x5 + 1)) rfl rfl (by decide) rfl dX10_bestPosition_110 ?_
        refine J_goto (tgt := 51) dX10_bestPosition_113 (by decide) ?_
        exact J_sub [4, 5, 6, 2, 1, 0] rfl hw
      · replace hw := hw.2 hb12
        refine J_iload (i := 6) rfl dX10_bestPosition_93 ?_
        refine J_iload (i := 4) rfl dX10_bestPosition_95 ?_
        refine J_icmp_ge (tgt := 110) dX10_bestPosition_97 (by decide) (fun hb11 => ?_) (fun hb11 => ?_)
        · replace hw := hw.1 hb11
          refine J_iinc [(5, .int (x5 + 1)), (6, .int v6), (0, .ref 63), (1, .int x1), (2, .int x2), (3, .int x3), (4, .int x4)] (i := 5) (v := (x5 + 1)) rfl rfl (by decide) rfl dX10_bestPosition_110 ?_
          refine J_goto (tgt := 51) dX10_bestPosition_113 (by decide) ?_
          exact J_sub [2, 3, 4, 5, 6, 0] rfl hw
        · replace hw := hw.2 hb11
          refine J_bipush (v := 100) (by decide) dX10_bestPosition_100 ?_
          refine J_iload (i := 5) rfl dX10_bestPosition_102 ?_
          refine J_iadd dX10_bestPosition_104 ?_
          refine J_istore_n [(3, .int (100 + x5)), (6, .int v6), (0, .ref 63), (1, .int x1), (2, .int x2), (4, .int x4), (5, .int x5)] rfl (i := 3) (by decide) rfl dX10_bestPosition_105 ?_
          refine J_iload (i := 6) rfl dX10_bestPosition_106 ?_
          refine J_istore [(4, .int v6), (3, .int (100 + x5)), (6, .int v6), (0, .ref 63), (1, .int x1), (2, .int x2), (5, .int x5)] (i := 4) (by decide) rfl dX10_bestPosition_108 ?_
          refine J_iinc [(5, .int (x5 + 1)), (4, .int v6), (3, .int (100 + x5)), (6, .int v6), (0, .ref 63), (1, .int x1), (2, .int x2)] (i := 5) (v := (x5 + 1)) rfl rfl (by decide) rfl dX10_bestPosition_110 ?_
          refine J_goto (tgt := 51) dX10_bestPosition_113 (by decide) ?_
          exact J_sub [4, 5, 6, 2, 1, 0] rfl hw
theorem dX10_isMirrorClear_0 : decode cX10_isMirrorClear 0 = .ok (.aload_n 0, 1) := by decide +kernel
theorem dX10_isMirrorClear_1 : decode cX10_isMirrorClear 1 = .ok (.iconst 0, 1) := by decide +kernel
theorem dX10_isMirrorClear_2 : decode cX10_isMirrorClear 2 = .ok (.putfield 270, 3) := by decide +kernel
theorem dX10_isMirrorClear_5 : decode cX10_isMirrorClear 5 = .ok (.iconst 0, 1) := by decide +kernel
theorem dX10_isMirrorClear_6 : decode cX10_isMirrorClear 6 = .ok (.istore_n 3, 1) := by decide +kernel
theorem dX10_isMirrorClear_7 : decode cX10_isMirrorClear 7 = .ok (.iload_n 3, 1) := by decide +kernel
theorem dX10_isMirrorClear_8 : decode cX10_isMirrorClear 8 = .ok (.aload_n 0, 1) := by decide +kernel
theorem dX10_isMirrorClear_9 : decode cX10_isMirrorClear 9 = .ok (.getfield 206, 3) := by decide +kernel
theorem dX10_isMirrorClear_12 : decode cX10_isMirrorClear 12 = .ok (.if_icmp .ge 148, 3) := by decide +kernel
theorem dX10_isMirrorClear_15 : decode cX10_isMirrorClear 15 = .ok (.aload_n 0, 1) := by decide +kernel
theorem dX10_isMirrorClear_16 : decode cX10_isMirrorClear 16 = .ok (.iload_n 3, 1) := by decide +kernel
theorem dX10_isMirrorClear_17 : decode cX10_isMirrorClear 17 = .ok (.iconst 0, 1) := by decide +kernel
theorem dX10_isMirrorClear_18 : decode cX10_isMirrorClear 18 = .ok (.invokevirtual 229, 3) := by decide +kernel
theorem dX10_isMirrorClear_21 : decode cX10_isMirrorClear 21 = .ok (.iload_n 1, 1) := by decide +kernel
theorem dX10_isMirrorClear_22 : decode cX10_isMirrorClear 22 = .ok (.if_icmp .eq 6, 3) := by decide +kernel
theorem dX10_isMirrorClear_25 : decode cX10_isMirrorClear 25 = .ok (.goto 129, 3) := by decide +kernel
theorem dX10_isMirrorClear_28 : decode cX10_isMirrorClear 28 = .ok (.iload_n 2, 1) := by decide +kernel
theorem dX10_isMirrorClear_29 : decode cX10_isMirrorClear 29 = .ok (.iload_n 3, 1) := by decide +kernel
theorem dX10_isMirrorClear_30 : decode cX10_isMirrorClear 30 = .ok (.invokestatic 273, 3) := by decide +kernel
theorem dX10_isMirrorClear_33 : decode cX10_isMirrorClear 33 = .ok (.ifCond .eq 13, 3) := by decide +kernel
theorem dX10_isMirrorClear_36 : decode cX10_isMirrorClear 36 = .ok (.aload_n 0, 1) := by decide +kernel
theorem dX10_isMirrorClear_37 : decode cX10_isMirrorClear 37 = .ok (.iload_n 3, 1) := by decide +kernel
theorem dX10_isMirrorClear_38 : decode cX10_isMirrorClear 38 = .ok (.iconst 1, 1) := by decide +kernel
theorem dX10_isMirrorClear_39 : decode cX10_isMirrorClear 39 = .ok (.invokevirtual 229, 3) := by decide +kernel
theorem dX10_isMirrorClear_42 : decode cX10_isMirrorClear 42 = .ok (.ineg, 1) := by decide +kernel
theorem dX10_isMirrorClear_43 : decode cX10_isMirrorClear 43 = .ok (.goto 9, 3) := by decide +kernel
theorem dX10_isMirrorClear_46 : decode cX10_isMirrorClear 46 = .ok (.aload_n 0, 1) := by decide +kernel
theorem dX10_isMirrorClear_47 : decode cX10_isMirrorClear 47 = .ok (.iload_n 3, 1) := by decide +kernel
theorem dX10_isMirrorClear_48 : decode cX10_isMirrorClear 48 = .ok (.iconst 1, 1) := by decide +kernel
theorem dX10_isMirrorClear_49 : decode cX10_isMirrorClear 49 = .ok (.invokevirtual 229, 3) := by decide +kernel
theorem dX10_isMirrorClear_52 : decode cX10_isMirrorClear 52 = .ok (.istore 4, 2) := by decide +kernel
theorem dX10_isMirrorClear_54 : decode cX10_isMirrorClear 54 = .ok (.aload_n 0, 1) := by decide +kernel
theorem dX10_isMirrorClear_55 : decode cX10_isMirrorClear 55 = .ok (.dup, 1) := by decide +kernel
theorem dX10_isMirrorClear_56 : decode cX10_isMirrorClear 56 = .ok (.getfield 270, 3) := by decide +kernel
theorem dX10_isMirrorClear_59 : decode cX10_isMirrorClear 59 = .ok (.aload_n 0, 1) := by decide +kernel
theorem dX10_isMirrorClear_60 : decode cX10_isMirrorClear 60 = .ok (.getfield 22, 3) := by decide +kernel
theorem dX10_isMirrorClear_63 : decode cX10_isMirrorClear 63 = .ok (.iload_n 3, 1) := by decide +kernel
theorem dX10_isMirrorClear_64 : decode cX10_isMirrorClear 64 = .ok (.iaload, 1) := by decide +kernel
theorem dX10_isMirrorClear_65 : decode cX10_isMirrorClear 65 = .ok (.iload 4, 2) := by decide +kernel
theorem dX10_isMirrorClear_67 : decode cX10_isMirrorClear 67 = .ok (.imul, 1) := by decide +kernel
theorem dX10_isMirrorClear_68 : decode cX10_isMirrorClear 68 = .ok (.iadd, 1) := by decide +kernel
theorem dX10_isMirrorClear_69 : decode cX10_isMirrorClear 69 = .ok (.putfield 270, 3) := by decide +kernel
theorem dX10_isMirrorClear_72 : decode cX10_isMirrorClear 72 = .ok (.iconst 0, 1) := by decide +kernel
theorem dX10_isMirrorClear_73 : decode cX10_isMirrorClear 73 = .ok (.istore 5, 2) := by decide +kernel
theorem dX10_isMirrorClear_75 : decode cX10_isMirrorClear 75 = .ok (.iload 5, 2) := by decide +kernel
theorem dX10_isMirrorClear_77 : decode cX10_isMirrorClear 77 = .ok (.iload_n 3, 1) := by decide +kernel
theorem dX10_isMirrorClear_78 : decode cX10_isMirrorClear 78 = .ok (.if_icmp .ge 76, 3) := by decide +kernel
theorem dX10_isMirrorClear_81 : decode cX10_isMirrorClear 81 = .ok (.iload_n 2, 1) := by decide +kernel
theorem dX10_isMirrorClear_82 : decode cX10_isMirrorClear 82 = .ok (.iload 5, 2) := by decide +kernel
theorem dX10_isMirrorClear_84 : decode cX10_isMirrorClear 84 = .ok (.invokestatic 273, 3) := by decide +kernel
theorem dX10_isMirrorClear_87 : decode cX10_isMirrorClear 87 = .ok (.ifCond .eq 14, 3) := by decide +kernel
theorem dX10_isMirrorClear_90 : decode cX10_isMirrorClear 90 = .ok (.aload_n 0, 1) := by decide +kernel
theorem dX10_isMirrorClear_91 : decode cX10_isMirrorClear 91 = .ok (.iload 5, 2) := by decide +kernel
theorem dX10_isMirrorClear_93 : decode cX10_isMirrorClear 93 = .ok (.iconst 1, 1) := by decide +kernel
theorem dX10_isMirrorClear_94 : decode cX10_isMirrorClear 94 = .ok (.invokevirtual 229, 3) := by decide +kernel
theorem dX10_isMirrorClear_97 : decode cX10_isMirrorClear 97 = .ok (.ineg, 1) := by decide +kernel
theorem dX10_isMirrorClear_98 : decode cX10_isMirrorClear 98 = .ok (.goto 10, 3) := by decide +kernel
theorem dX10_isMirrorClear_101 : decode cX10_isMirrorClear 101 = .ok (.aload_n 0, 1) := by decide +kernel
theorem dX10_isMirrorClear_102 : decode cX10_isMirrorClear 102 = .ok (.iload 5, 2) := by decide +kernel
theorem dX10_isMirrorClear_104 : decode cX10_isMirrorClear 104 = .ok (.iconst 1, 1) := by decide +kernel
theorem dX10_isMirrorClear_105 : decode cX10_isMirrorClear 105 = .ok (.invokevirtual 229, 3) := by decide +kernel
theorem dX10_isMirrorClear_108 : decode cX10_isMirrorClear 108 = .ok (.istore 6, 2) := by decide +kernel
theorem dX10_isMirrorClear_110 : decode cX10_isMirrorClear 110 = .ok (.aload_n 0, 1) := by decide +kernel
theorem dX10_isMirrorClear_111 : decode cX10_isMirrorClear 111 = .ok (.iload 5, 2) := by decide +kernel
theorem dX10_isMirrorClear_113 : decode cX10_isMirrorClear 113 = .ok (.iconst 0, 1) := by decide +kernel
theorem dX10_isMirrorClear_114 : decode cX10_isMirrorClear 114 = .ok (.invokevirtual 229, 3) := by decide +kernel
theorem dX10_isMirrorClear_117 : decode cX10_isMirrorClear 117 = .ok (.iload_n 1, 1) := by decide +kernel
theorem dX10_isMirrorClear_118 : decode cX10_isMirrorClear 118 = .ok (.if_icmp .ne 30, 3) := by decide +kernel
theorem dX10_isMirrorClear_121 : decode cX10_isMirrorClear 121 = .ok (.iload 4, 2) := by decide +kernel
theorem dX10_isMirrorClear_123 : decode cX10_isMirrorClear 123 = .ok (.iload 6, 2) := by decide +kernel
theorem dX10_isMirrorClear_125 : decode cX10_isMirrorClear 125 = .ok (.isub, 1) := by decide +kernel
theorem dX10_isMirrorClear_126 : decode cX10_isMirrorClear 126 = .ok (.invokestatic 232, 3) := by decide +kernel
theorem dX10_isMirrorClear_129 : decode cX10_isMirrorClear 129 = .ok (.aload_n 0, 1) := by decide +kernel
theorem dX10_isMirrorClear_130 : decode cX10_isMirrorClear 130 = .ok (.getfield 25, 3) := by decide +kernel
theorem dX10_isMirrorClear_133 : decode cX10_isMirrorClear 133 = .ok (.iload_n 3, 1) := by decide +kernel
theorem dX10_isMirrorClear_134 : decode cX10_isMirrorClear 134 = .ok (.iaload, 1) := by decide +kernel
theorem dX10_isMirrorClear_135 : decode cX10_isMirrorClear 135 = .ok (.aload_n 0, 1) := by decide +kernel
theorem dX10_isMirrorClear_136 : decode cX10_isMirrorClear 136 = .ok (.getfield 25, 3) := by decide +kernel
theorem dX10_isMirrorClear_139 : decode cX10_isMirrorClear 139 = .ok (.iload 5, 2) := by decide +kernel
theorem dX10_isMirrorClear_141 : decode cX10_isMirrorClear 141 = .ok (.iaload, 1) := by decide +kernel
theorem dX10_isMirrorClear_142 : decode cX10_isMirrorClear 142 = .ok (.iadd, 1) := by decide +kernel
theorem dX10_isMirrorClear_143 : decode cX10_isMirrorClear 143 = .ok (.if_icmp .ge 5, 3) := by decide +kernel
theorem dX10_isMirrorClear_146 : decode cX10_isMirrorClear 146 = .ok (.iconst 0, 1) := by decide +kernel
theorem dX10_isMirrorClear_147 : decode cX10_isMirrorClear 147 = .ok (.ireturn, 1) := by decide +kernel
theorem dX10_isMirrorClear_148 : decode cX10_isMirrorClear 148 = .ok (.iinc 5 1, 3) := by decide +kernel
theorem dX10_isMirrorClear_151 : decode cX10_isMirrorClear 151 = .ok (.goto (-76), 3) := by decide +kernel
theorem dX10_isMirrorClear_154 : decode cX10_isMirrorClear 154 = .ok (.iinc 3 1, 3) := by decide +kernel
theorem dX10_isMirrorClear_157 : decode cX10_isMirrorClear 157 = .ok (.goto (-150), 3) := by decide +kernel
theorem dX10_isMirrorClear_160 : decode cX10_isMirrorClear 160 = .ok (.iconst 1, 1) := by decide +kernel
theorem dX10_isMirrorClear_161 : decode cX10_isMirrorClear 161 = .ok (.ireturn, 1) := by decide +kernel
set_option maxRecDepth 20000 in
theorem bX10_isMirrorClear_0 {G : Gx} {mm : Nat → Nat → Int32} {lm : Nat → Int64} {x1 : Int32} {x2 : Int32} {o : Ou} {z : Wd} {a b : Nat} (hw : J G M_X10_isMirrorClear 7 [(0, .ref 63), (1, .int x1), (2, .int x2), (3, .int 0)] [] (SH, (mset mm 63 31 0), lm) false o z false a b) :
    J G M_X10_isMirrorClear 0 [(0, .ref 63), (1, .int x1), (2, .int x2)] [] (SH, mm, lm) false o z false a b := by
  refine J_aload_n rfl (i := 0) rfl dX10_isMirrorClear_0 ?_
  refine J_iconst (v := 0) (by decide) dX10_isMirrorClear_1 ?_
  refine J_puti kls_10 (q := 63) (k := 31) sh_63 (by decide) rfl rfl (fun _ => rfl) (fun _ => rfl) gw_1464 dX10_isMirrorClear_2 ?_
  refine J_iconst (v := 0) (by decide) dX10_isMirrorClear_5 ?_
  refine J_istore_n [(3, .int 0), (0, .ref 63), (1, .int x1), (2, .int x2)] rfl (i := 3) (by decide) rfl dX10_isMirrorClear_6 ?_
  exact J_sub [1, 2, 3, 0] rfl hw
set_option maxRecDepth 20000 in
theorem bX10_isMirrorClear_7 {G : Gx} {mm : Nat → Nat → Int32} {lm : Nat → Int64} {x1 : Int32} {x2 : Int32} {x3 : Int32} {o : Ou} {z : Wd} {a b : Nat} (hw : (((mm 63 8) ≤ x3) → o = .inl (some (.int 1)) ∧ z = (SH, mm, lm)) ∧ ((¬ (mm 63 8) ≤ x3) → ∃ (v2 : Int32), Ct G M_X10_of [.ref 63, .int x3, .int 0] (SH, mm, lm) false (.inl (some (.int v2))) (SH, mm, lm) false 0 0 ∧ ((v2 = x1) → ∃ (v5 : Int32), Ct G M_X10_has [.int x2, .int x3] (SH, mm, lm) false (.inl (some (.int v5))) (SH, mm, lm) false 0 0 ∧ ((v5 = 0) → ∃ (v8 : Int32), Ct G M_X10_of [.ref 63, .int x3, .int 1] (SH, mm, lm) false (.inl (some (.int v8))) (SH, mm, lm) false 0 0 ∧ ∃ j10 : Nat, x3 = nI j10 ∧ j10 < 8 ∧ J G M_X10_isMirrorClear 75 [(0, .ref 63), (1, .int x1), (2, .int x2), (3, .int x3), (4, .int v8), (5, .int 0)] [] (SH, (mset mm 63 31 ((mm 63 31) + ((mm 68 j10) * v8))), lm) false o z false a b) ∧ ((¬ v5 = 0) → ∃ (v12 : Int32), Ct G M_X10_of [.ref 63, .int x3, .int 1] (SH, mm, lm) false (.inl (some (.int v12))) (SH, mm, lm) false 0 0 ∧ ∃ j14 : Nat, x3 = nI j14 ∧ j14 < 8 ∧ J G M_X10_isMirrorClear 75 [(0, .ref 63), (1, .int x1), (2, .int x2), (3, .int x3), (4, .int (-v12)), (5, .int 0)] [] (SH, (mset mm 63 31 ((mm 63 31) + ((mm 68 j14) * (-v12)))), lm) false o z false a b)) ∧ ((¬ v2 = x1) → J G M_X10_isMirrorClear 7 [(0, .ref 63), (1, .int x1), (2, .int x2), (3, .int (x3 + 1))] [] (SH, mm, lm) false o z false a b))) :
    J G M_X10_isMirrorClear 7 [(0, .ref 63), (1, .int x1), (2, .int x2), (3, .int x3)] [] (SH, mm, lm) false o z false a b := by
  refine J_iload_n rfl (i := 3) rfl dX10_isMirrorClear_7 ?_
  refine J_aload_n rfl (i := 0) rfl dX10_isMirrorClear_8 ?_
  refine J_geti kls_10 (q := 63) (k := 8) sh_63 (by decide) rfl gw_1441 dX10_isMirrorClear_9 ?_
  refine J_icmp_ge (tgt := 160) dX10_isMirrorClear_12 (by decide) (fun hb17 => ?_) (fun hb17 => ?_)
  · replace hw := hw.1 hb17
    refine J_iconst (v := 1) (by decide) dX10_isMirrorClear_160 ?_
    exact J_fini (ty := .boolean) rfl rfl dX10_isMirrorClear_161 hw
  · replace hw := hw.2 hb17
    refine J_aload_n rfl (i := 0) rfl dX10_isMirrorClear_15 ?_
    refine J_iload_n rfl (i := 3) rfl dX10_isMirrorClear_16 ?_
    refine J_iconst (v := 0) (by decide) dX10_isMirrorClear_17 ?_
    obtain ⟨v2, hc1, hw⟩ := hw
    refine J_callV (as := [.int x3, .int 0]) (k := 63) (st := []) cal_X10_of cai_X10_of gw_1688 ⟨by decide, by decide⟩ cnt_X10_of sh_63 rfl rfl (Nat.le_of_ble_eq_true rfl) dX10_isMirrorClear_18 (Nat.zero_add _).symm (Nat.zero_add _).symm hc1 ?_
    refine J_iload_n rfl (i := 1) rfl dX10_isMirrorClear_21 ?_
    refine J_icmp_eq (tgt := 28) dX10_isMirrorClear_22 (by decide) (fun hb16 => ?_) (fun hb16 => ?_)
    · replace hw := hw.1 hb16
      refine J_iload_n rfl (i := 2) rfl dX10_isMirrorClear_28 ?_
      refine J_iload_n rfl (i := 3) rfl dX10_isMirrorClear_29 ?_
      obtain ⟨v5, hc4, hw⟩ := hw
      refine J_callS (as := [.int x2, .int x3]) (st := []) cal_X10_has cas_X10_has gw_1768 ⟨by decide, by decide⟩ cnt_X10_has rfl (Nat.le_of_ble_eq_true rfl) dX10_isMirrorClear_30 (Nat.zero_add _).symm (Nat.zero_add _).symm hc4 ?_
      refine J_if_eq (tgt := 46) dX10_isMirrorClear_33 (by decide) (fun hb15 => ?_) (fun hb15 => ?_)
      · replace hw := hw.1 hb15
        refine J_aload_n rfl (i := 0) rfl dX10_isMirrorClear_46 ?_
        refine J_iload_n rfl (i := 3) rfl dX10_isMirrorClear_47 ?_
        refine J_iconst (v := 1) (by decide) dX10_isMirrorClear_48 ?_
        obtain ⟨v8, hc7, hw⟩ := hw
        refine J_callV (as := [.int x3, .int 1]) (k := 63) (st := []) cal_X10_of cai_X10_of gw_1688 ⟨by decide, by decide⟩ cnt_X10_of sh_63 rfl rfl (Nat.le_of_ble_eq_true rfl) dX10_isMirrorClear_49 (Nat.zero_add _).symm (Nat.zero_add _).symm hc7 ?_
        refine J_istore [(4, .int v8), (0, .ref 63), (1, .int x1), (2, .int x2), (3, .int x3)] (i := 4) (by decide) rfl dX10_isMirrorClear_52 ?_
        refine J_aload_n rfl (i := 0) rfl dX10_isMirrorClear_54 ?_
        refine J_dupr dX10_isMirrorClear_55 ?_
        refine J_geti kls_10 (q := 63) (k := 31) sh_63 (by decide) rfl gw_1464 dX10_isMirrorClear_56 ?_
        refine J_aload_n rfl (i := 0) rfl dX10_isMirrorClear_59 ?_
        refine J_getr kls_10 (q := 63) (k := 9) sh_63 (by decide) rfl gw_1442 dX10_isMirrorClear_60 ?_
        refine J_iload_n rfl (i := 3) rfl dX10_isMirrorClear_63 ?_
        obtain ⟨j10, ej10, hj10, hw⟩ := hw
        refine J_iald sh_68 ej10 hj10 (by decide) dX10_isMirrorClear_64 ?_
        refine J_iload (i := 4) rfl dX10_isMirrorClear_65 ?_
        refine J_imul dX10_isMirrorClear_67 ?_
        refine J_iadd dX10_isMirrorClear_68 ?_
        refine J_puti kls_10 (q := 63) (k := 31) sh_63 (by decide) rfl rfl (fun _ => rfl) (fun _ => rfl) gw_1464 dX10_isMirrorClear_69 ?_
        refine J_iconst (v := 0) (by decide) dX10_isMirrorClear_72 ?_
        refine J_istore [(5, .int 0), (4, .int v8), (0, .ref 63), (1, .int x1), (2, .int x2), (3, .int x3)] (i := 5) (by decide) rfl dX10_isMirrorClear_73 ?_
        exact J_sub [2, 3, 4, 5, 1, 0] rfl hw
      · replace hw := hw.2 hb15
        refine J_aload_n rfl (i := 0) rfl dX10_isMirrorClear_36 ?_
        refine J_iload_n rfl (i := 3) rfl dX10_isMirrorClear_37 ?_
        refine J_iconst (v := 1) (by decide) dX10_isMirrorClear_38 ?_
        obtain ⟨v12, hc11, hw⟩ := hw
        refine J_callV (as := [.int x3, .int 1]) (k := 63) (st := []) cal_X10_of cai_X10_of gw_1688 ⟨by decide, by decide⟩ cnt_X10_of sh_63 rfl rfl (Nat.le_of_ble_eq_true rfl) dX10_isMirrorClear_39 (Nat.zero_add _).symm (Nat.zero_add _).symm hc11 ?_
        refine J_ineg dX10_isMirrorClear_42 ?_
        refine J_goto (tgt := 52) dX10_isMirrorClear_43 (by decide) ?_
        refine J_istore [(4, .int (-v12)), (0, .ref 63), (1, .int x1), (2, .int x2), (3, .int x3)] (i := 4) (by decide) rfl dX10_isMirrorClear_52 ?_
        refine J_aload_n rfl (i := 0) rfl dX10_isMirrorClear_54 ?_
        refine J_dupr dX10_isMirrorClear_55 ?_
        refine J_geti kls_10 (q := 63) (k := 31) sh_63 (by decide) rfl gw_1464 dX10_isMirrorClear_56 ?_
        refine J_aload_n rfl (i := 0) rfl dX10_isMirrorClear_59 ?_
        refine J_getr kls_10 (q := 63) (k := 9) sh_63 (by decide) rfl gw_1442 dX10_isMirrorClear_60 ?_
        refine J_iload_n rfl (i := 3) rfl dX10_isMirrorClear_63 ?_
        obtain ⟨j14, ej14, hj14, hw⟩ := hw
        refine J_iald sh_68 ej14 hj14 (by decide) dX10_isMirrorClear_64 ?_
        refine J_iload (i := 4) rfl dX10_isMirrorClear_65 ?_
        refine J_imul dX10_isMirrorClear_67 ?_
        refine J_iadd dX10_isMirrorClear_68 ?_
        refine J_puti kls_10 (q := 63) (k := 31) sh_63 (by decide) rfl rfl (fun _ => rfl) (fun _ => rfl) gw_1464 dX10_isMirrorClear_69 ?_
        refine J_iconst (v := 0) (by decide) dX10_isMirrorClear_72 ?_
        refine J_istore [(5, .int 0), (4, .int (-v12)), (0, .ref 63), (1, .int x1), (2, .int x2), (3, .int x3)] (i := 5) (by decide) rfl dX10_isMirrorClear_73 ?_
        exact J_sub [2, 3, 4, 5, 1, 0] rfl hw
    · replace hw := hw.2 hb16
      refine J_goto (tgt := 154) dX10_isMirrorClear_25 (by decide) ?_
      refine J_iinc [(3, .int (x3 + 1)), (0, .ref 63), (1, .int x1), (2, .int x2)] (i := 3) (v := (x3 + 1)) rfl rfl (by decide) rfl dX10_isMirrorClear_154 ?_
      refine J_goto (tgt := 7) dX10_isMirrorClear_157 (by decide) ?_
      exact J_sub [1, 2, 3, 0] rfl hw
set_option maxRecDepth 20000 in
theorem bX10_isMirrorClear_75 {G : Gx} {mm : Nat → Nat → Int32} {lm : Nat → Int64} {x1 : Int32} {x2 : Int32} {x3 : Int32} {x4 : Int32} {x5 : Int32} {o : Ou} {z : Wd} {a b : Nat} (hw : ((x3 ≤ x5) → J G M_X10_isMirrorClear 7 [(0, .ref 63), (1, .int x1), (2, .int x2), (3, .int (x3 + 1))] [] (SH, mm, lm) false o z false a b) ∧ ((¬ x3 ≤ x5) → ∃ (v2 : Int32), Ct G M_X10_has [.int x2, .int x5] (SH, mm, lm) false (.inl (some (.int v2))) (SH, mm, lm) false 0 0 ∧ ((v2 = 0) → ∃ (v5 : Int32), Ct G M_X10_of [.ref 63, .int x5, .int 1] (SH, mm, lm) false (.inl (some (.int v5))) (SH, mm, lm) false 0 0 ∧ ∃ (v8 : Int32), Ct G M_X10_of [.ref 63, .int x5, .int 0] (SH, mm, lm) false (.inl (some (.int v8))) (SH, mm, lm) false 0 0 ∧ ((¬ v8 = x1) → J G M_X10_isMirrorClear 75 [(0, .ref 63), (1, .int x1), (2, .int x2), (3, .int x3), (4, .int x4), (5, .int (x5 + 1))] [] (SH, mm, lm) false o z false a b) ∧ ((v8 = x1) → ∃ (v11 : Int32), Ct G M_X10_size [.int (x4 - v5)] (SH, mm, lm) false (.inl (some (.int v11))) (SH, mm, lm) false 0 0 ∧ ∃ j13 : Nat, x3 = nI j13 ∧ j13 < 8 ∧ ∃ j14 : Nat, x5 = nI j14 ∧ j14 < 8 ∧ ((((mm 69 j13) + (mm 69 j14)) ≤ v11) → J G M_X10_isMirrorClear 75 [(0, .ref 63), (1, .int x1), (2, .int x2), (3, .int x3), (4, .int x4), (5, .int (x5 + 1))] [] (SH, mm, lm) false o z false a b) ∧ ((¬ ((mm 69 j13) + (mm 69 j14)) ≤ v11) → o = .inl (some (.int 0)) ∧ z = (SH, mm, lm)))) ∧ ((¬ v2 = 0) → ∃ (v18 : Int32), Ct G M_X10_of [.ref 63, .int x5, .int 1] (SH, mm, lm) false (.inl (some (.int v18))) (SH, mm, lm) false 0 0 ∧ ∃ (v21 : Int32), Ct G M_X10_of [.ref 63, .int x5, .int 0] (SH, mm, lm) false (.inl (some (.int v21))) (SH, mm, lm) false 0 0 ∧ ((¬ v21 = x1) → J G M_X10_isMirrorClear 75 [(0, .ref 63), (1, .int x1), (2, .int x2), (3, .int x3), (4, .int x4), (5, .int (x5 + 1))] [] (SH, mm, lm) false o z false a b) ∧ ((v21 = x1) → ∃ (v24 : Int32), Ct G M_X10_size [.int (x4 - (-v18))] (SH, mm, lm) false (.inl (some (.int v24))) (SH, mm, lm) false 0 0 ∧ ∃ j26 : Nat, x3 = nI j26 ∧ j26 < 8 ∧ ∃ j27 : Nat, x5 = nI j27 ∧ j27 < 8 ∧ ((((mm 69 j26) + (mm 69 j27)) ≤ v24) → J G M_X10_isMirrorClear 75 [(0, .ref 63), (1, .int x1), (2, .int x2), (3, .int x3), (4, .int x4), (5, .int (x5 + 1))] [] (SH, mm, lm) false o z false a b) ∧ ((¬ ((mm 69 j26) + (mm 69 j27)) ≤ v24) → o = .inl (some (.int 0)) ∧ z = (SH, mm, lm)))))) :
    J G M_X10_isMirrorClear 75 [(0, .ref 63), (1, .int x1), (2, .int x2), (3, .int x3), (4, .int x4), (5, .int x5)] [] (SH, mm, lm) false o z false a b := by
  refine J_iload (i := 5) rfl dX10_isMirrorClear_75 ?_
  refine J_iload_n rfl (i := 3) rfl dX10_isMirrorClear_77 ?_
  refine J_icmp_ge (tgt := 154) dX10_isMirrorClear_78 (by decide) (fun hb31 => ?_) (fun hb31 => ?_)
  · replace hw := hw.1 hb31
    refine J_iinc [(3, .int (x3 + 1)), (0, .ref 63), (1, .int x1), (2, .int x2), (4, .int x4), (5, .int x5)] (i := 3) (v := (x3 + 1)) rfl rfl (by decide) rfl dX10_isMirrorClear_154 ?_
    refine J_goto (tgt := 7) dX10_isMirrorClear_157 (by decide) ?_
    exact J_sub [1, 2, 3, 0] rfl hw
  · replace hw := hw.2 hb31
    refine J_iload_n rfl (i := 2) rfl dX10_isMirrorClear_81 ?_
    refine J_iload (i := 5) rfl dX10_isMirrorClear_82 ?_
    obtain ⟨v2, hc1, hw⟩ := hw
    refine J_callS (as := [.int x2, .int x5]) (st := []) cal_X10_has cas_X10_has gw_1768 ⟨by decide, by decide⟩ cnt_X10_has rfl (Nat.le_of_ble_eq_true rfl) dX10_isMirrorClear_84 (Nat.zero_add _).symm (Nat.zero_add _).symm hc1 ?_
    refine J_if_eq (tgt := 101) dX10_isMirrorClear_87 (by decide) (fun hb30 => ?_) (fun hb30 => ?_)
    · replace hw := hw.1 hb30
      refine J_aload_n rfl (i := 0) rfl dX10_isMirrorClear_101 ?_
      refine J_iload (i := 5) rfl dX10_isMirrorClear_102 ?_
      refine J_iconst (v := 1) (by decide) dX10_isMirrorClear_104 ?_
      obtain ⟨v5, hc4, hw⟩ := hw
      refine J_callV (as := [.int x5, .int 1]) (k := 63) (st := []) cal_X10_of cai_X10_of gw_1688 ⟨by decide, by decide⟩ cnt_X10_of sh_63 rfl rfl (Nat.le_of_ble_eq_true rfl) dX10_isMirrorClear_105 (Nat.zero_add _).symm (Nat.zero_add _).symm hc4 ?_
      refine J_istore [(6, .int v5), (0, .ref 63), (1, .int x1), (2, .int x2), (3, .int x3), (4, .int x4), (5, .int x5)] (i := 6) (by decide) rfl dX10_isMirrorClear_108 ?_
      refine J_aload_n rfl (i := 0) rfl dX10_isMirrorClear_110 ?_
      refine J_iload (i := 5) rfl dX10_isMirrorClear_111 ?_
      refine J_iconst (v := 0) (by decide) dX10_isMirrorClear_113 ?_
      obtain ⟨v8, hc7, hw⟩ := hw
      refine J_callV (as := [.int x5, .int 0]) (k := 63) (st := []) cal_X10_of cai_X10_of gw_1688 ⟨by decide, by decide⟩ cnt_X10_of sh_63 rfl rfl (Nat.le_of_ble_eq_true rfl) dX10_isMirrorClear_114 (Nat.zero_add _).symm (Nat.zero_add _).symm hc7 ?_
      refine J_iload_n rfl (i := 1) rfl dX10_isMirrorClear_117 ?_
      refine J_icmp_ne (tgt := 148) dX10_isMirrorClear_118 (by decide) (fun hb16 => ?_) (fun hb16 => ?_)
      · replace hw := hw.1 hb16
        refine J_iinc [(5, .int (x5 + 1)), (6, .int v5), (0, .ref 63), (1, .int x1), (2, .int x2), (3, .int x3), (4, .int x4)] (i := 5) (v := (x5 + 1)) rfl rfl (by decide) rfl dX10_isMirrorClear_148 ?_
        refine J_goto (tgt := 75) dX10_isMirrorClear_151 (by decide) ?_
        exact J_sub [2, 3, 4, 5, 6, 0] rfl hw
      · replace hw := hw.2 hb16
        refine J_iload (i := 4) rfl dX10_isMirrorClear_121 ?_
        refine J_iload (i := 6) rfl dX10_isMirrorClear_123 ?_
        refine J_isub dX10_isMirrorClear_125 ?_
        obtain ⟨v11, hc10, hw⟩ := hw
        refine J_callS (as := [.int (x4 - v5)]) (st := []) cal_X10_size cas_X10_size gw_1696 ⟨by decide, by decide⟩ cnt_X10_size rfl (Nat.le_of_ble_eq_true rfl) dX10_isMirrorClear_126 (Nat.zero_add _).symm (Nat.zero_add _).symm hc10 ?_
        refine J_aload_n rfl (i := 0) rfl dX10_isMirrorClear_129 ?_
        refine J_getr kls_10 (q := 63) (k := 10) sh_63 (by decide) rfl gw_1443 dX10_isMirrorClear_130 ?_
        refine J_iload_n rfl (i := 3) rfl dX10_isMirrorClear_133 ?_
        obtain ⟨j13, ej13, hj13, hw⟩ := hw
        refine J_iald sh_69 ej13 hj13 (by decide) dX10_isMirrorClear_134 ?_
        refine J_aload_n rfl (i := 0) rfl dX10_isMirrorClear_135 ?_
        refine J_getr kls_10 (q := 63) (k := 10) sh_63 (by decide) rfl gw_1443 dX10_isMirrorClear_136 ?_
        refine J_iload (i := 5) rfl dX10_isMirrorClear_139 ?_
        obtain ⟨j14, ej14, hj14, hw⟩ := hw
        refine J_iald sh_69 ej14 hj14 (by decide) dX10_isMirrorClear_141 ?_
        refine J_iadd dX10_isMirrorClear_142 ?_
        refine J_icmp_ge (tgt := 148) dX10_isMirrorClear_143 (by decide) (fun hb15 => ?_) (fun hb15 => ?_)
        · replace hw := hw.1 hb15
          refine J_iinc [(5, .int (x5 + 1)), (6, .int v5), (0, .ref 63), (1, .int x1), (2, .int x2), (3, .int x3), (4, .int x4)] (i := 5) (v := (x5 + 1)) rfl rfl (by decide) rfl dX10_isMirrorClear_148 ?_
          refine J_goto (tgt := 75) dX10_isMirrorClear_151 (by decide) ?_
          exact J_sub [2, 3, 4, 5, 6, 0] rfl hw
        · replace hw := hw.2 hb15
          refine J_iconst (v := 0) (by decide) dX10_isMirrorClear_146 ?_
          exact J_fini (ty := .boolean) rfl rfl dX10_isMirrorClear_147 hw
    · replace hw := hw.2 hb30
      refine J_aload_n rfl (i := 0) rfl dX10_isMirrorClear_90 ?_
      refine J_iload (i := 5) rfl dX10_isMirrorClear_91 ?_
      refine J_iconst (v := 1) (by decide) dX10_isMirrorClear_93 ?_
      obtain ⟨v18, hc17, hw⟩ := hw
      refine J_callV (as := [.int x5, .int 1]) (k := 63) (st := []) cal_X10_of cai_X10_of gw_1688 ⟨by decide, by decide⟩ cnt_X10_of sh_63 rfl rfl (Nat.le_of_ble_eq_true rfl) dX10_isMirrorClear_94 (Nat.zero_add _).symm (Nat.zero_add _).symm hc17 ?_
      refine J_ineg dX10_isMirrorClear_97 ?_
      refine J_goto (tgt := 108) dX10_isMirrorClear_98 (by decide) ?_
      refine J_istore [(6, .int (-v18)), (0, .ref 63), (1, .int x1), (2, .int x2), (3, .int x3), (4, .int x4), (5, .int x5)] (i := 6) (by decide) rfl dX10_isMirrorClear_108 ?_
      refine J_aload_n rfl (i := 0) rfl dX10_isMirrorClear_110 ?_
      refine J_iload (i := 5) rfl dX10_isMirrorClear_111 ?_
      refine J_iconst (v := 0) (by decide) dX10_isMirrorClear_113 ?_
      obtain ⟨v21, hc20, hw⟩ := hw
      refine J_callV (as := [.int x5, .int 0]) (k := 63) (st := []) cal_X10_of cai_X10_of gw_1688 ⟨by decide, by decide⟩ cnt_X10_of sh_63 rfl rfl (Nat.le_of_ble_eq_true rfl) dX10_isMirrorClear_114 (Nat.zero_add _).symm (Nat.zero_add _).symm hc20 ?_
      refine J_iload_n rfl (i := 1) rfl dX10_isMirrorClear_117 ?_
      refine J_icmp_ne (tgt := 148) dX10_isMirrorClear_118 (by decide) (fun hb29 => ?_) (fun hb29 => ?_)
      · replace hw := hw.1 hb29
        refine J_iinc [(5, .int (x5 + 1)), (6, .int (-v18)), (0, .ref 63), (1, .int x1), (2, .int x2), (3, .int x3), (4, .int x4)] (i := 5) (v := (x5 + 1)) rfl rfl (by decide) rfl dX10_isMirrorClear_148 ?_
        refine J_goto (tgt := 75) dX10_isMirrorClear_151 (by decide) ?_
        exact J_sub [2, 3, 4, 5, 6, 0] rfl hw
      · replace hw := hw.2 hb29
        refine J_iload (i := 4) rfl dX10_isMirrorClear_121 ?_
        refine J_iload (i := 6) rfl dX10_isMirrorClear_123 ?_
        refine J_isub dX10_isMirrorClear_125 ?_
        obtain ⟨v24, hc23, hw⟩ := hw
        refine J_callS (as := [.int (x4 - (-v18))]) (st := []) cal_X10_size cas_X10_size gw_1696 ⟨by decide, by decide⟩ cnt_X10_size rfl (Nat.le_of_ble_eq_true rfl) dX10_isMirrorClear_126 (Nat.zero_add _).symm (Nat.zero_add _).symm hc23 ?_
        refine J_aload_n rfl (i := 0) rfl dX10_isMirrorClear_129 ?_
        refine J_getr kls_10 (q := 63) (k := 10) sh_63 (by decide) rfl gw_1443 dX10_isMirrorClear_130 ?_
        refine J_iload_n rfl (i := 3) rfl dX10_isMirrorClear_133 ?_
        obtain ⟨j26, ej26, hj26, hw⟩ := hw
        refine J_iald sh_69 ej26 hj26 (by decide) dX10_isMirrorClear_134 ?_
        refine J_aload_n rfl (i := 0) rfl dX10_isMirrorClear_135 ?_
        refine J_getr kls_10 (q := 63) (k := 10) sh_63 (by decide) rfl gw_1443 dX10_isMirrorClear_136 ?_
        refine J_iload (i := 5) rfl dX10_isMirrorClear_139 ?_
        obtain ⟨j27, ej27, hj27, hw⟩ := hw
        refine J_iald sh_69 ej27 hj27 (by decide) dX10_isMirrorClear_141 ?_
        refine J_iadd dX10_isMirrorClear_142 ?_
        refine J_icmp_ge (tgt := 148) dX10_isMirrorClear_143 (by decide) (fun hb28 => ?_) (fun hb28 => ?_)
        · replace hw := hw.1 hb28
          refine J_iinc [(5, .int (x5 + 1)), (6, .int (-v18)), (0, .ref 63), (1, .int x1), (2, .int x2), (3, .int x3), (4, .int x4)] (i := 5) (v := (x5 + 1)) rfl rfl (by decide) rfl dX10_isMirrorClear_148 ?_
          refine J_goto (tgt := 75) dX10_isMirrorClear_151 (by decide) ?_
          exact J_sub [2, 3, 4, 5, 6, 0] rfl hw
        · replace hw := hw.2 hb28
          refine J_iconst (v := 0) (by decide) dX10_isMirrorClear_146 ?_
          exact J_fini (ty := .boolean) rfl rfl dX10_isMirrorClear_147 hw
theorem dX10_bestMirror_0 : decode cX10_bestMirror 0 = .ok (.iconst 0, 1) := by decide +kernel
theorem dX10_bestMirror_1 : decode cX10_bestMirror 1 = .ok (.istore_n 2, 1) := by decide +kernel
theorem dX10_bestMirror_2 : decode cX10_bestMirror 2 = .ok (.iconst 0, 1) := by decide +kernel
theorem dX10_bestMirror_3 : decode cX10_bestMirror 3 = .ok (.istore_n 3, 1) := by decide +kernel
theorem dX10_bestMirror_4 : decode cX10_bestMirror 4 = .ok (.iload_n 3, 1) := by decide +kernel
theorem dX10_bestMirror_5 : decode cX10_bestMirror 5 = .ok (.aload_n 0, 1) := by decide +kernel
theorem dX10_bestMirror_6 : decode cX10_bestMirror 6 = .ok (.getfield 206, 3) := by decide +kernel
theorem dX10_bestMirror_9 : decode cX10_bestMirror 9 = .ok (.if_icmp .ge 29, 3) := by decide +kernel
theorem dX10_bestMirror_12 : decode cX10_bestMirror 12 = .ok (.iload_n 2, 1) := by decide +kernel
theorem dX10_bestMirror_13 : decode cX10_bestMirror 13 = .ok (.aload_n 0, 1) := by decide +kernel
theorem dX10_bestMirror_14 : decode cX10_bestMirror 14 = .ok (.iload_n 3, 1) := by decide +kernel
theorem dX10_bestMirror_15 : decode cX10_bestMirror 15 = .ok (.iconst 0, 1) := by decide +kernel
theorem dX10_bestMirror_16 : decode cX10_bestMirror 16 = .ok (.invokevirtual 229, 3) := by decide +kernel
theorem dX10_bestMirror_19 : decode cX10_bestMirror 19 = .ok (.iload_n 1, 1) := by decide +kernel
theorem dX10_bestMirror_20 : decode cX10_bestMirror 20 = .ok (.if_icmp .ne 9, 3) := by decide +kernel
theorem dX10_bestMirror_23 : decode cX10_bestMirror 23 = .ok (.iconst 1, 1) := by decide +kernel
theorem dX10_bestMirror_24 : decode cX10_bestMirror 24 = .ok (.iload_n 3, 1) := by decide +kernel
theorem dX10_bestMirror_25 : decode cX10_bestMirror 25 = .ok (.ishl, 1) := by decide +kernel
theorem dX10_bestMirror_26 : decode cX10_bestMirror 26 = .ok (.goto 4, 3) := by decide +kernel
theorem dX10_bestMirror_29 : decode cX10_bestMirror 29 = .ok (.iconst 0, 1) := by decide +kernel
theorem dX10_bestMirror_30 : decode cX10_bestMirror 30 = .ok (.ior, 1) := by decide +kernel
theorem dX10_bestMirror_31 : decode cX10_bestMirror 31 = .ok (.istore_n 2, 1) := by decide +kernel
theorem dX10_bestMirror_32 : decode cX10_bestMirror 32 = .ok (.iinc 3 1, 3) := by decide +kernel
theorem dX10_bestMirror_35 : decode cX10_bestMirror 35 = .ok (.goto (-31), 3) := by decide +kernel
theorem dX10_bestMirror_38 : decode cX10_bestMirror 38 = .ok (.iconst 0, 1) := by decide +kernel
theorem dX10_bestMirror_39 : decode cX10_bestMirror 39 = .ok (.istore_n 3, 1) := by decide +kernel
theorem dX10_bestMirror_40 : decode cX10_bestMirror 40 = .ok (.ldc_w 276, 3) := by decide +kernel
theorem dX10_bestMirror_43 : decode cX10_bestMirror 43 = .ok (.istore 4, 2) := by decide +kernel
theorem dX10_bestMirror_45 : decode cX10_bestMirror 45 = .ok (.iconst 0, 1) := by decide +kernel
theorem dX10_bestMirror_46 : decode cX10_bestMirror 46 = .ok (.istore 5, 2) := by decide +kernel
theorem dX10_bestMirror_48 : decode cX10_bestMirror 48 = .ok (.iload 5, 2) := by decide +kernel
theorem dX10_bestMirror_50 : decode cX10_bestMirror 50 = .ok (.iload_n 2, 1) := by decide +kernel
theorem dX10_bestMirror_51 : decode cX10_bestMirror 51 = .ok (.if_icmp .gt 73, 3) := by decide +kernel
theorem dX10_bestMirror_54 : decode cX10_bestMirror 54 = .ok (.iload 5, 2) := by decide +kernel
theorem dX10_bestMirror_56 : decode cX10_bestMirror 56 = .ok (.iload_n 2, 1) := by decide +kernel
theorem dX10_bestMirror_57 : decode cX10_bestMirror 57 = .ok (.iconst (-1), 1) := by decide +kernel
theorem dX10_bestMirror_58 : decode cX10_bestMirror 58 = .ok (.ixor, 1) := by decide +kernel
theorem dX10_bestMirror_59 : decode cX10_bestMirror 59 = .ok (.iand, 1) := by decide +kernel
theorem dX10_bestMirror_60 : decode cX10_bestMirror 60 = .ok (.ifCond .ne 58, 3) := by decide +kernel
theorem dX10_bestMirror_63 : decode cX10_bestMirror 63 = .ok (.aload_n 0, 1) := by decide +kernel
theorem dX10_bestMirror_64 : decode cX10_bestMirror 64 = .ok (.iload_n 1, 1) := by decide +kernel
theorem dX10_bestMirror_65 : decode cX10_bestMirror 65 = .ok (.iload 5, 2) := by decide +kernel
theorem dX10_bestMirror_67 : decode cX10_bestMirror 67 = .ok (.invokevirtual 277, 3) := by decide +kernel
theorem dX10_bestMirror_70 : decode cX10_bestMirror 70 = .ok (.ifCond .ne 6, 3) := by decide +kernel
theorem dX10_bestMirror_73 : decode cX10_bestMirror 73 = .ok (.goto 45, 3) := by decide +kernel
theorem dX10_bestMirror_76 : decode cX10_bestMirror 76 = .ok (.aload_n 0, 1) := by decide +kernel
theorem dX10_bestMirror_77 : decode cX10_bestMirror 77 = .ok (.getfield 270, 3) := by decide +kernel
theorem dX10_bestMirror_80 : decode cX10_bestMirror 80 = .ok (.invokestatic 232, 3) := by decide +kernel
theorem dX10_bestMirror_83 : decode cX10_bestMirror 83 = .ok (.istore 6, 2) := by decide +kernel
theorem dX10_bestMirror_85 : decode cX10_bestMirror 85 = .ok (.iload 6, 2) := by decide +kernel
theorem dX10_bestMirror_87 : decode cX10_bestMirror 87 = .ok (.iload 4, 2) := by decide +kernel
theorem dX10_bestMirror_89 : decode cX10_bestMirror 89 = .ok (.if_icmp .lt 22, 3) := by decide +kernel
theorem dX10_bestMirror_92 : decode cX10_bestMirror 92 = .ok (.iload 6, 2) := by decide +kernel
theorem dX10_bestMirror_94 : decode cX10_bestMirror 94 = .ok (.iload 4, 2) := by decide +kernel
theorem dX10_bestMirror_96 : decode cX10_bestMirror 96 = .ok (.if_icmp .ne 22, 3) := by decide +kernel
theorem dX10_bestMirror_99 : decode cX10_bestMirror 99 = .ok (.iload 5, 2) := by decide +kernel
theorem dX10_bestMirror_101 : decode cX10_bestMirror 101 = .ok (.invokestatic 280, 3) := by decide +kernel
theorem dX10_bestMirror_104 : decode cX10_bestMirror 104 = .ok (.iload_n 3, 1) := by decide +kernel
theorem dX10_bestMirror_105 : decode cX10_bestMirror 105 = .ok (.invokestatic 280, 3) := by decide +kernel
theorem dX10_bestMirror_108 : decode cX10_bestMirror 108 = .ok (.if_icmp .ge 10, 3) := by decide +kernel
theorem dX10_bestMirror_111 : decode cX10_bestMirror 111 = .ok (.iload 5, 2) := by decide +kernel
theorem dX10_bestMirror_113 : decode cX10_bestMirror 113 = .ok (.istore_n 3, 1) := by decide +kernel
theorem dX10_bestMirror_114 : decode cX10_bestMirror 114 = .ok (.iload 6, 2) := by decide +kernel
theorem dX10_bestMirror_116 : decode cX10_bestMirror 116 = .ok (.istore 4, 2) := by decide +kernel
theorem dX10_bestMirror_118 : decode cX10_bestMirror 118 = .ok (.iinc 5 1, 3) := by decide +kernel
theorem dX10_bestMirror_121 : decode cX10_bestMirror 121 = .ok (.goto (-73), 3) := by decide +kernel
theorem dX10_bestMirror_124 : decode cX10_bestMirror 124 = .ok (.iload_n 3, 1) := by decide +kernel
theorem dX10_bestMirror_125 : decode cX10_bestMirror 125 = .ok (.ireturn, 1) := by decide +kernel
set_option maxRecDepth 20000 in
theorem bX10_bestMirror_0 {G : Gx} {mm : Nat → Nat → Int32} {lm : Nat → Int64} {x1 : Int32} {o : Ou} {z : Wd} {a b : Nat} (hw : J G M_X10_bestMirror 4 [(0, .ref 63), (1, .int x1), (2, .int 0), (3, .int 0)] [] (SH, mm, lm) false o z false a b) :
    J G M_X10_bestMirror 0 [(0, .ref 63), (1, .int x1)] [] (SH, mm, lm) false o z false a b := by
  refine J_iconst (v := 0) (by decide) dX10_bestMirror_0 ?_
  refine J_istore_n [(2, .int 0), (0, .ref 63), (1, .int x1)] rfl (i := 2) (by decide) rfl dX10_bestMirror_1 ?_
  refine J_iconst (v := 0) (by decide) dX10_bestMirror_2 ?_
  refine J_istore_n [(3, .int 0), (2, .int 0), (0, .ref 63), (1, .int x1)] rfl (i := 3) (by decide) rfl dX10_bestMirror_3 ?_
  exact J_sub [2, 3, 1, 0] rfl hw
set_option maxRecDepth 20000 in
theorem bX10_bestMirror_4 {G : Gx} {mm : Nat → Nat → Int32} {lm : Nat → Int64} {x1 : Int32} {x2 : Int32} {x3 : Int32} {o : Ou} {z : Wd} {a b : Nat} (hw : (((mm 63 8) ≤ x3) → J G M_X10_bestMirror 48 [(0, .ref 63), (1, .int x1), (2, .int x2), (3, .int 0), (4, .int 1000000), (5, .int 0)] [] (SH, mm, lm) false o z false a b) ∧ ((¬ (mm 63 8) ≤ x3) → ∃ (v2 : Int32), Ct G M_X10_of [.ref 63, .int x3, .int 0] (SH, mm, lm) false (.inl (some (.int v2))) (SH, mm, lm) false 0 0 ∧ ((¬ v2 = x1) → J G M_X10_bestMirror 4 [(0, .ref 63), (1, .int x1), (2, .int (x2 ||| 0)), (3, .int (x3 + 1))] [] (SH, mm, lm) false o z false a b) ∧ ((v2 = x1) → J G M_X10_bestMirror 4 [(0, .ref 63), (1, .int x1), (2, .int (x2 ||| (1 <<< (x3 &&& 31)))), (3, .int (x3 + 1))] [] (SH, mm, lm) false o z false a b))) :
    J G M_X10_bestMirror 4 [(0, .ref 63), (1, .int x1), (2, .int x2), (3, .int x3)] [] (SH, mm, lm) false o z false a b := by
  refine J_iload_n rfl (i := 3) rfl dX10_bestMirror_4 ?_
  refine J_aload_n rfl (i := 0) rfl dX10_bestMirror_5 ?_
  refine J_geti kls_10 (q := 63) (k := 8) sh_63 (by decide) rfl gw_1441 dX10_bestMirror_6 ?_
  refine J_icmp_ge (tgt := 38) dX10_bestMirror_9 (by decide) (fun hb5 => ?_) (fun hb5 => ?_)
  · replace hw := hw.1 hb5
    refine J_iconst (v := 0) (by decide) dX10_bestMirror_38 ?_
    refine J_istore_n [(3, .int 0), (0, .ref 63), (1, .int x1), (2, .int x2)] rfl (i := 3) (by decide) rfl dX10_bestMirror_39 ?_
    refine J_ldcw gw_1763 dX10_bestMirror_40 ?_
    refine J_istore [(4, .int 1000000), (3, .int 0), (0, .ref 63), (1, .int x1), (2, .int x2)] (i := 4) (by decide) rfl dX10_bestMirror_43 ?_
    refine J_iconst (v := 0) (by decide) dX10_bestMirror_45 ?_
    refine J_istore [(5, .int 0), (4, .int 1000000), (3, .int 0), (0, .ref 63), (1, .int x1), (2, .int x2)] (i := 5) (by decide) rfl dX10_bestMirror_46 ?_
    exact J_sub [3, 4, 5, 2, 1, 0] rfl hw
  · replace hw := hw.2 hb5
    refine J_iload_n rfl (i := 2) rfl dX10_bestMirror_12 ?_
    refine J_aload_n rfl (i := 0) rfl dX10_bestMirror_13 ?_
    refine J_iload_n rfl (i := 3) rfl dX10_bestMirror_14 ?_
    refine J_iconst (v := 0) (by decide) dX10_bestMirror_15 ?_
    obtain ⟨v2, hc1, hw⟩ := hw
    refine J_callV (as := [.int x3, .int 0]) (k := 63) (st := [.int x2]) cal_X10_of cai_X10_of gw_1688 ⟨by decide, by decide⟩ cnt_X10_of sh_63 rfl rfl (Nat.le_of_ble_eq_true rfl) dX10_bestMirror_16 (Nat.zero_add _).symm (Nat.zero_add _).symm hc1 ?_
    refine J_iload_n rfl (i := 1) rfl dX10_bestMirror_19 ?_
    refine J_icmp_ne (tgt := 29) dX10_bestMirror_20 (by decide) (fun hb4 => ?_) (fun hb4 => ?_)
    · replace hw := hw.1 hb4
      refine J_iconst (v := 0) (by decide) dX10_bestMirror_29 ?_
      refine J_ior dX10_bestMirror_30 ?_
      refine J_istore_n [(2, .int (x2 ||| 0)), (0, .ref 63), (1, .int x1), (3, .int x3)] rfl (i := 2) (by decide) rfl dX10_bestMirror_31 ?_
      refine J_iinc [(3, .int (x3 + 1)), (2, .int (x2 ||| 0)), (0, .ref 63), (1, .int x1)] (i := 3) (v := (x3 + 1)) rfl rfl (by decide) rfl dX10_bestMirror_32 ?_
      refine J_goto (tgt := 4) dX10_bestMirror_35 (by decide) ?_
      exact J_sub [2, 3, 1, 0] rfl hw
    · replace hw := hw.2 hb4
      refine J_iconst (v := 1) (by decide) dX10_bestMirror_23 ?_
      refine J_iload_n rfl (i := 3) rfl dX10_bestMirror_24 ?_
      refine J_ishl dX10_bestMirror_25 ?_
      refine J_goto (tgt := 30) dX10_bestMirror_26 (by decide) ?_
      refine J_ior dX10_bestMirror_30 ?_
      refine J_istore_n [(2, .int (x2 ||| (1 <<< (x3 &&& 31)))), (0, .ref 63), (1, .int x1), (3, .int x3)] rfl (i := 2) (by decide) rfl dX10_bestMirror_31 ?_
      refine J_iinc [(3, .int (x3 + 1)), (2, .int (x2 ||| (1 <<< (x3 &&& 31)))), (0, .ref 63), (1, .int x1)] (i := 3) (v := (x3 + 1)) rfl rfl (by decide) rfl dX10_bestMirror_32 ?_
      refine J_goto (tgt := 4) dX10_bestMirror_35 (by decide) ?_
      exact J_sub [2, 3, 1, 0] rfl hw
set_option maxRecDepth 20000 in
theorem bX10_bestMirror_48 {G : Gx} {mm : Nat → Nat → Int32} {lm : Nat → Int64} {x1 : Int32} {x2 : Int32} {x3 : Int32} {x4 : Int32} {x5 : Int32} {o : Ou} {z : Wd} {a b : Nat} (hw : ((x2 < x5) → o = .inl (some (.int x3)) ∧ z = (SH, mm, lm)) ∧ ((¬ x2 < x5) → ((¬ (x5 &&& (x2 ^^^ (-1))) = 0) → J G M_X10_bestMirror 48 [(0, .ref 63), (1, .int x1), (2, .int x2), (3, .int x3), (4, .int x4), (5, .int (x5 + 1))] [] (SH, mm, lm) false o z false a b) ∧ (((x5 &&& (x2 ^^^ (-1))) = 0) → ∃ (v2 : Int32) (m3 : Nat → Nat → Int32), Ct G M_X10_isMirrorClear [.ref 63, .int x1, .int x5] (SH, mm, lm) false (.inl (some (.int v2))) (SH, m3, lm) false 0 0 ∧ ((¬ v2 = 0) → ∃ (v5 : Int32), Ct G M_X10_size [.int (m3 63 31)] (SH, m3, lm) false (.inl (some (.int v5))) (SH, m3, lm) false 0 0 ∧ ((v5 < x4) → J G M_X10_bestMirror 48 [(0, .ref 63), (1, .int x1), (2, .int x2), (3, .int x5), (4, .int v5), (5, .int (x5 + 1))] [] (SH, m3, lm) false o z false a b) ∧ ((¬ v5 < x4) → ((¬ v5 = x4) → J G M_X10_bestMirror 48 [(0, .ref 63), (1, .int x1), (2, .int x2), (3, .int x3), (4, .int x4), (5, .int (x5 + 1))] [] (SH, m3, lm) false o z false a b) ∧ ((v5 = x4) → ∃ (v8 : Int32), Ct G M_X10_count [.int x5] (SH, m3, lm) false (.inl (some (.int v8))) (SH, m3, lm) false 0 0 ∧ ∃ (v11 : Int32), Ct G M_X10_count [.int x3] (SH, m3, lm) false (.inl (some (.int v11))) (SH, m3, lm) false 0 0 ∧ ((v11 ≤ v8) → J G M_X10_bestMirror 48 [(0, .ref 63), (1, .int x1), (2, .int x2), (3, .int x3), (4, .int x4), (5, .int (x5 + 1))] [] (SH, m3, lm) false o z false a b) ∧ ((¬ v11 ≤ v8) → J G M_X10_bestMirror 48 [(0, .ref 63), (1, .int x1), (2, .int x2), (3, .int x5), (4, .int v5), (5, .int (x5 + 1))] [] (SH, m3, lm) false o z false a b)))) ∧ ((v2 = 0) → J G M_X10_bestMirror 48 [(0, .ref 63), (1, .int x1), (2, .int x2), (3, .int x3), (4, .int x4), (5, .int (x5 + 1))] [] (SH, m3, lm) false o z false a b)))) :
    J G M_X10_bestMirror 48 [(0, .ref 63), (1, .int x1), (2, .int x2), (3, .int x3), (4, .int x4), (5, .int x5)] [] (SH, mm, lm) false o z false a b := by
  refine J_iload (i := 5) rfl dX10_bestMirror_48 ?_
  refine J_iload_n rfl (i := 2) rfl dX10_bestMirror_50 ?_
  refine J_icmp_gt (tgt := 124) dX10_bestMirror_51 (by decide) (fun hb18 => ?_) (fun hb18 => ?_)
  · replace hw := hw.1 hb18
    refine J_iload_n rfl (i := 3) rfl dX10_bestMirror_124 ?_
    exact J_fini (ty := .int) rfl rfl dX10_bestMirror_125 hw
  · replace hw := hw.2 hb18
    refine J_iload (i := 5) rfl dX10_bestMirror_54 ?_
    refine J_iload_n rfl (i := 2) rfl dX10_bestMirror_56 ?_
    refine J_iconst (v := (-1)) (by decide) dX10_bestMirror_57 ?_
    refine J_ixor dX10_bestMirror_58 ?_
    refine J_iand dX10_bestMirror_59 ?_
    refine J_if_ne (tgt := 118) dX10_bestMirror_60 (by decide) (fun hb17 => ?_) (fun hb17 => ?_)
    · replace hw := hw.1 hb17
      refine J_iinc [(5, .int (x5 + 1)), (0, .ref 63), (1, .int x1), (2, .int x2), (3, .int x3), (4, .int x4)] (i := 5) (v := (x5 + 1)) rfl rfl (by decide) rfl dX10_bestMirror_118 ?_
      refine J_goto (tgt := 48) dX10_bestMirror_121 (by decide) ?_
      exact J_sub [1, 2, 3, 4, 5, 0] rfl hw
    · replace hw := hw.2 hb17
      refine J_aload_n rfl (i := 0) rfl dX10_bestMirror_63 ?_
      refine J_iload_n rfl (i := 1) rfl dX10_bestMirror_64 ?_
      refine J_iload (i := 5) rfl dX10_bestMirror_65 ?_
      obtain ⟨v2, m3, hc1, hw⟩ := hw
      refine J_callV (as := [.int x1, .int x5]) (k := 63) (st := []) cal_X10_isMirrorClear cai_X10_isMirrorClear gw_1764 ⟨by decide, by decide⟩ cnt_X10_isMirrorClear sh_63 rfl rfl (Nat.le_of_ble_eq_true rfl) dX10_bestMirror_67 (Nat.zero_add _).symm (Nat.zero_add _).symm hc1 ?_
      refine J_if_ne (tgt := 76) dX10_bestMirror_70 (by decide) (fun hb16 => ?_) (fun hb16 => ?_)
      · replace hw := hw.1 hb16
        refine J_aload_n rfl (i := 0) rfl dX10_bestMirror_76 ?_
        refine J_geti kls_10 (q := 63) (k := 31) sh_63 (by decide) rfl gw_1464 dX10_bestMirror_77 ?_
        obtain ⟨v5, hc4, hw⟩ := hw
        refine J_callS (as := [.int (m3 63 31)]) (st := []) cal_X10_size cas_X10_size gw_1696 ⟨by decide, by decide⟩ cnt_X10_size rfl (Nat.le_of_ble_eq_true rfl) dX10_bestMirror_80 (Nat.zero_add _).symm (Nat.zero_add _).symm hc4 ?_
        refine J_istore [(6, .int v5), (0, .ref 63), (1, .int x1), (2, .int x2), (3, .int x3), (4, .int x4), (5, .int x5)] (i := 6) (by decide) rfl dX10_bestMirror_83 ?_
        refine J_iload (i := 6) rfl dX10_bestMirror_85 ?_
        refine J_iload (i := 4) rfl dX10_bestMirror_87 ?_
        refine J_icmp_lt (tgt := 111) dX10_bestMirror_89 (by decide) (fun hb15 => ?_) (fun hb15 => ?_)
        · replace hw := hw.1 hb15
          refine J_iload (i := 5) rfl dX10_bestMirror_111 ?_
          refine J_istore_n [(3, .int x5), (6, .int v5), (0, .ref 63), (1, .int x1), (2, .int x2), (4, .int x4), (5, .int x5)] rfl (i := 3) (by decide) rfl dX10_bestMirror_113 ?_
          refine J_iload (i := 6) rfl dX10_bestMirror_114 ?_
          refine J_istore [(4, .int v5), (3, .int x5), (6, .int v5), (0, .ref 63), (1, .int x1), (2, .int x2), (5, .int x5)] (i := 4) (by decide) rfl dX10_bestMirror_116 ?_
          refine J_iinc [(5, .int (x5 + 1)), (4, .int v5), (3, .int x5), (6, .int v5), (0, .ref 63), (1, .int x1), (2, .int x2)] (i := 5) (v := (x5 + 1)) rfl rfl (by decide) rfl dX10_bestMirror_118 ?_
          refine J_goto (tgt := 48) dX10_bestMirror_121 (by decide) ?_
          exact J_sub [4, 5, 6, 2, 1, 0] rfl hw
        · replace hw := hw.2 hb15
          refine J_iload (i := 6) rfl dX10_bestMirror_92 ?_
          refine J_iload (i := 4) rfl dX10_bestMirror_94 ?_
          refine J_icmp_ne (tgt := 118) dX10_bestMirror_96 (by decide) (fun hb14 => ?_) (fun hb14 => ?_)
          · replace hw := hw.1 hb14
            refine J_iinc [(5, .int (x5 + 1)), (6, .int v5), (0, .ref 63), (1, .int x1), (2, .int x2), (3, .int x3), (4, .int x4)] (i := 5) (v := (x5 + 1)) rfl rfl (by decide) rfl dX10_bestMirror_118 ?_
            refine J_goto (tgt := 48) dX10_bestMirror_121 (by decide) ?_
            exact J_sub [2, 3, 4, 5, 6, 0] rfl hw
          · replace hw := hw.2 hb14
            refine J_iload (i := 5) rfl dX10_bestMirror_99 ?_
            obtain ⟨v8, hc7, hw⟩ := hw
            refine J_callS (as := [.int x5]) (st := []) cal_X10_count cas_X10_count gw_1771 ⟨by decide, by decide⟩ cnt_X10_count rfl (Nat.le_of_ble_eq_true rfl) dX10_bestMirror_101 (Nat.zero_add _).symm (Nat.zero_add _).symm hc7 ?_
            refine J_iload_n rfl (i := 3) rfl dX10_bestMirror_104 ?_
            obtain ⟨v11, hc10, hw⟩ := hw
            refine J_callS (as := [.int x3]) (st := [.int v8]) cal_X10_count cas_X10_count gw_1771 ⟨by decide, by decide⟩ cnt_X10_count rfl (Nat.le_of_ble_eq_true rfl) dX10_bestMirror_105 (Nat.zero_add _).symm (Nat.zero_add _).symm hc10 ?_
            refine J_icmp_ge (tgt := 118) dX10_bestMirror_108 (by decide) (fun hb13 => ?_) (fun hb13 => ?_)
            · replace hw := hw.1 hb13
              refine J_iinc [(5, .int (x5 + 1)), (6, .int v5), (0, .ref 63), (1, .int x1), (2, .int x2), (3, .int x3), (4, .int x4)] (i := 5) (v := (x5 + 1)) rfl rfl (by decide) rfl dX10_bestMirror_118 ?_
              refine J_goto (tgt := 48) dX10_bestMirror_121 (by decide) ?_
              exact J_sub [2, 3, 4, 5, 6, 0] rfl hw
            · replace hw := hw.2 hb13
              refine J_iload (i := 5) rfl dX10_bestMirror_111 ?_
              refine J_istore_n [(3, .int x5), (6, .int v5), (0, .ref 63), (1, .int x1), (2, .int x2), (4, .int x4), (5, .int x5)] rfl (i := 3) (by decide) rfl dX10_bestMirror_113 ?_
              refine J_iload (i := 6) rfl dX10_bestMirror_114 ?_
              refine J_istore [(4, .int v5), (3, .int x5), (6, .int v5), (0, .ref 63), (1, .int x1), (2, .int x2), (5, .int x5)] (i := 4) (by decide) rfl dX10_bestMirror_116 ?_
              refine J_iinc [(5, .int (x5 + 1)), (4, .int v5), (3, .int x5), (6, .int v5), (0, .ref 63), (1, .int x1), (2, .int x2)] (i := 5) (v := (x5 + 1)) rfl rfl (by decide) rfl dX10_bestMirror_118 ?_
              refine J_goto (tgt := 48) dX10_bestMirror_121 (by decide) ?_
              exact J_sub [4, 5, 6, 2, 1, 0] rfl hw
      · replace hw := hw.2 hb16
        refine J_goto (tgt := 118) dX10_bestMirror_73 (by decide) ?_
        refine J_iinc [(5, .int (x5 + 1)), (0, .ref 63), (1, .int x1), (2, .int x2), (3, .int x3), (4, .int x4)] (i := 5) (v := (x5 + 1)) rfl rfl (by decide) rfl dX10_bestMirror_118 ?_
        refine J_goto (tgt := 48) dX10_bestMirror_121 (by decide) ?_
        exact J_sub [1, 2, 3, 4, 5, 0] rfl hw
theorem dX10_mirroredTorque_0 : decode cX10_mirroredTorque 0 = .ok (.aload_n 0, 1) := by decide +kernel
theorem dX10_mirroredTorque_1 : decode cX10_mirroredTorque 1 = .ok (.aload_n 0, 1) := by decide +kernel
theorem dX10_mirroredTorque_2 : decode cX10_mirroredTorque 2 = .ok (.iload_n 1, 1) := by decide +kernel
theorem dX10_mirroredTorque_3 : decode cX10_mirroredTorque 3 = .ok (.invokevirtual 238, 3) := by decide +kernel
theorem dX10_mirroredTorque_6 : decode cX10_mirroredTorque 6 = .ok (.invokevirtual 221, 3) := by decide +kernel
theorem dX10_mirroredTorque_9 : decode cX10_mirroredTorque 9 = .ok (.ifCond .eq 5, 3) := by decide +kernel
theorem dX10_mirroredTorque_12 : decode cX10_mirroredTorque 12 = .ok (.iconst 0, 1) := by decide +kernel
theorem dX10_mirroredTorque_13 : decode cX10_mirroredTorque 13 = .ok (.ireturn, 1) := by decide +kernel
theorem dX10_mirroredTorque_14 : decode cX10_mirroredTorque 14 = .ok (.aload_n 0, 1) := by decide +kernel
theorem dX10_mirroredTorque_15 : decode cX10_mirroredTorque 15 = .ok (.iload_n 1, 1) := by decide +kernel
theorem dX10_mirroredTorque_16 : decode cX10_mirroredTorque 16 = .ok (.aload_n 0, 1) := by decide +kernel
theorem dX10_mirroredTorque_17 : decode cX10_mirroredTorque 17 = .ok (.iload_n 1, 1) := by decide +kernel
theorem dX10_mirroredTorque_18 : decode cX10_mirroredTorque 18 = .ok (.invokevirtual 283, 3) := by decide +kernel
theorem dX10_mirroredTorque_21 : decode cX10_mirroredTorque 21 = .ok (.invokevirtual 277, 3) := by decide +kernel
theorem dX10_mirroredTorque_24 : decode cX10_mirroredTorque 24 = .ok (.istore_n 2, 1) := by decide +kernel
theorem dX10_mirroredTorque_25 : decode cX10_mirroredTorque 25 = .ok (.aload_n 0, 1) := by decide +kernel
theorem dX10_mirroredTorque_26 : decode cX10_mirroredTorque 26 = .ok (.getfield 270, 3) := by decide +kernel
theorem dX10_mirroredTorque_29 : decode cX10_mirroredTorque 29 = .ok (.invokestatic 232, 3) := by decide +kernel
theorem dX10_mirroredTorque_32 : decode cX10_mirroredTorque 32 = .ok (.ireturn, 1) := by decide +kernel
set_option maxRecDepth 20000 in
theorem bX10_mirroredTorque_0 {G : Gx} {mm : Nat → Nat → Int32} {lm : Nat → Int64} {x1 : Int32} {o : Ou} {z : Wd} {a b : Nat} (hw : ∃ (v2 : Int32), Ct G M_X10_isBeam [.ref 63, .int x1] (SH, mm, lm) false (.inl (some (.int v2))) (SH, mm, lm) false 0 0 ∧ ∃ (v5 : Int32) (m6 : Nat → Nat → Int32), Ct G M_X10_isWrong [.ref 63, .int v2] (SH, mm, lm) false (.inl (some (.int v5))) (SH, m6, lm) false 0 0 ∧ ((v5 = 0) → J G M_X10_mirroredTorque 14 [(0, .ref 63), (1, .int x1)] [] (SH, m6, lm) false o z false a b) ∧ ((¬ v5 = 0) → o = .inl (some (.int 0)) ∧ z = (SH, m6, lm))) :
    J G M_X10_mirroredTorque 0 [(0, .ref 63), (1, .int x1)] [] (SH, mm, lm) false o z false a b := by
  refine J_aload_n rfl (i := 0) rfl dX10_mirroredTorque_0 ?_
  refine J_aload_n rfl (i := 0) rfl dX10_mirroredTorque_1 ?_
  refine J_iload_n rfl (i := 1) rfl dX10_mirroredTorque_2 ?_
  obtain ⟨v2, hc1, hw⟩ := hw
  refine J_callV (as := [.int x1]) (k := 63) (st := [.ref 63]) cal_X10_isBeam cai_X10_isBeam gw_1675 ⟨by decide, by decide⟩ cnt_X10_isBeam sh_63 rfl rfl (Nat.le_of_ble_eq_true rfl) dX10_mirroredTorque_3 (Nat.zero_add _).symm (Nat.zero_add _).symm hc1 ?_
  obtain ⟨v5, m6, hc4, hw⟩ := hw
  refine J_callV (as := [.int v2]) (k := 63) (st := []) cal_X10_isWrong cai_X10_isWrong gw_1663 ⟨by decide, by decide⟩ cnt_X10_isWrong sh_63 rfl rfl (Nat.le_of_ble_eq_true rfl) dX10_mirroredTorque_6 (Nat.zero_add _).symm (Nat.zero_add _).symm hc4 ?_
  refine J_if_eq (tgt := 14) dX10_mirroredTorque_9 (by decide) (fun hb7 => ?_) (fun hb7 => ?_)
  · replace hw := hw.1 hb7
    exact hw
  · replace hw := hw.2 hb7
    refine J_iconst (v := 0) (by decide) dX10_mirroredTorque_12 ?_
    exact J_fini (ty := .int) rfl rfl dX10_mirroredTorque_13 hw
set_option maxRecDepth 20000 in
theorem bX10_mirroredTorque_14 {G : Gx} {mm : Nat → Nat → Int32} {lm : Nat → Int64} {x1 : Int32} {o : Ou} {z : Wd} {a b : Nat} (hw : ∃ (v2 : Int32) (m3 : Nat → Nat → Int32), Ct G M_X10_bestMirror [.ref 63, .int x1] (SH, mm, lm) false (.inl (some (.int v2))) (SH, m3, lm) false 0 0 ∧ ∃ (v5 : Int32) (m6 : Nat → Nat → Int32), Ct G M_X10_isMirrorClear [.ref 63, .int x1, .int v2] (SH, m3, lm) false (.inl (some (.int v5))) (SH, m6, lm) false 0 0 ∧ ∃ (v8 : Int32), Ct G M_X10_size [.int (m6 63 31)] (SH, m6, lm) false (.inl (some (.int v8))) (SH, m6, lm) false 0 0 ∧ o = .inl (some (.int v8)) ∧ z = (SH, m6, lm)) :
    J G M_X10_mirroredTorque 14 [(0, .ref 63), (1, .int x1)] [] (SH, mm, lm) false o z false a b := by
  refine J_aload_n rfl (i := 0) rfl dX10_mirroredTorque_14 ?_
  refine J_iload_n rfl (i := 1) rfl dX10_mirroredTorque_15 ?_
  refine J_aload_n rfl (i := 0) rfl dX10_mirroredTorque_16 ?_
  refine J_iload_n rfl (i := 1) rfl dX10_mirroredTorque_17 ?_
  obtain ⟨v2, m3, hc1, hw⟩ := hw
  refine J_callV (as := [.int x1]) (k := 63) (st := [.int x1, .ref 63]) cal_X10_bestMirror cai_X10_bestMirror gw_1759 ⟨by decide, by decide⟩ cnt_X10_bestMirror sh_63 rfl rfl (Nat.le_of_ble_eq_true rfl) dX10_mirroredTorque_18 (Nat.zero_add _).symm (Nat.zero_add _).symm hc1 ?_
  obtain ⟨v5, m6, hc4, hw⟩ := hw
  refine J_callV (as := [.int x1, .int v2]) (k := 63) (st := []) cal_X10_isMirrorClear cai_X10_isMirrorClear gw_1764 ⟨by decide, by decide⟩ cnt_X10_isMirrorClear sh_63 rfl rfl (Nat.le_of_ble_eq_true rfl) dX10_mirroredTorque_21 (Nat.zero_add _).symm (Nat.zero_add _).symm hc4 ?_
  refine J_istore_n [(2, .int v5), (0, .ref 63), (1, .int x1)] rfl (i := 2) (by decide) rfl dX10_mirroredTorque_24 ?_
  refine J_aload_n rfl (i := 0) rfl dX10_mirroredTorque_25 ?_
  refine J_geti kls_10 (q := 63) (k := 31) sh_63 (by decide) rfl gw_1464 dX10_mirroredTorque_26 ?_
  obtain ⟨v8, hc7, hw⟩ := hw
  refine J_callS (as := [.int (m6 63 31)]) (st := []) cal_X10_size cas_X10_size gw_1696 ⟨by decide, by decide⟩ cnt_X10_size rfl (Nat.le_of_ble_eq_true rfl) dX10_mirroredTorque_29 (Nat.zero_add _).symm (Nat.zero_add _).symm hc7 ?_
  exact J_fini (ty := .int) rfl rfl dX10_mirroredTorque_32 hw
theorem dX10_mirroredBells_0 : decode cX10_mirroredBells 0 = .ok (.aload_n 0, 1) := by decide +kernel
theorem dX10_mirroredBells_1 : decode cX10_mirroredBells 1 = .ok (.aload_n 0, 1) := by decide +kernel
theorem dX10_mirroredBells_2 : decode cX10_mirroredBells 2 = .ok (.iload_n 1, 1) := by decide +kernel
theorem dX10_mirroredBells_3 : decode cX10_mirroredBells 3 = .ok (.invokevirtual 238, 3) := by decide +kernel
theorem dX10_mirroredBells_6 : decode cX10_mirroredBells 6 = .ok (.invokevirtual 221, 3) := by decide +kernel
theorem dX10_mirroredBells_9 : decode cX10_mirroredBells 9 = .ok (.ifCond .eq 7, 3) := by decide +kernel
theorem dX10_mirroredBells_12 : decode cX10_mirroredBells 12 = .ok (.iconst 0, 1) := by decide +kernel
theorem dX10_mirroredBells_13 : decode cX10_mirroredBells 13 = .ok (.goto 8, 3) := by decide +kernel
theorem dX10_mirroredBells_16 : decode cX10_mirroredBells 16 = .ok (.aload_n 0, 1) := by decide +kernel
theorem dX10_mirroredBells_17 : decode cX10_mirroredBells 17 = .ok (.iload_n 1, 1) := by decide +kernel
theorem dX10_mirroredBells_18 : decode cX10_mirroredBells 18 = .ok (.invokevirtual 283, 3) := by decide +kernel
theorem dX10_mirroredBells_21 : decode cX10_mirroredBells 21 = .ok (.ireturn, 1) := by decide +kernel
set_option maxRecDepth 20000 in
theorem bX10_mirroredBells_0 {G : Gx} {mm : Nat → Nat → Int32} {lm : Nat → Int64} {x1 : Int32} {o : Ou} {z : Wd} {a b : Nat} (hw : ∃ (v2 : Int32), Ct G M_X10_isBeam [.ref 63, .int x1] (SH, mm, lm) false (.inl (some (.int v2))) (SH, mm, lm) false 0 0 ∧ ∃ (v5 : Int32) (m6 : Nat → Nat → Int32), Ct G M_X10_isWrong [.ref 63, .int v2] (SH, mm, lm) false (.inl (some (.int v5))) (SH, m6, lm) false 0 0 ∧ ((v5 = 0) → J G M_X10_mirroredBells 16 [(0, .ref 63), (1, .int x1)] [] (SH, m6, lm) false o z false a b) ∧ ((¬ v5 = 0) → o = .inl (some (.int 0)) ∧ z = (SH, m6, lm))) :
    J G M_X10_mirroredBells 0 [(0, .ref 63), (1, .int x1)] [] (SH, mm, lm) false o z false a b := by
  refine J_aload_n rfl (i := 0) rfl dX10_mirroredBells_0 ?_
  refine J_aload_n rfl (i := 0) rfl dX10_mirroredBells_1 ?_
  refine J_iload_n rfl (i := 1) rfl dX10_mirroredBells_2 ?_
  obtain ⟨v2, hc1, hw⟩ := hw
  refine J_callV (as := [.int x1]) (k := 63) (st := [.ref 63]) cal_X10_isBeam cai_X10_isBeam gw_1675 ⟨by decide, by decide⟩ cnt_X10_isBeam sh_63 rfl rfl (Nat.le_of_ble_eq_true rfl) dX10_mirroredBells_3 (Nat.zero_add _).symm (Nat.zero_add _).symm hc1 ?_
  obtain ⟨v5, m6, hc4, hw⟩ := hw
  refine J_callV (as := [.int v2]) (k := 63) (st := []) cal_X10_isWrong cai_X10_isWrong gw_1663 ⟨by decide, by decide⟩ cnt_X10_isWrong sh_63 rfl rfl (Nat.le_of_ble_eq_true rfl) dX10_mirroredBells_6 (Nat.zero_add _).symm (Nat.zero_add _).symm hc4 ?_
  refine J_if_eq (tgt := 16) dX10_mirroredBells_9 (by decide) (fun hb7 => ?_) (fun hb7 => ?_)
  · replace hw := hw.1 hb7
    exact hw
  · replace hw := hw.2 hb7
    refine J_iconst (v := 0) (by decide) dX10_mirroredBells_12 ?_
    refine J_goto (tgt := 21) dX10_mirroredBells_13 (by decide) ?_
    exact J_fini (ty := .int) rfl rfl dX10_mirroredBells_21 hw
set_option maxRecDepth 20000 in
theorem bX10_mirroredBells_16 {G : Gx} {mm : Nat → Nat → Int32} {lm : Nat → Int64} {x1 : Int32} {o : Ou} {z : Wd} {a b : Nat} (hw : ∃ (v2 : Int32) (m3 : Nat → Nat → Int32), Ct G M_X10_bestMirror [.ref 63, .int x1] (SH, mm, lm) false (.inl (some (.int v2))) (SH, m3, lm) false 0 0 ∧ o = .inl (some (.int v2)) ∧ z = (SH, m3, lm)) :
    J G M_X10_mirroredBells 16 [(0, .ref 63), (1, .int x1)] [] (SH, mm, lm) false o z false a b := by
  refine J_aload_n rfl (i := 0) rfl dX10_mirroredBells_16 ?_
  refine J_iload_n rfl (i := 1) rfl dX10_mirroredBells_17 ?_
  obtain ⟨v2, m3, hc1, hw⟩ := hw
  refine J_callV (as := [.int x1]) (k := 63) (st := []) cal_X10_bestMirror cai_X10_bestMirror gw_1759 ⟨by decide, by decide⟩ cnt_X10_bestMirror sh_63 rfl rfl (Nat.le_of_ble_eq_true rfl) dX10_mirroredBells_18 (Nat.zero_add _).symm (Nat.zero_add _).symm hc1 ?_
  exact J_fini (ty := .int) rfl rfl dX10_mirroredBells_21 hw
theorem dX10_plans_0 : decode cX10_plans 0 = .ok (.iconst 0, 1) := by decide +kernel
theorem dX10_plans_1 : decode cX10_plans 1 = .ok (.istore_n 1, 1) := by decide +kernel
theorem dX10_plans_2 : decode cX10_plans 2 = .ok (.iconst 0, 1) := by decide +kernel
theorem dX10_plans_3 : decode cX10_plans 3 = .ok (.istore_n 2, 1) := by decide +kernel
theorem dX10_plans_4 : decode cX10_plans 4 = .ok (.iload_n 2, 1) := by decide +kernel
theorem dX10_plans_5 : decode cX10_plans 5 = .ok (.aload_n 0, 1) := by decide +kernel
theorem dX10_plans_6 : decode cX10_plans 6 = .ok (.getfield 206, 3) := by decide +kernel
theorem dX10_plans_9 : decode cX10_plans 9 = .ok (.if_icmp .ge 26, 3) := by decide +kernel
theorem dX10_plans_12 : decode cX10_plans 12 = .ok (.iload_n 1, 1) := by decide +kernel
theorem dX10_plans_13 : decode cX10_plans 13 = .ok (.aload_n 0, 1) := by decide +kernel
theorem dX10_plans_14 : decode cX10_plans 14 = .ok (.iload_n 2, 1) := by decide +kernel
theorem dX10_plans_15 : decode cX10_plans 15 = .ok (.iconst 2, 1) := by decide +kernel
theorem dX10_plans_16 : decode cX10_plans 16 = .ok (.invokevirtual 229, 3) := by decide +kernel
theorem dX10_plans_19 : decode cX10_plans 19 = .ok (.ifCond .lt 7, 3) := by decide +kernel
theorem dX10_plans_22 : decode cX10_plans 22 = .ok (.iconst 1, 1) := by decide +kernel
theorem dX10_plans_23 : decode cX10_plans 23 = .ok (.goto 4, 3) := by decide +kernel
theorem dX10_plans_26 : decode cX10_plans 26 = .ok (.iconst 0, 1) := by decide +kernel
theorem dX10_plans_27 : decode cX10_plans 27 = .ok (.iadd, 1) := by decide +kernel
theorem dX10_plans_28 : decode cX10_plans 28 = .ok (.istore_n 1, 1) := by decide +kernel
theorem dX10_plans_29 : decode cX10_plans 29 = .ok (.iinc 2 1, 3) := by decide +kernel
theorem dX10_plans_32 : decode cX10_plans 32 = .ok (.goto (-28), 3) := by decide +kernel
theorem dX10_plans_35 : decode cX10_plans 35 = .ok (.iload_n 1, 1) := by decide +kernel
theorem dX10_plans_36 : decode cX10_plans 36 = .ok (.ireturn, 1) := by decide +kernel
set_option maxRecDepth 20000 in
theorem bX10_plans_0 {G : Gx} {mm : Nat → Nat → Int32} {lm : Nat → Int64}  {o : Ou} {z : Wd} {a b : Nat} (hw : J G M_X10_plans 4 [(0, .ref 63), (1, .int 0), (2, .int 0)] [] (SH, mm, lm) false o z false a b) :
    J G M_X10_plans 0 [(0, .ref 63)] [] (SH, mm, lm) false o z false a b := by
  refine J_iconst (v := 0) (by decide) dX10_plans_0 ?_
  refine J_istore_n [(1, .int 0), (0, .ref 63)] rfl (i := 1) (by decide) rfl dX10_plans_1 ?_
  refine J_iconst (v := 0) (by decide) dX10_plans_2 ?_
  refine J_istore_n [(2, .int 0), (1, .int 0), (0, .ref 63)] rfl (i := 2) (by decide) rfl dX10_plans_3 ?_
  exact J_sub [2, 1, 0] rfl hw
set_option maxRecDepth 20000 in
theorem bX10_plans_4 {G : Gx} {mm : Nat → Nat → Int32} {lm : Nat → Int64} {x1 : Int32} {x2 : Int32} {o : Ou} {z : Wd} {a b : Nat} (hw : (((mm 63 8) ≤ x2) → o = .inl (some (.int x1)) ∧ z = (SH, mm, lm)) ∧ ((¬ (mm 63 8) ≤ x2) → ∃ (v2 : Int32), Ct G M_X10_of [.ref 63, .int x2, .int 2] (SH, mm, lm) false (.inl (some (.int v2))) (SH, mm, lm) false 0 0 ∧ ((v2 < 0) → J G M_X10_plans 4 [(0, .ref 63), (1, .int (x1 + 0)), (2, .int (x2 + 1))] [] (SH, mm, lm) false o z false a b) ∧ ((¬ v2 < 0) → J G M_X10_plans 4 [(0, .ref 63), (1, .int (x1 + 1)), (2, .int (x2 + 1))] [] (SH, mm, lm) false o z false a b))) :
    J G M_X10_plans 4 [(0, .ref 63), (1, .int x1), (2, .int x2)] [] (SH, mm, lm) false o z false a b := by
  refine J_iload_n rfl (i := 2) rfl dX10_plans_4 ?_
  refine J_aload_n rfl (i := 0) rfl dX10_plans_5 ?_
  refine J_geti kls_10 (q := 63) (k := 8) sh_63 (by decide) rfl gw_1441 dX10_plans_6 ?_
  refine J_icmp_ge (tgt := 35) dX10_plans_9 (by decide) (fun hb5 => ?_) (fun hb5 => ?_)
  · replace hw := hw.1 hb5
    refine J_iload_n rfl (i := 1) rfl dX10_plans_35 ?_
    exact J_fini (ty := .int) rfl rfl dX10_plans_36 hw
  · replace hw := hw.2 hb5
    refine J_iload_n rfl (i := 1) rfl dX10_plans_12 ?_
    refine J_aload_n rfl (i := 0) rfl dX10_plans_13 ?_
    refine J_iload_n rfl (i := 2) rfl dX10_plans_14 ?_
    refine J_iconst (v := 2) (by decide) dX10_plans_15 ?_
    obtain ⟨v2, hc1, hw⟩ := hw
    refine J_callV (as := [.int x2, .int 2]) (k := 63) (st := [.int x1]) cal_X10_of cai_X10_of gw_1688 ⟨by decide, by decide⟩ cnt_X10_of sh_63 rfl rfl (Nat.le_of_ble_eq_true rfl) dX10_plans_16 (Nat.zero_add _).symm (Nat.zero_add _).symm hc1 ?_
    refine J_if_lt (tgt := 26) dX10_plans_19 (by decide) (fun hb4 => ?_) (fun hb4 => ?_)
    · replace hw := hw.1 hb4
      refine J_iconst (v := 0) (by decide) dX10_plans_26 ?_
      refine J_iadd dX10_plans_27 ?_
      refine J_istore_n [(1, .int (x1 + 0)), (0, .ref 63), (2, .int x2)] rfl (i := 1) (by decide) rfl dX10_plans_28 ?_
      refine J_iinc [(2, .int (x2 + 1)), (1, .int (x1 + 0)), (0, .ref 63)] (i := 2) (v := (x2 + 1)) rfl rfl (by decide) rfl dX10_plans_29 ?_
      refine J_goto (tgt := 4) dX10_plans_32 (by decide) ?_
      exact J_sub [2, 1, 0] rfl hw
    · replace hw := hw.2 hb4
      refine J_iconst (v := 1) (by decide) dX10_plans_22 ?_
      refine J_goto (tgt := 27) dX10_plans_23 (by decide) ?_
      refine J_iadd dX10_plans_27 ?_
      refine J_istore_n [(1, .int (x1 + 1)), (0, .ref 63), (2, .int x2)] rfl (i := 1) (by decide) rfl dX10_plans_28 ?_
      refine J_iinc [(2, .int (x2 + 1)), (1, .int (x1 + 1)), (0, .ref 63)] (i := 2) (v := (x2 + 1)) rfl rfl (by decide) rfl dX10_plans_29 ?_
      refine J_goto (tgt := 4) dX10_plans_32 (by decide) ?_
      exact J_sub [2, 1, 0] rfl hw
theorem dX10_setPlan_0 : decode cX10_setPlan 0 = .ok (.aload_n 0, 1) := by decide +kernel
theorem dX10_setPlan_1 : decode cX10_setPlan 1 = .ok (.aload_n 0, 1) := by decide +kernel
theorem dX10_setPlan_2 : decode cX10_setPlan 2 = .ok (.iload_n 1, 1) := by decide +kernel
theorem dX10_setPlan_3 : decode cX10_setPlan 3 = .ok (.invokevirtual 235, 3) := by decide +kernel
theorem dX10_setPlan_6 : decode cX10_setPlan 6 = .ok (.ifCond .eq 22, 3) := by decide +kernel
theorem dX10_setPlan_9 : decode cX10_setPlan 9 = .ok (.aload_n 0, 1) := by decide +kernel
theorem dX10_setPlan_10 : decode cX10_setPlan 10 = .ok (.iload_n 2, 1) := by decide +kernel
theorem dX10_setPlan_11 : decode cX10_setPlan 11 = .ok (.invokevirtual 238, 3) := by decide +kernel
theorem dX10_setPlan_14 : decode cX10_setPlan 14 = .ok (.ifCond .eq 14, 3) := by decide +kernel
theorem dX10_setPlan_17 : decode cX10_setPlan 17 = .ok (.iload_n 3, 1) := by decide +kernel
theorem dX10_setPlan_18 : decode cX10_setPlan 18 = .ok (.invokestatic 241, 3) := by decide +kernel
theorem dX10_setPlan_21 : decode cX10_setPlan 21 = .ok (.ifCond .eq 7, 3) := by decide +kernel
theorem dX10_setPlan_24 : decode cX10_setPlan 24 = .ok (.iconst 1, 1) := by decide +kernel
theorem dX10_setPlan_25 : decode cX10_setPlan 25 = .ok (.goto 4, 3) := by decide +kernel
theorem dX10_setPlan_28 : decode cX10_setPlan 28 = .ok (.iconst 0, 1) := by decide +kernel
theorem dX10_setPlan_29 : decode cX10_setPlan 29 = .ok (.invokevirtual 221, 3) := by decide +kernel
theorem dX10_setPlan_32 : decode cX10_setPlan 32 = .ok (.ifCond .eq 5, 3) := by decide +kernel
theorem dX10_setPlan_35 : decode cX10_setPlan 35 = .ok (.iconst 0, 1) := by decide +kernel
theorem dX10_setPlan_36 : decode cX10_setPlan 36 = .ok (.ireturn, 1) := by decide +kernel
theorem dX10_setPlan_37 : decode cX10_setPlan 37 = .ok (.aload_n 0, 1) := by decide +kernel
theorem dX10_setPlan_38 : decode cX10_setPlan 38 = .ok (.invokevirtual 257, 3) := by decide +kernel
theorem dX10_setPlan_41 : decode cX10_setPlan 41 = .ok (.aload_n 0, 1) := by decide +kernel
theorem dX10_setPlan_42 : decode cX10_setPlan 42 = .ok (.iload_n 1, 1) := by decide +kernel
theorem dX10_setPlan_43 : decode cX10_setPlan 43 = .ok (.iconst 2, 1) := by decide +kernel
theorem dX10_setPlan_44 : decode cX10_setPlan 44 = .ok (.iload_n 2, 1) := by decide +kernel
theorem dX10_setPlan_45 : decode cX10_setPlan 45 = .ok (.invokevirtual 260, 3) := by decide +kernel
theorem dX10_setPlan_48 : decode cX10_setPlan 48 = .ok (.aload_n 0, 1) := by decide +kernel
theorem dX10_setPlan_49 : decode cX10_setPlan 49 = .ok (.iload_n 1, 1) := by decide +kernel
theorem dX10_setPlan_50 : decode cX10_setPlan 50 = .ok (.iconst 3, 1) := by decide +kernel
theorem dX10_setPlan_51 : decode cX10_setPlan 51 = .ok (.iload_n 3, 1) := by decide +kernel
theorem dX10_setPlan_52 : decode cX10_setPlan 52 = .ok (.invokevirtual 260, 3) := by decide +kernel
theorem dX10_setPlan_55 : decode cX10_setPlan 55 = .ok (.aload_n 0, 1) := by decide +kernel
theorem dX10_setPlan_56 : decode cX10_setPlan 56 = .ok (.invokevirtual 286, 3) := by decide +kernel
theorem dX10_setPlan_59 : decode cX10_setPlan 59 = .ok (.ireturn, 1) := by decide +kernel
set_option maxRecDepth 20000 in
theorem bX10_setPlan_0 {G : Gx} {mm : Nat → Nat → Int32} {lm : Nat → Int64} {x1 : Int32} {x2 : Int32} {x3 : Int32} {o : Ou} {z : Wd} {a b : Nat} (hw : ∃ (v2 : Int32), Ct G M_X10_isBell [.ref 63, .int x1] (SH, mm, lm) false (.inl (some (.int v2))) (SH, mm, lm) false 0 0 ∧ ((v2 = 0) → ∃ (v5 : Int32) (m6 : Nat → Nat → Int32), Ct G M_X10_isWrong [.ref 63, .int 0] (SH, mm, lm) false (.inl (some (.int v5))) (SH, m6, lm) false 0 0 ∧ ((v5 = 0) → J G M_X10_setPlan 37 [(0, .ref 63), (1, .int x1), (2, .int x2), (3, .int x3)] [] (SH, m6, lm) false o z false a b) ∧ ((¬ v5 = 0) → o = .inl (some (.int 0)) ∧ z = (SH, m6, lm))) ∧ ((¬ v2 = 0) → ∃ (v9 : Int32), Ct G M_X10_isBeam [.ref 63, .int x2] (SH, mm, lm) false (.inl (some (.int v9))) (SH, mm, lm) false 0 0 ∧ ((v9 = 0) → ∃ (v12 : Int32) (m13 : Nat → Nat → Int32), Ct G M_X10_isWrong [.ref 63, .int 0] (SH, mm, lm) false (.inl (some (.int v12))) (SH, m13, lm) false 0 0 ∧ ((v12 = 0) → J G M_X10_setPlan 37 [(0, .ref 63), (1, .int x1), (2, .int x2), (3, .int x3)] [] (SH, m13, lm) false o z false a b) ∧ ((¬ v12 = 0) → o = .inl (some (.int 0)) ∧ z = (SH, m13, lm))) ∧ ((¬ v9 = 0) → ∃ (v16 : Int32), Ct G M_X10_isPosition [.int x3] (SH, mm, lm) false (.inl (some (.int v16))) (SH, mm, lm) false 0 0 ∧ ((v16 = 0) → ∃ (v19 : Int32) (m20 : Nat → Nat → Int32), Ct G M_X10_isWrong [.ref 63, .int 0] (SH, mm, lm) false (.inl (some (.int v19))) (SH, m20, lm) false 0 0 ∧ ((v19 = 0) → J G M_X10_setPlan 37 [(0, .ref 63), (1, .int x1), (2, .int x2), (3, .int x3)] [] (SH, m20, lm) false o z false a b) ∧ ((¬ v19 = 0) → o = .inl (some (.int 0)) ∧ z = (SH, m20, lm))) ∧ ((¬ v16 = 0) → ∃ (v23 : Int32) (m24 : Nat → Nat → Int32), Ct G M_X10_isWrong [.ref 63, .int 1] (SH, mm, lm) false (.inl (some (.int v23))) (SH, m24, lm) false 0 0 ∧ ((v23 = 0) → J G M_X10_setPlan 37 [(0, .ref 63), (1, .int x1), (2, .int x2), (3, .int x3)] [] (SH, m24, lm) false o z false a b) ∧ ((¬ v23 = 0) → o = .inl (some (.int 0)) ∧ z = (SH, m24, lm)))))) :
    J G M_X10_setPlan 0 [(0, .ref 63), (1, .int x1), (2, .int x2), (3, .int x3)] [] (SH, mm, lm) false o z false a b := by
  refine J_aload_n rfl (i := 0) rfl dX10_setPlan_0 ?_
  refine J_aload_n rfl (i := 0) rfl dX10_setPlan_1 ?_
  refine J_iload_n rfl (i := 1) rfl dX10_setPlan_2 ?_
  obtain ⟨v2, hc1, hw⟩ := hw
  refine J_callV (as := [.int x1]) (k := 63) (st := [.ref 63]) cal_X10_isBell cai_X10_isBell gw_1671 ⟨by decide, by decide⟩ cnt_X10_isBell sh_63 rfl rfl (Nat.le_of_ble_eq_true rfl) dX10_setPlan_3 (Nat.zero_add _).symm (Nat.zero_add _).symm hc1 ?_
  refine J_if_eq (tgt := 28) dX10_setPlan_6 (by decide) (fun hb28 => ?_) (fun hb28 => ?_)
  · replace hw := hw.1 hb28
    refine J_iconst (v := 0) (by decide) dX10_setPlan_28 ?_
    obtain ⟨v5, m6, hc4, hw⟩ := hw
    refine J_callV (as := [.int 0]) (k := 63) (st := []) cal_X10_isWrong cai_X10_isWrong gw_1663 ⟨by decide, by decide⟩ cnt_X10_isWrong sh_63 rfl rfl (Nat.le_of_ble_eq_true rfl) dX10_setPlan_29 (Nat.zero_add _).symm (Nat.zero_add _).symm hc4 ?_
    refine J_if_eq (tgt := 37) dX10_setPlan_32 (by decide) (fun hb7 => ?_) (fun hb7 => ?_)
    · replace hw := hw.1 hb7
      exact hw
    · replace hw := hw.2 hb7
      refine J_iconst (v := 0) (by decide) dX10_setPlan_35 ?_
      exact J_fini (ty := .int) rfl rfl dX10_setPlan_36 hw
  · replace hw := hw.2 hb28
    refine J_aload_n rfl (i := 0) rfl dX10_setPlan_9 ?_
    refine J_iload_n rfl (i := 2) rfl dX10_setPlan_10 ?_
    obtain ⟨v9, hc8, hw⟩ := hw
    refine J_callV (as := [.int x2]) (k := 63) (st := [.ref 63]) cal_X10_isBeam cai_X10_isBeam gw_1675 ⟨by decide, by decide⟩ cnt_X10_isBeam sh_63 rfl rfl (Nat.le_of_ble_eq_true rfl) dX10_setPlan_11 (Nat.zero_add _).symm (Nat.zero_add _).symm hc8 ?_
    refine J_if_eq (tgt := 28) dX10_setPlan_14 (by decide) (fun hb27 => ?_) (fun hb27 => ?_)
    · replace hw := hw.1 hb27
      refine J_iconst (v := 0) (by decide) dX10_setPlan_28 ?_
      obtain ⟨v12, m13, hc11, hw⟩ := hw
      refine J_callV (as := [.int 0]) (k := 63) (st := []) cal_X10_isWrong cai_X10_isWrong gw_1663 ⟨by decide, by decide⟩ cnt_X10_isWrong sh_63 rfl rfl (Nat.le_of_ble_eq_true rfl) dX10_setPlan_29 (Nat.zero_add _).symm (Nat.zero_add _).symm hc11 ?_
      refine J_if_eq (tgt := 37) dX10_setPlan_32 (by decide) (fun hb14 => ?_) (fun hb14 => ?_)
      · replace hw := hw.1 hb14
        exact hw
      · replace hw := hw.2 hb14
        refine J_iconst (v := 0) (by decide) dX10_setPlan_35 ?_
        exact J_fini (ty := .int) rfl rfl dX10_setPlan_36 hw
    · replace hw := hw.2 hb27
      refine J_iload_n rfl (i := 3) rfl dX10_setPlan_17 ?_
      obtain ⟨v16, hc15, hw⟩ := hw
      refine J_callS (as := [.int x3]) (st := [.ref 63]) cal_X10_isPosition cas_X10_isPosition gw_1679 ⟨by decide, by decide⟩ cnt_X10_isPosition rfl (Nat.le_of_ble_eq_true rfl) dX10_setPlan_18 (Nat.zero_add _).symm (Nat.zero_add _).symm hc15 ?_
      refine J_if_eq (tgt := 28) dX10_setPlan_21 (by decide) (fun hb26 => ?_) (fun hb26 => ?_)
      · replace hw := hw.1 hb26
        refine J_iconst (v := 0) (by decide) dX10_setPlan_28 ?_
        obtain ⟨v19, m20, hc18, hw⟩ := hw
        refine J_callV (as := [.int 0]) (k := 63) (st := []) cal_X10_isWrong cai_X10_isWrong gw_1663 ⟨by decide, by decide⟩ cnt_X10_isWrong sh_63 rfl rfl (Nat.le_of_ble_eq_true rfl) dX10_setPlan_29 (Nat.zero_add _).symm (Nat.zero_add _).symm hc18 ?_
        refine J_if_eq (tgt := 37) dX10_setPlan_32 (by decide) (fun hb21 => ?_) (fun hb21 => ?_)
        · replace hw := hw.1 hb21
          exact hw
        · replace hw := hw.2 hb21
          refine J_iconst (v := 0) (by decide) dX10_setPlan_35 ?_
          exact J_fini (ty := .int) rfl rfl dX10_setPlan_36 hw
      · replace hw := hw.2 hb26
        refine J_iconst (v := 1) (by decide) dX10_setPlan_24 ?_
        refine J_goto (tgt := 29) dX10_setPlan_25 (by decide) ?_
        obtain ⟨v23, m24, hc22, hw⟩ := hw
        refine J_callV (as := [.int 1]) (k := 63) (st := []) cal_X10_isWrong cai_X10_isWrong gw_1663 ⟨by decide, by decide⟩ cnt_X10_isWrong sh_63 rfl rfl (Nat.le_of_ble_eq_true rfl) dX10_setPlan_29 (Nat.zero_add _).symm (Nat.zero_add _).symm hc22 ?_
        refine J_if_eq (tgt := 37) dX10_setPlan_32 (by decide) (fun hb25 => ?_) (fun hb25 => ?_)
        · replace hw := hw.1 hb25
          exact hw
        · replace hw := hw.2 hb25
          refine J_iconst (v := 0) (by decide) dX10_setPlan_35 ?_
          exact J_fini (ty := .int) rfl rfl dX10_setPlan_36 hw
set_option maxRecDepth 20000 in
theorem bX10_setPlan_37 {G : Gx} {mm : Nat → Nat → Int32} {lm : Nat → Int64} {x1 : Int32} {x2 : Int32} {x3 : Int32} {o : Ou} {z : Wd} {a b : Nat} (hw : ∃ (m3 : Nat → Nat → Int32), Ct G M_X10_remember [.ref 63] (SH, mm, lm) false (.inl none) (SH, m3, lm) false 0 0 ∧ ∃ (m6 : Nat → Nat → Int32), Ct G M_X10_set [.ref 63, .int x1, .int 2, .int x2] (SH, m3, lm) false (.inl none) (SH, m6, lm) false 0 0 ∧ ∃ (m9 : Nat → Nat → Int32), Ct G M_X10_set [.ref 63, .int x1, .int 3, .int x3] (SH, m6, lm) false (.inl none) (SH, m9, lm) false 0 0 ∧ ∃ (v11 : Int32), Ct G M_X10_plans [.ref 63] (SH, m9, lm) false (.inl (some (.int v11))) (SH, m9, lm) false 0 0 ∧ o = .inl (some (.int v11)) ∧ z = (SH, m9, lm)) :
    J G M_X10_setPlan 37 [(0, .ref 63), (1, .int x1), (2, .int x2), (3, .int x3)] [] (SH, mm, lm) false o z false a b := by
  refine J_aload_n rfl (i := 0) rfl dX10_setPlan_37 ?_
  obtain ⟨m3, hc1, hw⟩ := hw
  refine J_callV (as := []) (k := 63) (st := []) cal_X10_remember cai_X10_remember gw_1707 ⟨by decide, by decide⟩ cnt_X10_remember sh_63 rfl rfl (Nat.le_of_ble_eq_true rfl) dX10_setPlan_38 (Nat.zero_add _).symm (Nat.zero_add _).symm hc1 ?_
  refine J_aload_n rfl (i := 0) rfl dX10_setPlan_41 ?_
  refine J_iload_n rfl (i := 1) rfl dX10_setPlan_42 ?_
  refine J_iconst (v := 2) (by decide) dX10_setPlan_43 ?_
  refine J_iload_n rfl (i := 2) rfl dX10_setPlan_44 ?_
  obtain ⟨m6, hc4, hw⟩ := hw
  refine J_callV (as := [.int x1, .int 2, .int x2]) (k := 63) (st := []) cal_X10_set cai_X10_set gw_1711 ⟨by decide, by decide⟩ cnt_X10_set sh_63 rfl rfl (Nat.le_of_ble_eq_true rfl) dX10_setPlan_45 (Nat.zero_add _).symm (Nat.zero_add _).symm hc4 ?_
  refine J_aload_n rfl (i := 0) rfl dX10_setPlan_48 ?_
  refine J_iload_n rfl (i := 1) rfl dX10_setPlan_49 ?_
  refine J_iconst (v := 3) (by decide) dX10_setPlan_50 ?_
  refine J_iload_n rfl (i := 3) rfl dX10_setPlan_51 ?_
  obtain ⟨m9, hc7, hw⟩ := hw
  refine J_callV (as := [.int x1, .int 3, .int x3]) (k := 63) (st := []) cal_X10_set cai_X10_set gw_1711 ⟨by decide, by decide⟩ cnt_X10_set sh_63 rfl rfl (Nat.le_of_ble_eq_true rfl) dX10_setPlan_52 (Nat.zero_add _).symm (Nat.zero_add _).symm hc7 ?_
  refine J_aload_n rfl (i := 0) rfl dX10_setPlan_55 ?_
  obtain ⟨v11, hc10, hw⟩ := hw
  refine J_callV (as := []) (k := 63) (st := []) cal_X10_plans cai_X10_plans gw_1782 ⟨by decide, by decide⟩ cnt_X10_plans sh_63 rfl rfl (Nat.le_of_ble_eq_true rfl) dX10_setPlan_56 (Nat.zero_add _).symm (Nat.zero_add _).symm hc10 ?_
  exact J_fini (ty := .int) rfl rfl dX10_setPlan_59 hw
theorem dX10_clearPlan_0 : decode cX10_clearPlan 0 = .ok (.aload_n 0, 1) := by decide +kernel
theorem dX10_clearPlan_1 : decode cX10_clearPlan 1 = .ok (.aload_n 0, 1) := by decide +kernel
theorem dX10_clearPlan_2 : decode cX10_clearPlan 2 = .ok (.iload_n 1, 1) := by decide +kernel
theorem dX10_clearPlan_3 : decode cX10_clearPlan 3 = .ok (.invokevirtual 235, 3) := by decide +kernel
theorem dX10_clearPlan_6 : decode cX10_clearPlan 6 = .ok (.invokevirtual 221, 3) := by decide +kernel
theorem dX10_clearPlan_9 : decode cX10_clearPlan 9 = .ok (.ifCond .eq 5, 3) := by decide +kernel
theorem dX10_clearPlan_12 : decode cX10_clearPlan 12 = .ok (.iconst 0, 1) := by decide +kernel
theorem dX10_clearPlan_13 : decode cX10_clearPlan 13 = .ok (.ireturn, 1) := by decide +kernel
theorem dX10_clearPlan_14 : decode cX10_clearPlan 14 = .ok (.aload_n 0, 1) := by decide +kernel
theorem dX10_clearPlan_15 : decode cX10_clearPlan 15 = .ok (.iload_n 1, 1) := by decide +kernel
theorem dX10_clearPlan_16 : decode cX10_clearPlan 16 = .ok (.iconst 2, 1) := by decide +kernel
theorem dX10_clearPlan_17 : decode cX10_clearPlan 17 = .ok (.invokevirtual 229, 3) := by decide +kernel
theorem dX10_clearPlan_20 : decode cX10_clearPlan 20 = .ok (.ifCond .ge 6, 3) := by decide +kernel
theorem dX10_clearPlan_23 : decode cX10_clearPlan 23 = .ok (.bipush (-2), 2) := by decide +kernel
theorem dX10_clearPlan_25 : decode cX10_clearPlan 25 = .ok (.ireturn, 1) := by decide +kernel
theorem dX10_clearPlan_26 : decode cX10_clearPlan 26 = .ok (.aload_n 0, 1) := by decide +kernel
theorem dX10_clearPlan_27 : decode cX10_clearPlan 27 = .ok (.invokevirtual 257, 3) := by decide +kernel
theorem dX10_clearPlan_30 : decode cX10_clearPlan 30 = .ok (.aload_n 0, 1) := by decide +kernel
theorem dX10_clearPlan_31 : decode cX10_clearPlan 31 = .ok (.iload_n 1, 1) := by decide +kernel
theorem dX10_clearPlan_32 : decode cX10_clearPlan 32 = .ok (.iconst 2, 1) := by decide +kernel
theorem dX10_clearPlan_33 : decode cX10_clearPlan 33 = .ok (.iconst (-1), 1) := by decide +kernel
theorem dX10_clearPlan_34 : decode cX10_clearPlan 34 = .ok (.invokevirtual 260, 3) := by decide +kernel
theorem dX10_clearPlan_37 : decode cX10_clearPlan 37 = .ok (.aload_n 0, 1) := by decide +kernel
theorem dX10_clearPlan_38 : decode cX10_clearPlan 38 = .ok (.invokevirtual 286, 3) := by decide +kernel
theorem dX10_clearPlan_41 : decode cX10_clearPlan 41 = .ok (.ireturn, 1) := by decide +kernel
set_option maxRecDepth 20000 in
theorem bX10_clearPlan_0 {G : Gx} {mm : Nat → Nat → Int32} {lm : Nat → Int64} {x1 : Int32} {o : Ou} {z : Wd} {a b : Nat} (hw : ∃ (v2 : Int32), Ct G M_X10_isBell [.ref 63, .int x1] (SH, mm, lm) false (.inl (some (.int v2))) (SH, mm, lm) false 0 0 ∧ ∃ (v5 : Int32) (m6 : Nat → Nat → Int32), Ct G M_X10_isWrong [.ref 63, .int v2] (SH, mm, lm) false (.inl (some (.int v5))) (SH, m6, lm) false 0 0 ∧ ((v5 = 0) → J G M_X10_clearPlan 14 [(0, .ref 63), (1, .int x1)] [] (SH, m6, lm) false o z false a b) ∧ ((¬ v5 = 0) → o = .inl (some (.int 0)) ∧ z = (SH, m6, lm))) :
    J G M_X10_clearPlan 0 [(0, .ref 63), (1, .int x1)] [] (SH, mm, lm) false o z false a b := by
  refine J_aload_n rfl (i := 0) rfl dX10_clearPlan_0 ?_
  refine J_aload_n rfl (i := 0) rfl dX10_clearPlan_1 ?_
  refine J_iload_n rfl (i := 1) rfl dX10_clearPlan_2 ?_
  obtain ⟨v2, hc1, hw⟩ := hw
  refine J_callV (as := [.int x1]) (k := 63) (st := [.ref 63]) cal_X10_isBell cai_X10_isBell gw_1671 ⟨by decide, by decide⟩ cnt_X10_isBell sh_63 rfl rfl (Nat.le_of_ble_eq_true rfl) dX10_clearPlan_3 (Nat.zero_add _).symm (Nat.zero_add _).symm hc1 ?_
  obtain ⟨v5, m6, hc4, hw⟩ := hw
  refine J_callV (as := [.int v2]) (k := 63) (st := []) cal_X10_isWrong cai_X10_isWrong gw_1663 ⟨by decide, by decide⟩ cnt_X10_isWrong sh_63 rfl rfl (Nat.le_of_ble_eq_true rfl) dX10_clearPlan_6 (Nat.zero_add _).symm (Nat.zero_add _).symm hc4 ?_
  refine J_if_eq (tgt := 14) dX10_clearPlan_9 (by decide) (fun hb7 => ?_) (fun hb7 => ?_)
  · replace hw := hw.1 hb7
    exact hw
  · replace hw := hw.2 hb7
    refine J_iconst (v := 0) (by decide) dX10_clearPlan_12 ?_
    exact J_fini (ty := .int) rfl rfl dX10_clearPlan_13 hw
set_option maxRecDepth 20000 in
theorem bX10_clearPlan_14 {G : Gx} {mm : Nat → Nat → Int32} {lm : Nat → Int64} {x1 : Int32} {o : Ou} {z : Wd} {a b : Nat} (hw : ∃ (v2 : Int32), Ct G M_X10_of [.ref 63, .int x1, .int 2] (SH, mm, lm) false (.inl (some (.int v2))) (SH, mm, lm) false 0 0 ∧ ((0 ≤ v2) → ∃ (m6 : Nat → Nat → Int32), Ct G M_X10_remember [.ref 63] (SH, mm, lm) false (.inl none) (SH, m6, lm) false 0 0 ∧ ∃ (m9 : Nat → Nat → Int32), Ct G M_X10_set [.ref 63, .int x1, .int 2, .int (-1)] (SH, m6, lm) false (.inl none) (SH, m9, lm) false 0 0 ∧ ∃ (v11 : Int32), Ct G M_X10_plans [.ref 63] (SH, m9, lm) false (.inl (some (.int v11))) (SH, m9, lm) false 0 0 ∧ o = .inl (some (.int v11)) ∧ z = (SH, m9, lm)) ∧ ((¬ 0 ≤ v2) → o = .inl (some (.int (-2))) ∧ z = (SH, mm, lm))) :
    J G M_X10_clearPlan 14 [(0, .ref 63), (1, .int x1)] [] (SH, mm, lm) false o z false a b := by
  refine J_aload_n rfl (i := 0) rfl dX10_clearPlan_14 ?_
  refine J_iload_n rfl (i := 1) rfl dX10_clearPlan_15 ?_
  refine J_iconst (v := 2) (by decide) dX10_clearPlan_16 ?_
  obtain ⟨v2, hc1, hw⟩ := hw
  refine J_callV (as := [.int x1, .int 2]) (k := 63) (st := []) cal_X10_of cai_X10_of gw_1688 ⟨by decide, by decide⟩ cnt_X10_of sh_63 rfl rfl (Nat.le_of_ble_eq_true rfl) dX10_clearPlan_17 (Nat.zero_add _).symm (Nat.zero_add _).symm hc1 ?_
  refine J_if_ge (tgt := 26) dX10_clearPlan_20 (by decide) (fun hb13 => ?_) (fun hb13 => ?_)
  · replace hw := hw.1 hb13
    refine J_aload_n rfl (i := 0) rfl dX10_clearPlan_26 ?_
    obtain ⟨m6, hc4, hw⟩ := hw
    refine J_callV (as := []) (k := 63) (st := []) cal_X10_remember cai_X10_remember gw_1707 ⟨by decide, by decide⟩ cnt_X10_remember sh_63 rfl rfl (Nat.le_of_ble_eq_true rfl) dX10_clearPlan_27 (Nat.zero_add _).symm (Nat.zero_add _).symm hc4 ?_
    refine J_aload_n rfl (i := 0) rfl dX10_clearPlan_30 ?_
    refine J_iload_n rfl (i := 1) rfl dX10_clearPlan_31 ?_
    refine J_iconst (v := 2) (by decide) dX10_clearPlan_32 ?_
    refine J_iconst (v := (-1)) (by decide) dX10_clearPlan_33 ?_
    obtain ⟨m9, hc7, hw⟩ := hw
    refine J_callV (as := [.int x1, .int 2, .int (-1)]) (k := 63) (st := []) cal_X10_set cai_X10_set gw_1711 ⟨by decide, by decide⟩ cnt_X10_set sh_63 rfl rfl (Nat.le_of_ble_eq_true rfl) dX10_clearPlan_34 (Nat.zero_add _).symm (Nat.zero_add _).symm hc7 ?_
    refine J_aload_n rfl (i := 0) rfl dX10_clearPlan_37 ?_
    obtain ⟨v11, hc10, hw⟩ := hw
    refine J_callV (as := []) (k := 63) (st := []) cal_X10_plans cai_X10_plans gw_1782 ⟨by decide, by decide⟩ cnt_X10_plans sh_63 rfl rfl (Nat.le_of_ble_eq_true rfl) dX10_clearPlan_38 (Nat.zero_add _).symm (Nat.zero_add _).symm hc10 ?_
    exact J_fini (ty := .int) rfl rfl dX10_clearPlan_41 hw
  · replace hw := hw.2 hb13
    refine J_bipush (v := (-2)) (by decide) dX10_clearPlan_23 ?_
    exact J_fini (ty := .int) rfl rfl dX10_clearPlan_25 hw
theorem dX10_layOut_0 : decode cX10_layOut 0 = .ok (.iload_n 1, 1) := by decide +kernel
theorem dX10_layOut_1 : decode cX10_layOut 1 = .ok (.istore_n 2, 1) := by decide +kernel
theorem dX10_layOut_2 : decode cX10_layOut 2 = .ok (.iconst 0, 1) := by decide +kernel
theorem dX10_layOut_3 : decode cX10_layOut 3 = .ok (.istore_n 3, 1) := by decide +kernel
theorem dX10_layOut_4 : decode cX10_layOut 4 = .ok (.iload_n 3, 1) := by decide +kernel
theorem dX10_layOut_5 : decode cX10_layOut 5 = .ok (.aload_n 0, 1) := by decide +kernel
theorem dX10_layOut_6 : decode cX10_layOut 6 = .ok (.getfield 206, 3) := by decide +kernel
theorem dX10_layOut_9 : decode cX10_layOut 9 = .ok (.if_icmp .ge 100, 3) := by decide +kernel
theorem dX10_layOut_12 : decode cX10_layOut 12 = .ok (.aload_n 0, 1) := by decide +kernel
theorem dX10_layOut_13 : decode cX10_layOut 13 = .ok (.getfield 56, 3) := by decide +kernel
theorem dX10_layOut_16 : decode cX10_layOut 16 = .ok (.iload_n 3, 1) := by decide +kernel
theorem dX10_layOut_17 : decode cX10_layOut 17 = .ok (.iload_n 2, 1) := by decide +kernel
theorem dX10_layOut_18 : decode cX10_layOut 18 = .ok (.iconst 3, 1) := by decide +kernel
theorem dX10_layOut_19 : decode cX10_layOut 19 = .ok (.irem, 1) := by decide +kernel
theorem dX10_layOut_20 : decode cX10_layOut 20 = .ok (.iastore, 1) := by decide +kernel
theorem dX10_layOut_21 : decode cX10_layOut 21 = .ok (.iload_n 2, 1) := by decide +kernel
theorem dX10_layOut_22 : decode cX10_layOut 22 = .ok (.iconst 3, 1) := by decide +kernel
theorem dX10_layOut_23 : decode cX10_layOut 23 = .ok (.idiv, 1) := by decide +kernel
theorem dX10_layOut_24 : decode cX10_layOut 24 = .ok (.istore_n 2, 1) := by decide +kernel
theorem dX10_layOut_25 : decode cX10_layOut 25 = .ok (.aload_n 0, 1) := by decide +kernel
theorem dX10_layOut_26 : decode cX10_layOut 26 = .ok (.getfield 53, 3) := by decide +kernel
theorem dX10_layOut_29 : decode cX10_layOut 29 = .ok (.iload_n 3, 1) := by decide +kernel
theorem dX10_layOut_30 : decode cX10_layOut 30 = .ok (.aload_n 0, 1) := by decide +kernel
theorem dX10_layOut_31 : decode cX10_layOut 31 = .ok (.getfield 56, 3) := by decide +kernel
theorem dX10_layOut_34 : decode cX10_layOut 34 = .ok (.iload_n 3, 1) := by decide +kernel
theorem dX10_layOut_35 : decode cX10_layOut 35 = .ok (.iaload, 1) := by decide +kernel
theorem dX10_layOut_36 : decode cX10_layOut 36 = .ok (.ifCond .ne 7, 3) := by decide +kernel
theorem dX10_layOut_39 : decode cX10_layOut 39 = .ok (.iconst (-1), 1) := by decide +kernel
theorem dX10_layOut_40 : decode cX10_layOut 40 = .ok (.goto 23, 3) := by decide +kernel
theorem dX10_layOut_43 : decode cX10_layOut 43 = .ok (.aload_n 0, 1) := by decide +kernel
theorem dX10_layOut_44 : decode cX10_layOut 44 = .ok (.iload_n 3, 1) := by decide +kernel
theorem dX10_layOut_45 : decode cX10_layOut 45 = .ok (.aload_n 0, 1) := by decide +kernel
theorem dX10_layOut_46 : decode cX10_layOut 46 = .ok (.getfield 56, 3) := by decide +kernel
theorem dX10_layOut_49 : decode cX10_layOut 49 = .ok (.iload_n 3, 1) := by decide +kernel
theorem dX10_layOut_50 : decode cX10_layOut 50 = .ok (.iaload, 1) := by decide +kernel
theorem dX10_layOut_51 : decode cX10_layOut 51 = .ok (.iconst 1, 1) := by decide +kernel
theorem dX10_layOut_52 : decode cX10_layOut 52 = .ok (.if_icmp .ne 7, 3) := by decide +kernel
theorem dX10_layOut_55 : decode cX10_layOut 55 = .ok (.iconst 0, 1) := by decide +kernel
theorem dX10_layOut_56 : decode cX10_layOut 56 = .ok (.goto 4, 3) := by decide +kernel
theorem dX10_layOut_59 : decode cX10_layOut 59 = .ok (.iconst 2, 1) := by decide +kernel
theorem dX10_layOut_60 : decode cX10_layOut 60 = .ok (.invokevirtual 229, 3) := by decide +kernel
theorem dX10_layOut_63 : decode cX10_layOut 63 = .ok (.iastore, 1) := by decide +kernel
theorem dX10_layOut_64 : decode cX10_layOut 64 = .ok (.aload_n 0, 1) := by decide +kernel
theorem dX10_layOut_65 : decode cX10_layOut 65 = .ok (.getfield 50, 3) := by decide +kernel
theorem dX10_layOut_68 : decode cX10_layOut 68 = .ok (.iload_n 3, 1) := by decide +kernel
theorem dX10_layOut_69 : decode cX10_layOut 69 = .ok (.aload_n 0, 1) := by decide +kernel
theorem dX10_layOut_70 : decode cX10_layOut 70 = .ok (.getfield 56, 3) := by decide +kernel
theorem dX10_layOut_73 : decode cX10_layOut 73 = .ok (.iload_n 3, 1) := by decide +kernel
theorem dX10_layOut_74 : decode cX10_layOut 74 = .ok (.iaload, 1) := by decide +kernel
theorem dX10_layOut_75 : decode cX10_layOut 75 = .ok (.ifCond .ne 7, 3) := by decide +kernel
theorem dX10_layOut_78 : decode cX10_layOut 78 = .ok (.iconst 0, 1) := by decide +kernel
theorem dX10_layOut_79 : decode cX10_layOut 79 = .ok (.goto 23, 3) := by decide +kernel
theorem dX10_layOut_82 : decode cX10_layOut 82 = .ok (.aload_n 0, 1) := by decide +kernel
theorem dX10_layOut_83 : decode cX10_layOut 83 = .ok (.iload_n 3, 1) := by decide +kernel
theorem dX10_layOut_84 : decode cX10_layOut 84 = .ok (.aload_n 0, 1) := by decide +kernel
theorem dX10_layOut_85 : decode cX10_layOut 85 = .ok (.getfield 56, 3) := by decide +kernel
theorem dX10_layOut_88 : decode cX10_layOut 88 = .ok (.iload_n 3, 1) := by decide +kernel
theorem dX10_layOut_89 : decode cX10_layOut 89 = .ok (.iaload, 1) := by decide +kernel
theorem dX10_layOut_90 : decode cX10_layOut 90 = .ok (.iconst 1, 1) := by decide +kernel
theorem dX10_layOut_91 : decode cX10_layOut 91 = .ok (.if_icmp .ne 7, 3) := by decide +kernel
theorem dX10_layOut_94 : decode cX10_layOut 94 = .ok (.iconst 1, 1) := by decide +kernel
theorem dX10_layOut_95 : decode cX10_layOut 95 = .ok (.goto 4, 3) := by decide +kernel
theorem dX10_layOut_98 : decode cX10_layOut 98 = .ok (.iconst 3, 1) := by decide +kernel
theorem dX10_layOut_99 : decode cX10_layOut 99 = .ok (.invokevirtual 229, 3) := by decide +kernel
theorem dX10_layOut_102 : decode cX10_layOut 102 = .ok (.iastore, 1) := by decide +kernel
theorem dX10_layOut_103 : decode cX10_layOut 103 = .ok (.iinc 3 1, 3) := by decide +kernel
theorem dX10_layOut_106 : decode cX10_layOut 106 = .ok (.goto (-102), 3) := by decide +kernel
theorem dX10_layOut_109 : decode cX10_layOut 109 = .ok (.return_, 1) := by decide +kernel
set_option maxRecDepth 20000 in
theorem bX10_layOut_0 {G : Gx} {mm : Nat → Nat → Int32} {lm : Nat → Int64} {x1 : Int32} {o : Ou} {z : Wd} {a b : Nat} (hw : J G M_X10_layOut 4 [(0, .ref 63), (2, .int x1), (3, .int 0)] [] (SH, mm, lm) false o z false a b) :
    J G M_X10_layOut 0 [(0, .ref 63), (1, .int x1)] [] (SH, mm, lm) false o z false a b := by
  refine J_iload_n rfl (i := 1) rfl dX10_layOut_0 ?_
  refine J_istore_n [(2, .int x1), (0, .ref 63), (1, .int x1)] rfl (i := 2) (by decide) rfl dX10_layOut_1 ?_
  refine J_iconst (v := 0) (by decide) dX10_layOut_2 ?_
  refine J_istore_n [(3, .int 0), (2, .int x1), (0, .ref 63), (1, .int x1)] rfl (i := 3) (by decide) rfl dX10_layOut_3 ?_
  exact J_sub [2, 1, 0] rfl hw
set_option maxRecDepth 20000 in
theorem bX10_layOut_4 {G : Gx} {mm : Nat → Nat → Int32} {lm : Nat → Int64} {x2 : Int32} {x3 : Int32} {o : Ou} {z : Wd} {a b : Nat} (hw : (((mm 63 8) ≤ x3) → o = .inl none ∧ z = (SH, mm, lm)) ∧ ((¬ (mm 63 8) ≤ x3) → ∃ j1 : Nat, x3 = nI j1 ∧ j1 < 8 ∧ ∃ j2 : Nat, x3 = nI j2 ∧ j2 < 8 ∧ ((¬ ((mset mm 78 j1 (x2 - x2 / 3 * 3)) 78 j2) = 0) → ∃ j3 : Nat, x3 = nI j3 ∧ j3 < 8 ∧ ((¬ ((mset mm 78 j1 (x2 - x2 / 3 * 3)) 78 j3) = 1) → ∃ (v5 : Int32), Ct G M_X10_of [.ref 63, .int x3, .int 2] (SH, (mset mm 78 j1 (x2 - x2 / 3 * 3)), lm) false (.inl (some (.int v5))) (SH, (mset mm 78 j1 (x2 - x2 / 3 * 3)), lm) false 0 0 ∧ ∃ j7 : Nat, x3 = nI j7 ∧ j7 < 8 ∧ ∃ j8 : Nat, x3 = nI j8 ∧ j8 < 8 ∧ ((¬ ((mset (mset mm 78 j1 (x2 - x2 / 3 * 3)) 77 j7 v5) 78 j8) = 0) → ∃ j9 : Nat, x3 = nI j9 ∧ j9 < 8 ∧ ((¬ ((mset (mset mm 78 j1 (x2 - x2 / 3 * 3)) 77 j7 v5) 78 j9) = 1) → ∃ (v11 : Int32), Ct G M_X10_of [.ref 63, .int x3, .int 3] (SH, (mset (mset mm 78 j1 (x2 - x2 / 3 * 3)) 77 j7 v5), lm) false (.inl (some (.int v11))) (SH, (mset (mset mm 78 j1 (x2 - x2 / 3 * 3)) 77 j7 v5), lm) false 0 0 ∧ ∃ j13 : Nat, x3 = nI j13 ∧ j13 < 8 ∧ J G M_X10_layOut 4 [(0, .ref 63), (2, .int (x2 / 3)), (3, .int (x3 + 1))] [] (SH, (mset (mset (mset mm 78 j1 (x2 - x2 / 3 * 3)) 77 j7 v5) 76 j13 v11), lm) false o z false a b) ∧ ((((mset (mset mm 78 j1 (x2 - x2 / 3 * 3)) 77 j7 v5) 78 j9) = 1) → ∃ (v15 : Int32), Ct G M_X10_of [.ref 63, .int x3, .int 1] (SH, (mset (mset mm 78 j1 (x2 - x2 / 3 * 3)) 77 j7 v5), lm) false (.inl (some (.int v15))) (SH, (mset (mset mm 78 j1 (x2 - x2 / 3 * 3)) 77 j7 v5), lm) false 0 0 ∧ ∃ j17 : Nat, x3 = nI j17 ∧ j17 < 8 ∧ J G M_X10_layOut 4 [(0, .ref 63), (2, .int (x2 / 3)), (3, .int (x3 + 1))] [] (SH, (mset (mset (mset mm 78 j1 (x2 - x2 / 3 * 3)) 77 j7 v5) 76 j17 v15), lm) false o z false a b)) ∧ ((((mset (mset mm 78 j1 (x2 - x2 / 3 * 3)) 77 j7 v5) 78 j8) = 0) → ∃ j19 : Nat, x3 = nI j19 ∧ j19 < 8 ∧ J G M_X10_layOut 4 [(0, .ref 63), (2, .int (x2 / 3)), (3, .int (x3 + 1))] [] (SH, (mset (mset (mset mm 78 j1 (x2 - x2 / 3 * 3)) 77 j7 v5) 76 j19 0), lm) false o z false a b)) ∧ ((((mset mm 78 j1 (x2 - x2 / 3 * 3)) 78 j3) = 1) → ∃ (v22 : Int32), Ct G M_X10_of [.ref 63, .int x3, .int 0] (SH, (mset mm 78 j1 (x2 - x2 / 3 * 3)), lm) false (.inl (some (.int v22))) (SH, (mset mm 78 j1 (x2 - x2 / 3 * 3)), lm) false 0 0 ∧ ∃ j24 : Nat, x3 = nI j24 ∧ j24 < 8 ∧ ∃ j25 : Nat, x3 = nI j25 ∧ j25 < 8 ∧ ((¬ ((mset (mset mm 78 j1 (x2 - x2 / 3 * 3)) 77 j24 v22) 78 j25) = 0) → ∃ j26 : Nat, x3 = nI j26 ∧ j26 < 8 ∧ ((¬ ((mset (mset mm 78 j1 (x2 - x2 / 3 * 3)) 77 j24 v22) 78 j26) = 1) → ∃ (v28 : Int32), Ct G M_X10_of [.ref 63, .int x3, .int 3] (SH, (mset (mset mm 78 j1 (x2 - x2 / 3 * 3)) 77 j24 v22), lm) false (.inl (some (.int v28))) (SH, (mset (mset mm 78 j1 (x2 - x2 / 3 * 3)) 77 j24 v22), lm) false 0 0 ∧ ∃ j30 : Nat, x3 = nI j30 ∧ j30 < 8 ∧ J G M_X10_layOut 4 [(0, .ref 63), (2, .int (x2 / 3)), (3, .int (x3 + 1))] [] (SH, (mset (mset (mset mm 78 j1 (x2 - x2 / 3 * 3)) 77 j24 v22) 76 j30 v28), lm) false o z false a b) ∧ ((((mset (mset mm 78 j1 (x2 - x2 / 3 * 3)) 77 j24 v22) 78 j26) = 1) → ∃ (v32 : Int32), Ct G M_X10_of [.ref 63, .int x3, .int 1] (SH, (mset (mset mm 78 j1 (x2 - x2 / 3 * 3)) 77 j24 v22), lm) false (.inl (some (.int v32))) (SH, (mset (mset mm 78 j1 (x2 - x2 / 3 * 3)) 77 j24 v22), lm) false 0 0 ∧ ∃ j34 : Nat, x3 = nI j34 ∧ j34 < 8 ∧ J G M_X10_layOut 4 [(0, .ref 63), (2, .int (x2 / 3)), (3, .int (x3 + 1))] [] (SH, (mset (mset (mset mm 78 j1 (x2 - x2 / 3 * 3)) 77 j24 v22) 76 j34 v32), lm) false o z false a b)) ∧ ((((mset (mset mm 78 j1 (x2 - x2 / 3 * 3)) 77 j24 v22) 78 j25) = 0) → ∃ j36 : Nat, x3 = nI j36 ∧ j36 < 8 ∧ J G M_X10_layOut 4 [(0, .ref 63), (2, .int (x2 / 3)), (3, .int (x3 + 1))] [] (SH, (mset (mset (mset mm 78 j1 (x2 - x2 / 3 * 3)) 77 j24 v22) 76 j36 0), lm) false o z false a b))) ∧ ((((mset mm 78 j1 (x2 - x2 / 3 * 3)) 78 j2) = 0) → ∃ j39 : Nat, x3 = nI j39 ∧ j39 < 8 ∧ ∃ j40 : Nat, x3 = nI j40 ∧ j40 < 8 ∧ ((¬ ((mset (mset mm 78 j1 (x2 - x2 / 3 * 3)) 77 j39 (-1)) 78 j40) = 0) → ∃ j41 : Nat, x3 = nI j41 ∧ j41 < 8 ∧ ((¬ ((mset (mset mm 78 j1 (x2 - x2 / 3 * 3)) 77 j39 (-1)) 78 j41) = 1) → ∃ (v43 : Int32), Ct G M_X10_of [.ref 63, .int x3, .int 3] (SH, (mset (mset mm 78 j1 (x2 - x2 / 3 * 3)) 77 j39 (-1)), lm) false (.inl (some (.int v43))) (SH, (mset (mset mm 78 j1 (x2 - x2 / 3 * 3)) 77 j39 (-1)), lm) false 0 0 ∧ ∃ j45 : Nat, x3 = nI j45 ∧ j45 < 8 ∧ J G M_X10_layOut 4 [(0, .ref 63), (2, .int (x2 / 3)), (3, .int (x3 + 1))] [] (SH, (mset (mset (mset mm 78 j1 (x2 - x2 / 3 * 3)) 77 j39 (-1)) 76 j45 v43), lm) false o z false a b) ∧ ((((mset (mset mm 78 j1 (x2 - x2 / 3 * 3)) 77 j39 (-1)) 78 j41) = 1) → ∃ (v47 : Int32), Ct G M_X10_of [.ref 63, .int x3, .int 1] (SH, (mset (mset mm 78 j1 (x2 - x2 / 3 * 3)) 77 j39 (-1)), lm) false (.inl (some (.int v47))) (SH, (mset (mset mm 78 j1 (x2 - x2 / 3 * 3)) 77 j39 (-1)), lm) false 0 0 ∧ ∃ j49 : Nat, x3 = nI j49 ∧ j49 < 8 ∧ J G M_X10_layOut 4 [(0, .ref 63), (2, .int (x2 / 3)), (3, .int (x3 + 1))] [] (SH, (mset (mset (mset mm 78 j1 (x2 - x2 / 3 * 3)) 77 j39 (-1)) 76 j49 v47), lm) false o z false a b)) ∧ ((((mset (mset mm 78 j1 (x2 - x2 / 3 * 3)) 77 j39 (-1)) 78 j40) = 0) → ∃ j51 : Nat, x3 = nI j51 ∧ j51 < 8 ∧ J G M_X10_layOut 4 [(0, .ref 63), (2, .int (x2 / 3)), (3, .int (x3 + 1))] [] (SH, (mset (mset (mset mm 78 j1 (x2 - x2 / 3 * 3)) 77 j39 (-1)) 76 j51 0), lm) false o z false a b)))) :
    J G M_X10_layOut 4 [(0, .ref 63), (2, .int x2), (3, .int x3)] [] (SH, mm, lm) false o z false a b := by
  refine J_iload_n rfl (i := 3) rfl dX10_layOut_4 ?_
  refine J_aload_n rfl (i := 0) rfl dX10_layOut_5 ?_
  refine J_geti kls_10 (q := 63) (k := 8) sh_63 (by decide) rfl gw_1441 dX10_layOut_6 ?_
  refine J_icmp_ge (tgt := 109) dX10_layOut_9 (by decide) (fun hb54 => ?_) (fun hb54 => ?_)
  · replace hw := hw.1 hb54
    exact J_finv rfl dX10_layOut_109 hw
  · replace hw := hw.2 hb54
    refine J_aload_n rfl (i := 0) rfl dX10_layOut_12 ?_
    refine J_getr kls_10 (q := 63) (k := 34) sh_63 (by decide) rfl gw_1467 dX10_layOut_13 ?_
    refine J_iload_n rfl (i := 3) rfl dX10_layOut_16 ?_
    refine J_iload_n rfl (i := 2) rfl dX10_layOut_17 ?_
    refine J_iconst (v := 3) (by decide) dX10_layOut_18 ?_
    refine J_irem (by decide) dX10_layOut_19 ?_
    obtain ⟨j1, ej1, hj1, hw⟩ := hw
    refine J_iast sh_78 ej1 hj1 (by decide) dX10_layOut_20 ?_
    refine J_iload_n rfl (i := 2) rfl dX10_layOut_21 ?_
    refine J_iconst (v := 3) (by decide) dX10_layOut_22 ?_
    refine J_idiv (by decide) dX10_layOut_23 ?_
    refine J_istore_n [(2, .int (x2 / 3)), (0, .ref 63), (3, .int x3)] rfl (i := 2) (by decide) rfl dX10_layOut_24 ?_
    refine J_aload_n rfl (i := 0) rfl dX10_layOut_25 ?_
    refine J_getr kls_10 (q := 63) (k := 33) sh_63 (by decide) rfl gw_1466 dX10_layOut_26 ?_
    refine J_iload_n rfl (i := 3) rfl dX10_layOut_29 ?_
    refine J_aload_n rfl (i := 0) rfl dX10_layOut_30 ?_
    refine J_getr kls_10 (q := 63) (k := 34) sh_63 (by decide) rfl gw_1467 dX10_layOut_31 ?_
    refine J_iload_n rfl (i := 3) rfl dX10_layOut_34 ?_
    obtain ⟨j2, ej2, hj2, hw⟩ := hw
    refine J_iald sh_78 ej2 hj2 (by decide) dX10_layOut_35 ?_
    refine J_if_ne (tgt := 43) dX10_layOut_36 (by decide) (fun hb53 => ?_) (fun hb53 => ?_)
    · replace hw := hw.1 hb53
      refine J_aload_n rfl (i := 0) rfl dX10_layOut_43 ?_
      refine J_iload_n rfl (i := 3) rfl dX10_layOut_44 ?_
      refine J_aload_n rfl (i := 0) rfl dX10_layOut_45 ?_
      refine J_getr kls_10 (q := 63) (k := 34) sh_63 (by decide) rfl gw_1467 dX10_layOut_46 ?_
      refine J_iload_n rfl (i := 3) rfl dX10_layOut_49 ?_
      obtain ⟨j3, ej3, hj3, hw⟩ := hw
      refine J_iald sh_78 ej3 hj3 (by decide) dX10_layOut_50 ?_
      refine J_iconst (v := 1) (by decide) dX10_layOut_51 ?_
      refine J_icmp_ne (tgt := 59) dX10_layOut_52 (by decide) (fun hb38 => ?_) (fun hb38 => ?_)
      · replace hw := hw.1 hb38
        refine J_iconst (v := 2) (by decide) dX10_layOut_59 ?_
        obtain ⟨v5, hc4, hw⟩ := hw
        refine J_callV (as := [.int x3, .int 2]) (k := 63) (st := [.int x3, .ref 77]) cal_X10_of cai_X10_of gw_1688 ⟨by decide, by decide⟩ cnt_X10_of sh_63 rfl rfl (Nat.le_of_ble_eq_true rfl) dX10_layOut_60 (Nat.zero_add _).symm (Nat.zero_add _).symm hc4 ?_
        obtain ⟨j7, ej7, hj7, hw⟩ := hw
        refine J_iast sh_77 ej7 hj7 (by decide) dX10_layOut_63 ?_
        refine J_aload_n rfl (i := 0) rfl dX10_layOut_64 ?_
        refine J_getr kls_10 (q := 63) (k := 32) sh_63 (by decide) rfl gw_1465 dX10_layOut_65 ?_
        refine J_iload_n rfl (i := 3) rfl dX10_layOut_68 ?_
        refine J_aload_n rfl (i := 0) rfl dX10_layOut_69 ?_
        refine J_getr kls_10 (q := 63) (k := 34) sh_63 (by decide) rfl gw_1467 dX10_layOut_70 ?_
        refine J_iload_n rfl (i := 3) rfl dX10_layOut_73 ?_
        obtain ⟨j8, ej8, hj8, hw⟩ := hw
        refine J_iald sh_78 ej8 hj8 (by decide) dX10_layOut_74 ?_
        refine J_if_ne (tgt := 82) dX10_layOut_75 (by decide) (fun hb20 => ?_) (fun hb20 => ?_)
        · replace hw := hw.1 hb20
          refine J_aload_n rfl (i := 0) rfl dX10_layOut_82 ?_
          refine J_iload_n rfl (i := 3) rfl dX10_layOut_83 ?_
          refine J_aload_n rfl (i := 0) rfl dX10_layOut_84 ?_
          refine J_getr kls_10 (q := 63) (k := 34) sh_63 (by decide) rfl gw_1467 dX10_layOut_85 ?_
          refine J_iload_n rfl (i := 3) rfl dX10_layOut_88 ?_
          obtain ⟨j9, ej9, hj9, hw⟩ := hw
          refine J_iald sh_78 ej9 hj9 (by decide) dX10_layOut_89 ?_
          refine J_iconst (v := 1) (by decide) dX10_layOut_90 ?_
          refine J_icmp_ne (tgt := 98) dX10_layOut_91 (by decide) (fun hb18 => ?_) (fun hb18 => ?_)
          · replace hw := hw.1 hb18
            refine J_iconst (v := 3) (by decide) dX10_layOut_98 ?_
            obtain ⟨v11, hc10, hw⟩ := hw
            refine J_callV (as := [.int x3, .int 3]) (k := 63) (st := [.int x3, .ref 76]) cal_X10_of cai_X10_of gw_1688 ⟨by decide, by decide⟩ cnt_X10_of sh_63 rfl rfl (Nat.le_of_ble_eq_true rfl) dX10_layOut_99 (Nat.zero_add _).symm (Nat.zero_add _).symm hc10 ?_
            obtain ⟨j13, ej13, hj13, hw⟩ := hw
            refine J_iast sh_76 ej13 hj13 (by decide) dX10_layOut_102 ?_
            refine J_iinc [(3, .int (x3 + 1)), (2, .int (x2 / 3)), (0, .ref 63)] (i := 3) (v := (x3 + 1)) rfl rfl (by decide) rfl dX10_layOut_103 ?_
            refine J_goto (tgt := 4) dX10_layOut_106 (by decide) ?_
            exact J_sub [2, 1, 0] rfl hw
          · replace hw := hw.2 hb18
            refine J_iconst (v := 1) (by decide) dX10_layOut_94 ?_
            refine J_goto (tgt := 99) dX10_layOut_95 (by decide) ?_
            obtain ⟨v15, hc14, hw⟩ := hw
            refine J_callV (as := [.int x3, .int 1]) (k := 63) (st := [.int x3, .ref 76]) cal_X10_of cai_X10_of gw_1688 ⟨by decide, by decide⟩ cnt_X10_of sh_63 rfl rfl (Nat.le_of_ble_eq_true rfl) dX10_layOut_99 (Nat.zero_add _).symm (Nat.zero_add _).symm hc14 ?_
            obtain ⟨j17, ej17, hj17, hw⟩ := hw
            refine J_iast sh_76 ej17 hj17 (by decide) dX10_layOut_102 ?_
            refine J_iinc [(3, .int (x3 + 1)), (2, .int (x2 / 3)), (0, .ref 63)] (i := 3) (v := (x3 + 1)) rfl rfl (by decide) rfl dX10_layOut_103 ?_
            refine J_goto (tgt := 4) dX10_layOut_106 (by decide) ?_
            exact J_sub [2, 1, 0] rfl hw
        · replace hw := hw.2 hb20
          refine J_iconst (v := 0) (by decide) dX10_layOut_78 ?_
          refine J_goto (tgt := 102) dX10_layOut_79 (by decide) ?_
          obtain ⟨j19, ej19, hj19, hw⟩ := hw
          refine J_iast sh_76 ej19 hj19 (by decide) dX10_layOut_102 ?_
          refine J_iinc [(3, .int (x3 + 1)), (2, .int (x2 / 3)), (0, .ref 63)] (i := 3) (v := (x3 + 1)) rfl rfl (by decide) rfl dX10_layOut_103 ?_
          refine J_goto (tgt := 4) dX10_layOut_106 (by decide) ?_
          exact J_sub [2, 1, 0] rfl hw
      · replace hw := hw.2 hb38
        refine J_iconst (v := 0) (by decide) dX10_layOut_55 ?_
        refine J_goto (tgt := 60) dX10_layOut_56 (by decide) ?_
        obtain ⟨v22, hc21, hw⟩ := hw
        refine J_callV (as := [.int x3, .int 0]) (k := 63) (st := [.int x3, .ref 77]) cal_X10_of cai_X10_of gw_1688 ⟨by decide, by decide⟩ cnt_X10_of sh_63 rfl rfl (Nat.le_of_ble_eq_true rfl) dX10_layOut_60 (Nat.zero_add _).symm (Nat.zero_add _).symm hc21 ?_
        obtain ⟨j24, ej24, hj24, hw⟩ := hw
        refine J_iast sh_77 ej24 hj24 (by decide) dX10_layOut_63 ?_
        refine J_aload_n rfl (i := 0) rfl dX10_layOut_64 ?_
        refine J_getr kls_10 (q := 63) (k := 32) sh_63 (by decide) rfl gw_1465 dX10_layOut_65 ?_
        refine J_iload_n rfl (i := 3) rfl dX10_layOut_68 ?_
        refine J_aload_n rfl (i := 0) rfl dX10_layOut_69 ?_
        refine J_getr kls_10 (q := 63) (k := 34) sh_63 (by decide) rfl gw_1467 dX10_layOut_70 ?_
        refine J_iload_n rfl (i := 3) rfl dX10_layOut_73 ?_
        obtain ⟨j25, ej25, hj25, hw⟩ := hw
        refine J_iald sh_78 ej25 hj25 (by decide) dX10_layOut_74 ?_
        refine J_if_ne (tgt := 82) dX10_layOut_75 (by decide) (fun hb37 => ?_) (fun hb37 => ?_)
        · replace hw := hw.1 hb37
          refine J_aload_n rfl (i := 0) rfl dX10_layOut_82 ?_
          refine J_iload_n rfl (i := 3) rfl dX10_layOut_83 ?_
          refine J_aload_n rfl (i := 0) rfl dX10_layOut_84 ?_
          refine J_getr kls_10 (q := 63) (k := 34) sh_63 (by decide) rfl gw_1467 dX10_layOut_85 ?_
          refine J_iload_n rfl (i := 3) rfl dX10_layOut_88 ?_
          obtain ⟨j26, ej26, hj26, hw⟩ := hw
          refine J_iald sh_78 ej26 hj26 (by decide) dX10_layOut_89 ?_
          refine J_iconst (v := 1) (by decide) dX10_layOut_90 ?_
          refine J_icmp_ne (tgt := 98) dX10_layOut_91 (by decide) (fun hb35 => ?_) (fun hb35 => ?_)
          · replace hw := hw.1 hb35
            refine J_iconst (v := 3) (by decide) dX10_layOut_98 ?_
            obtain ⟨v28, hc27, hw⟩ := hw
            refine J_callV (as := [.int x3, .int 3]) (k := 63) (st := [.int x3, .ref 76]) cal_X10_of cai_X10_of gw_1688 ⟨by decide, by decide⟩ cnt_X10_of sh_63 rfl rfl (Nat.le_of_ble_eq_true rfl) dX10_layOut_99 (Nat.zero_add _).symm (Nat.zero_add _).symm hc27 ?_
            obtain ⟨j30, ej30, hj30, hw⟩ := hw
            refine J_iast sh_76 ej30 hj30 (by decide) dX10_layOut_102 ?_
            refine J_iinc [(3, .int (x3 + 1)), (2, .int (x2 / 3)), (0, .ref 63)] (i := 3) (v := (x3 + 1)) rfl rfl (by decide) rfl dX10_layOut_103 ?_
            refine J_goto (tgt := 4) dX10_layOut_106 (by decide) ?_
            exact J_sub [2, 1, 0] rfl hw
          · replace hw := hw.2 hb35
            refine J_iconst (v := 1) (by decide) dX10_layOut_94 ?_
            refine J_goto (tgt := 99) dX10_layOut_95 (by decide) ?_
            obtain ⟨v32, hc31, hw⟩ := hw
            refine J_callV (as := [.int x3, .int 1]) (k := 63) (st := [.int x3, .ref 76]) cal_X10_of cai_X10_of gw_1688 ⟨by decide, by decide⟩ cnt_X10_of sh_63 rfl rfl (Nat.le_of_ble_eq_true rfl) dX10_layOut_99 (Nat.zero_add _).symm (Nat.zero_add _).symm hc31 ?_
            obtain ⟨j34, ej34, hj34, hw⟩ := hw
            refine J_iast sh_76 ej34 hj34 (by decide) dX10_layOut_102 ?_
            refine J_iinc [(3, .int (x3 + 1)), (2, .int (x2 / 3)), (0, .ref 63)] (i := 3) (v := (x3 + 1)) rfl rfl (by decide) rfl dX10_layOut_103 ?_
            refine J_goto (tgt := 4) dX10_layOut_106 (by decide) ?_
            exact J_sub [2, 1, 0] rfl hw
        · replace hw := hw.2 hb37
          refine J_iconst (v := 0) (by decide) dX10_layOut_78 ?_
          refine J_goto (tgt := 102) dX10_layOut_79 (by decide) ?_
          obtain ⟨j36, ej36, hj36, hw⟩ := hw
          refine J_iast sh_76 ej36 hj36 (by decide) dX10_layOut_102 ?_
          refine J_iinc [(3, .int (x3 + 1)), (2, .int (x2 / 3)), (0, .ref 63)] (i := 3) (v := (x3 + 1)) rfl rfl (by decide) rfl dX10_layOut_103 ?_
          refine J_goto (tgt := 4) dX10_layOut_106 (by decide) ?_
          exact J_sub [2, 1, 0] rfl hw
    · replace hw := hw.2 hb53
      refine J_iconst (v := (-1)) (by decide) dX10_layOut_39 ?_
      refine J_goto (tgt := 63) dX10_layOut_40 (by decide) ?_
      obtain ⟨j39, ej39, hj39, hw⟩ := hw
      refine J_iast sh_77 ej39 hj39 (by decide) dX10_layOut_63 ?_
      refine J_aload_n rfl (i := 0) rfl dX10_layOut_64 ?_
      refine J_getr kls_10 (q := 63) (k := 32) sh_63 (by decide) rfl gw_1465 dX10_layOut_65 ?_
      refine J_iload_n rfl (i := 3) rfl dX10_layOut_68 ?_
      refine J_aload_n rfl (i := 0) rfl dX10_layOut_69 ?_
      refine J_getr kls_10 (q := 63) (k := 34) sh_63 (by decide) rfl gw_1467 dX10_layOut_70 ?_
      refine J_iload_n rfl (i := 3) rfl dX10_layOut_73 ?_
      obtain ⟨j40, ej40, hj40, hw⟩ := hw
      refine J_iald sh_78 ej40 hj40 (by decide) dX10_layOut_74 ?_
      refine J_if_ne (tgt := 82) dX10_layOut_75 (by decide) (fun hb52 => ?_) (fun hb52 => ?_)
      · replace hw := hw.1 hb52
        refine J_aload_n rfl (i := 0) rfl dX10_layOut_82 ?_
        refine J_iload_n rfl (i := 3) rfl dX10_layOut_83 ?_
        refine J_aload_n rfl (i := 0) rfl dX10_layOut_84 ?_
        refine J_getr kls_10 (q := 63) (k := 34) sh_63 (by decide) rfl gw_1467 dX10_layOut_85 ?_
        refine J_iload_n rfl (i := 3) rfl dX10_layOut_88 ?_
        obtain ⟨j41, ej41, hj41, hw⟩ := hw
        refine J_iald sh_78 ej41 hj41 (by decide) dX10_layOut_89 ?_
        refine J_iconst (v := 1) (by decide) dX10_layOut_90 ?_
        refine J_icmp_ne (tgt := 98) dX10_layOut_91 (by decide) (fun hb50 => ?_) (fun hb50 => ?_)
        · replace hw := hw.1 hb50
          refine J_iconst (v := 3) (by decide) dX10_layOut_98 ?_
          obtain ⟨v43, hc42, hw⟩ := hw
          refine J_callV (as := [.int x3, .int 3]) (k := 63) (st := [.int x3, .ref 76]) cal_X10_of cai_X10_of gw_1688 ⟨by decide, by decide⟩ cnt_X10_of sh_63 rfl rfl (Nat.le_of_ble_eq_true rfl) dX10_layOut_99 (Nat.zero_add _).symm (Nat.zero_add _).symm hc42 ?_
          obtain ⟨j45, ej45, hj45, hw⟩ := hw
          refine J_iast sh_76 ej45 hj45 (by decide) dX10_layOut_102 ?_
          refine J_iinc [(3, .int (x3 + 1)), (2, .int (x2 / 3)), (0, .ref 63)] (i := 3) (v := (x3 + 1)) rfl rfl (by decide) rfl dX10_layOut_103 ?_
          refine J_goto (tgt := 4) dX10_layOut_106 (by decide) ?_
          exact J_sub [2, 1, 0] rfl hw
        · replace hw := hw.2 hb50
          refine J_iconst (v := 1) (by decide) dX10_layOut_94 ?_
          refine J_goto (tgt := 99) dX10_layOut_95 (by decide) ?_
          obtain ⟨v47, hc46, hw⟩ := hw
          refine J_callV (as := [.int x3, .int 1]) (k := 63) (st := [.int x3, .ref 76]) cal_X10_of cai_X10_of gw_1688 ⟨by decide, by decide⟩ cnt_X10_of sh_63 rfl rfl (Nat.le_of_ble_eq_true rfl) dX10_layOut_99 (Nat.zero_add _).symm (Nat.zero_add _).symm hc46 ?_
          obtain ⟨j49, ej49, hj49, hw⟩ := hw
          refine J_iast sh_76 ej49 hj49 (by decide) dX10_layOut_102 ?_
          refine J_iinc [(3, .int (x3 + 1)), (2, .int (x2 / 3)), (0, .ref 63)] (i := 3) (v := (x3 + 1)) rfl rfl (by decide) rfl dX10_layOut_103 ?_
          refine J_goto (tgt := 4) dX10_layOut_106 (by decide) ?_
          exact J_sub [2, 1, 0] rfl hw
      · replace hw := hw.2 hb52
        refine J_iconst (v := 0) (by decide) dX10_layOut_78 ?_
        refine J_goto (tgt := 102) dX10_layOut_79 (by decide) ?_
        obtain ⟨j51, ej51, hj51, hw⟩ := hw
        refine J_iast sh_76 ej51 hj51 (by decide) dX10_layOut_102 ?_
        refine J_iinc [(3, .int (x3 + 1)), (2, .int (x2 / 3)), (0, .ref 63)] (i := 3) (v := (x3 + 1)) rfl rfl (by decide) rfl dX10_layOut_103 ?_
        refine J_goto (tgt := 4) dX10_layOut_106 (by decide) ?_
        exact J_sub [2, 1, 0] rfl hw
theorem dX10_isPlaced_0 : decode cX10_isPlaced 0 = .ok (.aload_n 0, 1) := by decide +kernel
theorem dX10_isPlaced_1 : decode cX10_isPlaced 1 = .ok (.getfield 53, 3) := by decide +kernel
theorem dX10_isPlaced_4 : decode cX10_isPlaced 4 = .ok (.iload_n 1, 1) := by decide +kernel
theorem dX10_isPlaced_5 : decode cX10_isPlaced 5 = .ok (.iaload, 1) := by decide +kernel
theorem dX10_isPlaced_6 : decode cX10_isPlaced 6 = .ok (.ifCond .lt 7, 3) := by decide +kernel
theorem dX10_isPlaced_9 : decode cX10_isPlaced 9 = .ok (.iconst 1, 1) := by decide +kernel
theorem dX10_isPlaced_10 : decode cX10_isPlaced 10 = .ok (.goto 4, 3) := by decide +kernel
theorem dX10_isPlaced_13 : decode cX10_isPlaced 13 = .ok (.iconst 0, 1) := by decide +kernel
theorem dX10_isPlaced_14 : decode cX10_isPlaced 14 = .ok (.ireturn, 1) := by decide +kernel
set_option maxRecDepth 20000 in
theorem bX10_isPlaced_0 {G : Gx} {mm : Nat → Nat → Int32} {lm : Nat → Int64} {x1 : Int32} {o : Ou} {z : Wd} {a b : Nat} (hw : ∃ j1 : Nat, x1 = nI j1 ∧ j1 < 8 ∧ (((mm 77 j1) < 0) → o = .inl (some (.int 0)) ∧ z = (SH, mm, lm)) ∧ ((¬ (mm 77 j1) < 0) → o = .inl (some (.int 1)) ∧ z = (SH, mm, lm))) :
    J G M_X10_isPlaced 0 [(0, .ref 63), (1, .int x1)] [] (SH, mm, lm) false o z false a b := by
  refine J_aload_n rfl (i := 0) rfl dX10_isPlaced_0 ?_
  refine J_getr kls_10 (q := 63) (k := 33) sh_63 (by decide) rfl gw_1466 dX10_isPlaced_1 ?_
  refine J_iload_n rfl (i := 1) rfl dX10_isPlaced_4 ?_
  obtain ⟨j1, ej1, hj1, hw⟩ := hw
  refine J_iald sh_77 ej1 hj1 (by decide) dX10_isPlaced_5 ?_
  refine J_if_lt (tgt := 13) dX10_isPlaced_6 (by decide) (fun hb2 => ?_) (fun hb2 => ?_)
  · replace hw := hw.1 hb2
    refine J_iconst (v := 0) (by decide) dX10_isPlaced_13 ?_
    exact J_fini (ty := .boolean) rfl rfl dX10_isPlaced_14 hw
  · replace hw := hw.2 hb2
    refine J_iconst (v := 1) (by decide) dX10_isPlaced_9 ?_
    refine J_goto (tgt := 14) dX10_isPlaced_10 (by decide) ?_
    exact J_fini (ty := .boolean) rfl rfl dX10_isPlaced_14 hw
theorem dX10_areClear_0 : decode cX10_areClear 0 = .ok (.aload_n 0, 1) := by decide +kernel
theorem dX10_areClear_1 : decode cX10_areClear 1 = .ok (.getfield 53, 3) := by decide +kernel
theorem dX10_areClear_4 : decode cX10_areClear 4 = .ok (.iload_n 1, 1) := by decide +kernel
theorem dX10_areClear_5 : decode cX10_areClear 5 = .ok (.iaload, 1) := by decide +kernel
theorem dX10_areClear_6 : decode cX10_areClear 6 = .ok (.aload_n 0, 1) := by decide +kernel
theorem dX10_areClear_7 : decode cX10_areClear 7 = .ok (.getfield 53, 3) := by decide +kernel
theorem dX10_areClear_10 : decode cX10_areClear 10 = .ok (.iload_n 2, 1) := by decide +kernel
theorem dX10_areClear_11 : decode cX10_areClear 11 = .ok (.iaload, 1) := by decide +kernel
theorem dX10_areClear_12 : decode cX10_areClear 12 = .ok (.if_icmp .ne 43, 3) := by decide +kernel
theorem dX10_areClear_15 : decode cX10_areClear 15 = .ok (.aload_n 0, 1) := by decide +kernel
theorem dX10_areClear_16 : decode cX10_areClear 16 = .ok (.iload_n 1, 1) := by decide +kernel
theorem dX10_areClear_17 : decode cX10_areClear 17 = .ok (.invokevirtual 289, 3) := by decide +kernel
theorem dX10_areClear_20 : decode cX10_areClear 20 = .ok (.ifCond .eq 35, 3) := by decide +kernel
theorem dX10_areClear_23 : decode cX10_areClear 23 = .ok (.aload_n 0, 1) := by decide +kernel
theorem dX10_areClear_24 : decode cX10_areClear 24 = .ok (.getfield 50, 3) := by decide +kernel
theorem dX10_areClear_27 : decode cX10_areClear 27 = .ok (.iload_n 1, 1) := by decide +kernel
theorem dX10_areClear_28 : decode cX10_areClear 28 = .ok (.iaload, 1) := by decide +kernel
theorem dX10_areClear_29 : decode cX10_areClear 29 = .ok (.aload_n 0, 1) := by decide +kernel
theorem dX10_areClear_30 : decode cX10_areClear 30 = .ok (.getfield 50, 3) := by decide +kernel
theorem dX10_areClear_33 : decode cX10_areClear 33 = .ok (.iload_n 2, 1) := by decide +kernel
theorem dX10_areClear_34 : decode cX10_areClear 34 = .ok (.iaload, 1) := by decide +kernel
theorem dX10_areClear_35 : decode cX10_areClear 35 = .ok (.isub, 1) := by decide +kernel
theorem dX10_areClear_36 : decode cX10_areClear 36 = .ok (.invokestatic 232, 3) := by decide +kernel
theorem dX10_areClear_39 : decode cX10_areClear 39 = .ok (.aload_n 0, 1) := by decide +kernel
theorem dX10_areClear_40 : decode cX10_areClear 40 = .ok (.getfield 25, 3) := by decide +kernel
theorem dX10_areClear_43 : decode cX10_areClear 43 = .ok (.iload_n 1, 1) := by decide +kernel
theorem dX10_areClear_44 : decode cX10_areClear 44 = .ok (.iaload, 1) := by decide +kernel
theorem dX10_areClear_45 : decode cX10_areClear 45 = .ok (.aload_n 0, 1) := by decide +kernel
theorem dX10_areClear_46 : decode cX10_areClear 46 = .ok (.getfield 25, 3) := by decide +kernel
theorem dX10_areClear_49 : decode cX10_areClear 49 = .ok (.iload_n 2, 1) := by decide +kernel
theorem dX10_areClear_50 : decode cX10_areClear 50 = .ok (.iaload, 1) := by decide +kernel
theorem dX10_areClear_51 : decode cX10_areClear 51 = .ok (.iadd, 1) := by decide +kernel
theorem dX10_areClear_52 : decode cX10_areClear 52 = .ok (.if_icmp .lt 7, 3) := by decide +kernel
theorem dX10_areClear_55 : decode cX10_areClear 55 = .ok (.iconst 1, 1) := by decide +kernel
theorem dX10_areClear_56 : decode cX10_areClear 56 = .ok (.goto 4, 3) := by decide +kernel
theorem dX10_areClear_59 : decode cX10_areClear 59 = .ok (.iconst 0, 1) := by decide +kernel
theorem dX10_areClear_60 : decode cX10_areClear 60 = .ok (.ireturn, 1) := by decide +kernel
set_option maxRecDepth 20000 in
theorem bX10_areClear_0 {G : Gx} {mm : Nat → Nat → Int32} {lm : Nat → Int64} {x1 : Int32} {x2 : Int32} {o : Ou} {z : Wd} {a b : Nat} (hw : ∃ j1 : Nat, x1 = nI j1 ∧ j1 < 8 ∧ ∃ j2 : Nat, x2 = nI j2 ∧ j2 < 8 ∧ ((¬ (mm 77 j1) = (mm 77 j2)) → o = .inl (some (.int 1)) ∧ z = (SH, mm, lm)) ∧ (((mm 77 j1) = (mm 77 j2)) → ∃ (v4 : Int32), Ct G M_X10_isPlaced [.ref 63, .int x1] (SH, mm, lm) false (.inl (some (.int v4))) (SH, mm, lm) false 0 0 ∧ ((v4 = 0) → o = .inl (some (.int 1)) ∧ z = (SH, mm, lm)) ∧ ((¬ v4 = 0) → ∃ j6 : Nat, x1 = nI j6 ∧ j6 < 8 ∧ ∃ j7 : Nat, x2 = nI j7 ∧ j7 < 8 ∧ ∃ (v9 : Int32), Ct G M_X10_size [.int ((mm 76 j6) - (mm 76 j7))] (SH, mm, lm) false (.inl (some (.int v9))) (SH, mm, lm) false 0 0 ∧ ∃ j11 : Nat, x1 = nI j11 ∧ j11 < 8 ∧ ∃ j12 : Nat, x2 = nI j12 ∧ j12 < 8 ∧ ((v9 < ((mm 69 j11) + (mm 69 j12))) → o = .inl (some (.int 0)) ∧ z = (SH, mm, lm)) ∧ ((¬ v9 < ((mm 69 j11) + (mm 69 j12))) → o = .inl (some (.int 1)) ∧ z = (SH, mm, lm))))) :
    J G M_X10_areClear 0 [(0, .ref 63), (1, .int x1), (2, .int x2)] [] (SH, mm, lm) false o z false a b := by
  refine J_aload_n rfl (i := 0) rfl dX10_areClear_0 ?_
  refine J_getr kls_10 (q := 63) (k := 33) sh_63 (by decide) rfl gw_1466 dX10_areClear_1 ?_
  refine J_iload_n rfl (i := 1) rfl dX10_areClear_4 ?_
  obtain ⟨j1, ej1, hj1, hw⟩ := hw
  refine J_iald sh_77 ej1 hj1 (by decide) dX10_areClear_5 ?_
  refine J_aload_n rfl (i := 0) rfl dX10_areClear_6 ?_
  refine J_getr kls_10 (q := 63) (k := 33) sh_63 (by decide) rfl gw_1466 dX10_areClear_7 ?_
  refine J_iload_n rfl (i := 2) rfl dX10_areClear_10 ?_
  obtain ⟨j2, ej2, hj2, hw⟩ := hw
  refine J_iald sh_77 ej2 hj2 (by decide) dX10_areClear_11 ?_
  refine J_icmp_ne (tgt := 55) dX10_areClear_12 (by decide) (fun hb15 => ?_) (fun hb15 => ?_)
  · replace hw := hw.1 hb15
    refine J_iconst (v := 1) (by decide) dX10_areClear_55 ?_
    refine J_goto (tgt := 60) dX10_areClear_56 (by decide) ?_
    exact J_fini (ty := .boolean) rfl rfl dX10_areClear_60 hw
  · replace hw := hw.2 hb15
    refine J_aload_n rfl (i := 0) rfl dX10_areClear_15 ?_
    refine J_iload_n rfl (i := 1) rfl dX10_areClear_16 ?_
    obtain ⟨v4, hc3, hw⟩ := hw
    refine J_callV (as := [.int x1]) (k := 63) (st := []) cal_X10_isPlaced cai_X10_isPlaced gw_1806 ⟨by decide, by decide⟩ cnt_X10_isPlaced sh_63 rfl rfl (Nat.le_of_ble_eq_true rfl) dX10_areClear_17 (Nat.zero_add _).symm (Nat.zero_add _).symm hc3 ?_
    refine J_if_eq (tgt := 55) dX10_areClear_20 (by decide) (fun hb14 => ?_) (fun hb14 => ?_)
    · replace hw := hw.1 hb14
      refine J_iconst (v := 1) (by decide) dX10_areClear_55 ?_
      refine J_goto (tgt := 60) dX10_areClear_56 (by decide) ?_
      exact J_fini (ty := .boolean) rfl rfl dX10_areClear_60 hw
    · replace hw := hw.2 hb14
      refine J_aload_n rfl (i := 0) rfl dX10_areClear_23 ?_
      refine J_getr kls_10 (q := 63) (k := 32) sh_63 (by decide) rfl gw_1465 dX10_areClear_24 ?_
      refine J_iload_n rfl (i := 1) rfl dX10_areClear_27 ?_
      obtain ⟨j6, ej6, hj6, hw⟩ := hw
      refine J_iald sh_76 ej6 hj6 (by decide) dX10_areClear_28 ?_
      refine J_aload_n rfl (i := 0) rfl dX10_areClear_29 ?_
      refine J_getr kls_10 (q := 63) (k := 32) sh_63 (by decide) rfl gw_1465 dX10_areClear_30 ?_
      refine J_iload_n rfl (i := 2) rfl dX10_areClear_33 ?_
      obtain ⟨j7, ej7, hj7, hw⟩ := hw
      refine J_iald sh_76 ej7 hj7 (by decide) dX10_areClear_34 ?_
      refine J_isub dX10_areClear_35 ?_
      obtain ⟨v9, hc8, hw⟩ := hw
      refine J_callS (as := [.int ((mm 76 j6) - (mm 76 j7))]) (st := []) cal_X10_size cas_X10_size gw_1696 ⟨by decide, by decide⟩ cnt_X10_size rfl (Nat.le_of_ble_eq_true rfl) dX10_areClear_36 (Nat.zero_add _).symm (Nat.zero_add _).symm hc8 ?_
      refine J_aload_n rfl (i := 0) rfl dX10_areClear_39 ?_
      refine J_getr kls_10 (q := 63) (k := 10) sh_63 (by decide) rfl gw_1443 dX10_areClear_40 ?_
      refine J_iload_n rfl (i := 1) rfl dX10_areClear_43 ?_
      obtain ⟨j11, ej11, hj11, hw⟩ := hw
      refine J_iald sh_69 ej11 hj11 (by decide) dX10_areClear_44 ?_
      refine J_aload_n rfl (i := 0) rfl dX10_areClear_45 ?_
      refine J_getr kls_10 (q := 63) (k := 10) sh_63 (by decide) rfl gw_1443 dX10_areClear_46 ?_
      refine J_iload_n rfl (i := 2) rfl dX10_areClear_49 ?_
      obtain ⟨j12, ej12, hj12, hw⟩ := hw
      refine J_iald sh_69 ej12 hj12 (by decide) dX10_areClear_50 ?_
      refine J_iadd dX10_areClear_51 ?_
      refine J_icmp_lt (tgt := 59) dX10_areClear_52 (by decide) (fun hb13 => ?_) (fun hb13 => ?_)
      · replace hw := hw.1 hb13
        refine J_iconst (v := 0) (by decide) dX10_areClear_59 ?_
        exact J_fini (ty := .boolean) rfl rfl dX10_areClear_60 hw
      · replace hw := hw.2 hb13
        refine J_iconst (v := 1) (by decide) dX10_areClear_55 ?_
        refine J_goto (tgt := 60) dX10_areClear_56 (by decide) ?_
        exact J_fini (ty := .boolean) rfl rfl dX10_areClear_60 hw
theorem dX10_torqueLaid_0 : decode cX10_torqueLaid 0 = .ok (.iconst 0, 1) := by decide +kernel
theorem dX10_torqueLaid_1 : decode cX10_torqueLaid 1 = .ok (.istore_n 2, 1) := by decide +kernel
theorem dX10_torqueLaid_2 : decode cX10_torqueLaid 2 = .ok (.iconst 0, 1) := by decide +kernel
theorem dX10_torqueLaid_3 : decode cX10_torqueLaid 3 = .ok (.istore_n 3, 1) := by decide +kernel
theorem dX10_torqueLaid_4 : decode cX10_torqueLaid 4 = .ok (.iload_n 3, 1) := by decide +kernel
theorem dX10_torqueLaid_5 : decode cX10_torqueLaid 5 = .ok (.aload_n 0, 1) := by decide +kernel
theorem dX10_torqueLaid_6 : decode cX10_torqueLaid 6 = .ok (.getfield 206, 3) := by decide +kernel
theorem dX10_torqueLaid_9 : decode cX10_torqueLaid 9 = .ok (.if_icmp .ge 39, 3) := by decide +kernel
theorem dX10_torqueLaid_12 : decode cX10_torqueLaid 12 = .ok (.iload_n 2, 1) := by decide +kernel
theorem dX10_torqueLaid_13 : decode cX10_torqueLaid 13 = .ok (.aload_n 0, 1) := by decide +kernel
theorem dX10_torqueLaid_14 : decode cX10_torqueLaid 14 = .ok (.getfield 53, 3) := by decide +kernel
theorem dX10_torqueLaid_17 : decode cX10_torqueLaid 17 = .ok (.iload_n 3, 1) := by decide +kernel
theorem dX10_torqueLaid_18 : decode cX10_torqueLaid 18 = .ok (.iaload, 1) := by decide +kernel
theorem dX10_torqueLaid_19 : decode cX10_torqueLaid 19 = .ok (.iload_n 1, 1) := by decide +kernel
theorem dX10_torqueLaid_20 : decode cX10_torqueLaid 20 = .ok (.if_icmp .ne 19, 3) := by decide +kernel
theorem dX10_torqueLaid_23 : decode cX10_torqueLaid 23 = .ok (.aload_n 0, 1) := by decide +kernel
theorem dX10_torqueLaid_24 : decode cX10_torqueLaid 24 = .ok (.getfield 22, 3) := by decide +kernel
theorem dX10_torqueLaid_27 : decode cX10_torqueLaid 27 = .ok (.iload_n 3, 1) := by decide +kernel
theorem dX10_torqueLaid_28 : decode cX10_torqueLaid 28 = .ok (.iaload, 1) := by decide +kernel
theorem dX10_torqueLaid_29 : decode cX10_torqueLaid 29 = .ok (.aload_n 0, 1) := by decide +kernel
theorem dX10_torqueLaid_30 : decode cX10_torqueLaid 30 = .ok (.getfield 50, 3) := by decide +kernel
theorem dX10_torqueLaid_33 : decode cX10_torqueLaid 33 = .ok (.iload_n 3, 1) := by decide +kernel
theorem dX10_torqueLaid_34 : decode cX10_torqueLaid 34 = .ok (.iaload, 1) := by decide +kernel
theorem dX10_torqueLaid_35 : decode cX10_torqueLaid 35 = .ok (.imul, 1) := by decide +kernel
theorem dX10_torqueLaid_36 : decode cX10_torqueLaid 36 = .ok (.goto 4, 3) := by decide +kernel
theorem dX10_torqueLaid_39 : decode cX10_torqueLaid 39 = .ok (.iconst 0, 1) := by decide +kernel
theorem dX10_torqueLaid_40 : decode cX10_torqueLaid 40 = .ok (.iadd, 1) := by decide +kernel
theorem dX10_torqueLaid_41 : decode cX10_torqueLaid 41 = .ok (.istore_n 2, 1) := by decide +kernel
theorem dX10_torqueLaid_42 : decode cX10_torqueLaid 42 = .ok (.iinc 3 1, 3) := by decide +kernel
theorem dX10_torqueLaid_45 : decode cX10_torqueLaid 45 = .ok (.goto (-41), 3) := by decide +kernel
theorem dX10_torqueLaid_48 : decode cX10_torqueLaid 48 = .ok (.iload_n 2, 1) := by decide +kernel
theorem dX10_torqueLaid_49 : decode cX10_torqueLaid 49 = .ok (.ireturn, 1) := by decide +kernel
set_option maxRecDepth 20000 in
theorem bX10_torqueLaid_0 {G : Gx} {mm : Nat → Nat → Int32} {lm : Nat → Int64} {x1 : Int32} {o : Ou} {z : Wd} {a b : Nat} (hw : J G M_X10_torqueLaid 4 [(0, .ref 63), (1, .int x1), (2, .int 0), (3, .int 0)] [] (SH, mm, lm) false o z false a b) :
    J G M_X10_torqueLaid 0 [(0, .ref 63), (1, .int x1)] [] (SH, mm, lm) false o z false a b := by
  refine J_iconst (v := 0) (by decide) dX10_torqueLaid_0 ?_
  refine J_istore_n [(2, .int 0), (0, .ref 63), (1, .int x1)] rfl (i := 2) (by decide) rfl dX10_torqueLaid_1 ?_
  refine J_iconst (v := 0) (by decide) dX10_torqueLaid_2 ?_
  refine J_istore_n [(3, .int 0), (2, .int 0), (0, .ref 63), (1, .int x1)] rfl (i := 3) (by decide) rfl dX10_torqueLaid_3 ?_
  exact J_sub [2, 3, 1, 0] rfl hw
set_option maxRecDepth 20000 in
theorem bX10_torqueLaid_4 {G : Gx} {mm : Nat → Nat → Int32} {lm : Nat → Int64} {x1 : Int32} {x2 : Int32} {x3 : Int32} {o : Ou} {z : Wd} {a b : Nat} (hw : (((mm 63 8) ≤ x3) → o = .inl (some (.int x2)) ∧ z = (SH, mm, lm)) ∧ ((¬ (mm 63 8) ≤ x3) → ∃ j1 : Nat, x3 = nI j1 ∧ j1 < 8 ∧ ((¬ (mm 77 j1) = x1) → J G M_X10_torqueLaid 4 [(0, .ref 63), (1, .int x1), (2, .int (x2 + 0)), (3, .int (x3 + 1))] [] (SH, mm, lm) false o z false a b) ∧ (((mm 77 j1) = x1) → ∃ j2 : Nat, x3 = nI j2 ∧ j2 < 8 ∧ ∃ j3 : Nat, x3 = nI j3 ∧ j3 < 8 ∧ J G M_X10_torqueLaid 4 [(0, .ref 63), (1, .int x1), (2, .int (x2 + ((mm 68 j2) * (mm 76 j3)))), (3, .int (x3 + 1))] [] (SH, mm, lm) false o z false a b))) :
    J G M_X10_torqueLaid 4 [(0, .ref 63), (1, .int x1), (2, .int x2), (3, .int x3)] [] (SH, mm, lm) false o z false a b := by
  refine J_iload_n rfl (i := 3) rfl dX10_torqueLaid_4 ?_
  refine J_aload_n rfl (i := 0) rfl dX10_torqueLaid_5 ?_
  refine J_geti kls_10 (q := 63) (k := 8) sh_63 (by decide) rfl gw_1441 dX10_torqueLaid_6 ?_
  refine J_icmp_ge (tgt := 48) dX10_torqueLaid_9 (by decide) (fun hb5 => ?_) (fun hb5 => ?_)
  · replace hw := hw.1 hb5
    refine J_iload_n rfl (i := 2) rfl dX10_torqueLaid_48 ?_
    exact J_fini (ty := .int) rfl rfl dX10_torqueLaid_49 hw
  · replace hw := hw.2 hb5
    refine J_iload_n rfl (i := 2) rfl dX10_torqueLaid_12 ?_
    refine J_aload_n rfl (i := 0) rfl dX10_torqueLaid_13 ?_
    refine J_getr kls_10 (q := 63) (k := 33) sh_63 (by decide) rfl gw_1466 dX10_torqueLaid_14 ?_
    refine J_iload_n rfl (i := 3) rfl dX10_torqueLaid_17 ?_
    obtain ⟨j1, ej1, hj1, hw⟩ := hw
    refine J_iald sh_77 ej1 hj1 (by decide) dX10_torqueLaid_18 ?_
    refine J_iload_n rfl (i := 1) rfl dX10_torqueLaid_19 ?_
    refine J_icmp_ne (tgt := 39) dX10_torqueLaid_20 (by decide) (fun hb4 => ?_) (fun hb4 => ?_)
    · replace hw := hw.1 hb4
      refine J_iconst (v := 0) (by decide) dX10_torqueLaid_39 ?_
      refine J_iadd dX10_torqueLaid_40 ?_
      refine J_istore_n [(2, .int (x2 + 0)), (0, .ref 63), (1, .int x1), (3, .int x3)] rfl (i := 2) (by decide) rfl dX10_torqueLaid_41 ?_
      refine J_iinc [(3, .int (x3 + 1)), (2, .int (x2 + 0)), (0, .ref 63), (1, .int x1)] (i := 3) (v := (x3 + 1)) rfl rfl (by decide) rfl dX10_torqueLaid_42 ?_
      refine J_goto (tgt := 4) dX10_torqueLaid_45 (by decide) ?_
      exact J_sub [2, 3, 1, 0] rfl hw
    · replace hw := hw.2 hb4
      refine J_aload_n rfl (i := 0) rfl dX10_torqueLaid_23 ?_
      refine J_getr kls_10 (q := 63) (k := 9) sh_63 (by decide) rfl gw_1442 dX10_torqueLaid_24 ?_
      refine J_iload_n rfl (i := 3) rfl dX10_torqueLaid_27 ?_
      obtain ⟨j2, ej2, hj2, hw⟩ := hw
      refine J_iald sh_68 ej2 hj2 (by decide) dX10_torqueLaid_28 ?_
      refine J_aload_n rfl (i := 0) rfl dX10_torqueLaid_29 ?_
      refine J_getr kls_10 (q := 63) (k := 32) sh_63 (by decide) rfl gw_1465 dX10_torqueLaid_30 ?_
      refine J_iload_n rfl (i := 3) rfl dX10_torqueLaid_33 ?_
      obtain ⟨j3, ej3, hj3, hw⟩ := hw
      refine J_iald sh_76 ej3 hj3 (by decide) dX10_torqueLaid_34 ?_
      refine J_imul dX10_torqueLaid_35 ?_
      refine J_goto (tgt := 40) dX10_torqueLaid_36 (by decide) ?_
      refine J_iadd dX10_torqueLaid_40 ?_
      refine J_istore_n [(2, .int (x2 + ((mm 68 j2) * (mm 76 j3)))), (0, .ref 63), (1, .int x1), (3, .int x3)] rfl (i := 2) (by decide) rfl dX10_torqueLaid_41 ?_
      refine J_iinc [(3, .int (x3 + 1)), (2, .int (x2 + ((mm 68 j2) * (mm 76 j3)))), (0, .ref 63), (1, .int x1)] (i := 3) (v := (x3 + 1)) rfl rfl (by decide) rfl dX10_torqueLaid_42 ?_
      refine J_goto (tgt := 4) dX10_torqueLaid_45 (by decide) ?_
      exact J_sub [2, 3, 1, 0] rfl hw
