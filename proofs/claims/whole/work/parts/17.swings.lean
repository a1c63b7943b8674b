/-! ===== decode rows and walks between cut points, by program (wip/gen/mk10.py) ===== -/
theorem dX6_countSwinging_0 : decode cX6_countSwinging 0 = .ok (.iconst 0, 1) := by decide +kernel
theorem dX6_countSwinging_1 : decode cX6_countSwinging 1 = .ok (.istore_n 1, 1) := by decide +kernel
theorem dX6_countSwinging_2 : decode cX6_countSwinging 2 = .ok (.iconst 0, 1) := by decide +kernel
theorem dX6_countSwinging_3 : decode cX6_countSwinging 3 = .ok (.istore_n 2, 1) := by decide +kernel
theorem dX6_countSwinging_4 : decode cX6_countSwinging 4 = .ok (.iload_n 2, 1) := by decide +kernel
theorem dX6_countSwinging_5 : decode cX6_countSwinging 5 = .ok (.aload_n 0, 1) := by decide +kernel
theorem dX6_countSwinging_6 : decode cX6_countSwinging 6 = .ok (.getfield 21, 3) := by decide +kernel
theorem dX6_countSwinging_9 : decode cX6_countSwinging 9 = .ok (.getfield 29, 3) := by decide +kernel
theorem dX6_countSwinging_12 : decode cX6_countSwinging 12 = .ok (.if_icmp .ge 24, 3) := by decide +kernel
theorem dX6_countSwinging_15 : decode cX6_countSwinging 15 = .ok (.aload_n 0, 1) := by decide +kernel
theorem dX6_countSwinging_16 : decode cX6_countSwinging 16 = .ok (.getfield 25, 3) := by decide +kernel
theorem dX6_countSwinging_19 : decode cX6_countSwinging 19 = .ok (.iload_n 2, 1) := by decide +kernel
theorem dX6_countSwinging_20 : decode cX6_countSwinging 20 = .ok (.aaload, 1) := by decide +kernel
theorem dX6_countSwinging_21 : decode cX6_countSwinging 21 = .ok (.invokevirtual 34, 3) := by decide +kernel
theorem dX6_countSwinging_24 : decode cX6_countSwinging 24 = .ok (.ifCond .eq 6, 3) := by decide +kernel
theorem dX6_countSwinging_27 : decode cX6_countSwinging 27 = .ok (.iinc 1 1, 3) := by decide +kernel
theorem dX6_countSwinging_30 : decode cX6_countSwinging 30 = .ok (.iinc 2 1, 3) := by decide +kernel
theorem dX6_countSwinging_33 : decode cX6_countSwinging 33 = .ok (.goto (-29), 3) := by decide +kernel
theorem dX6_countSwinging_36 : decode cX6_countSwinging 36 = .ok (.iload_n 1, 1) := by decide +kernel
theorem dX6_countSwinging_37 : decode cX6_countSwinging 37 = .ok (.ireturn, 1) := by decide +kernel
set_option maxRecDepth 20000 in
theorem bX6_countSwinging_0 {G : Gx} {mm : Nat → Nat → Int32} {lm : Nat → Int64}  {o : Ou} {z : Wd} {a b : Nat} (hw : J G M_X6_countSwinging 4 [(0, .ref 38), (1, .int 0), (2, .int 0)] [] (SH, mm, lm) false o z false a b) :
    J G M_X6_countSwinging 0 [(0, .ref 38)] [] (SH, mm, lm) false o z false a b := by
  refine J_iconst (v := 0) (by decide) dX6_countSwinging_0 ?_
  refine J_istore_n [(1, .int 0), (0, .ref 38)] rfl (i := 1) (by decide) rfl dX6_countSwinging_1 ?_
  refine J_iconst (v := 0) (by decide) dX6_countSwinging_2 ?_
  refine J_istore_n [(2, .int 0), (1, .int 0), (0, .ref 38)] rfl (i := 2) (by decide) rfl dX6_countSwinging_3 ?_
  exact J_sub [2, 1, 0] rfl hw
set_option maxRecDepth 20000 in
theorem bX6_countSwinging_4 {G : Gx} {mm : Nat → Nat → Int32} {lm : Nat → Int64} {x1 : Int32} {x2 : Int32} {o : Ou} {z : Wd} {a b : Nat} (hw : (((mm 4 9) ≤ x2) → o = .inl (some (.int x1)) ∧ z = (SH, mm, lm)) ∧ ((¬ (mm 4 9) ≤ x2) → ∃ j1 : Nat, x2 = nI j1 ∧ j1 < 8 ∧ ∃ (v3 : Int32), Ct G M_X0_swings [.ref (23 + j1)] (SH, mm, lm) false (.inl (some (.int v3))) (SH, mm, lm) false 0 0 ∧ ((v3 = 0) → J G M_X6_countSwinging 4 [(0, .ref 38), (1, .int x1), (2, .int (x2 + 1))] [] (SH, mm, lm) false o z false a b) ∧ ((¬ v3 = 0) → J G M_X6_countSwinging 4 [(0, .ref 38), (1, .int (x1 + 1)), (2, .int (x2 + 1))] [] (SH, mm, lm) false o z false a b))) :
    J G M_X6_countSwinging 4 [(0, .ref 38), (1, .int x1), (2, .int x2)] [] (SH, mm, lm) false o z false a b := by
  refine J_iload_n rfl (i := 2) rfl dX6_countSwinging_4 ?_
  refine J_aload_n rfl (i := 0) rfl dX6_countSwinging_5 ?_
  refine J_getr kls_6 (q := 38) (k := 0) sh_38 (by decide) rfl gw_348 dX6_countSwinging_6 ?_
  refine J_geti kls_7 (q := 4) (k := 9) sh_4 (by decide) rfl gw_208 dX6_countSwinging_9 ?_
  refine J_icmp_ge (tgt := 36) dX6_countSwinging_12 (by decide) (fun hb6 => ?_) (fun hb6 => ?_)
  · replace hw := hw.1 hb6
    refine J_iload_n rfl (i := 1) rfl dX6_countSwinging_36 ?_
    exact J_fini (ty := .int) rfl rfl dX6_countSwinging_37 hw
  · replace hw := hw.2 hb6
    refine J_aload_n rfl (i := 0) rfl dX6_countSwinging_15 ?_
    refine J_getr kls_6 (q := 38) (k := 1) sh_38 (by decide) rfl gw_349 dX6_countSwinging_16 ?_
    refine J_iload_n rfl (i := 2) rfl dX6_countSwinging_19 ?_
    obtain ⟨j1, ej1, hj1, hw⟩ := hw
    refine J_aald (r := 23 + j1) sh_22 ej1 hj1 (by decide) (if_pos hj1) dX6_countSwinging_20 ?_
    obtain ⟨v3, hc2, hw⟩ := hw
    refine J_callV (as := []) (k := (23 + j1)) (st := []) cal_X0_swings cai_X0_swings gw_1074 ⟨by decide, by decide⟩ cnt_X0_swings (sh_b23 hj1) rfl rfl (Nat.le_of_ble_eq_true rfl) dX6_countSwinging_21 (Nat.zero_add _).symm (Nat.zero_add _).symm hc2 ?_
    refine J_if_eq (tgt := 30) dX6_countSwinging_24 (by decide) (fun hb5 => ?_) (fun hb5 => ?_)
    · replace hw := hw.1 hb5
      refine J_iinc [(2, .int (x2 + 1)), (0, .ref 38), (1, .int x1)] (i := 2) (v := (x2 + 1)) rfl rfl (by decide) rfl dX6_countSwinging_30 ?_
      refine J_goto (tgt := 4) dX6_countSwinging_33 (by decide) ?_
      exact J_sub [1, 2, 0] rfl hw
    · replace hw := hw.2 hb5
      refine J_iinc [(1, .int (x1 + 1)), (0, .ref 38), (2, .int x2)] (i := 1) (v := (x1 + 1)) rfl rfl (by decide) rfl dX6_countSwinging_27 ?_
      refine J_iinc [(2, .int (x2 + 1)), (1, .int (x1 + 1)), (0, .ref 38)] (i := 2) (v := (x2 + 1)) rfl rfl (by decide) rfl dX6_countSwinging_30 ?_
      refine J_goto (tgt := 4) dX6_countSwinging_33 (by decide) ?_
      exact J_sub [2, 1, 0] rfl hw
theorem dX6_offsetOf_0 : decode cX6_offsetOf 0 = .ok (.aload_n 0, 1) := by decide +kernel
theorem dX6_offsetOf_1 : decode cX6_offsetOf 1 = .ok (.getfield 25, 3) := by decide +kernel
theorem dX6_offsetOf_4 : decode cX6_offsetOf 4 = .ok (.iload_n 1, 1) := by decide +kernel
theorem dX6_offsetOf_5 : decode cX6_offsetOf 5 = .ok (.aaload, 1) := by decide +kernel
theorem dX6_offsetOf_6 : decode cX6_offsetOf 6 = .ok (.astore_n 3, 1) := by decide +kernel
theorem dX6_offsetOf_7 : decode cX6_offsetOf 7 = .ok (.aload_n 0, 1) := by decide +kernel
theorem dX6_offsetOf_8 : decode cX6_offsetOf 8 = .ok (.getfield 21, 3) := by decide +kernel
theorem dX6_offsetOf_11 : decode cX6_offsetOf 11 = .ok (.getfield 40, 3) := by decide +kernel
theorem dX6_offsetOf_14 : decode cX6_offsetOf 14 = .ok (.iload_n 1, 1) := by decide +kernel
theorem dX6_offsetOf_15 : decode cX6_offsetOf 15 = .ok (.iaload, 1) := by decide +kernel
theorem dX6_offsetOf_16 : decode cX6_offsetOf 16 = .ok (.iload_n 2, 1) := by decide +kernel
theorem dX6_offsetOf_17 : decode cX6_offsetOf 17 = .ok (.aload_n 3, 1) := by decide +kernel
theorem dX6_offsetOf_18 : decode cX6_offsetOf 18 = .ok (.getfield 43, 3) := by decide +kernel
theorem dX6_offsetOf_21 : decode cX6_offsetOf 21 = .ok (.isub, 1) := by decide +kernel
theorem dX6_offsetOf_22 : decode cX6_offsetOf 22 = .ok (.aload_n 3, 1) := by decide +kernel
theorem dX6_offsetOf_23 : decode cX6_offsetOf 23 = .ok (.getfield 46, 3) := by decide +kernel
theorem dX6_offsetOf_26 : decode cX6_offsetOf 26 = .ok (.invokestatic 49, 3) := by decide +kernel
theorem dX6_offsetOf_29 : decode cX6_offsetOf 29 = .ok (.ireturn, 1) := by decide +kernel
set_option maxRecDepth 20000 in
theorem bX6_offsetOf_0 {G : Gx} {mm : Nat → Nat → Int32} {lm : Nat → Int64} {x1 : Int32} {x2 : Int32} {o : Ou} {z : Wd} {a b : Nat} (hw : ∃ j1 : Nat, x1 = nI j1 ∧ j1 < 8 ∧ ∃ j2 : Nat, x1 = nI j2 ∧ j2 < 8 ∧ ∃ (v4 : Int32), Ct G M_X6_offsetOfSwing [.int (mm 9 j2), .int (x2 - (mm (23 + j1) 4)), .int (mm (23 + j1) 5)] (SH, mm, lm) false (.inl (some (.int v4))) (SH, mm, lm) false 0 0 ∧ o = .inl (some (.int v4)) ∧ z = (SH, mm, lm)) :
    J G M_X6_offsetOf 0 [(0, .ref 38), (1, .int x1), (2, .int x2)] [] (SH, mm, lm) false o z false a b := by
  refine J_aload_n rfl (i := 0) rfl dX6_offsetOf_0 ?_
  refine J_getr kls_6 (q := 38) (k := 1) sh_38 (by decide) rfl gw_349 dX6_offsetOf_1 ?_
  refine J_iload_n rfl (i := 1) rfl dX6_offsetOf_4 ?_
  obtain ⟨j1, ej1, hj1, hw⟩ := hw
  refine J_aald (r := 23 + j1) sh_22 ej1 hj1 (by decide) (if_pos hj1) dX6_offsetOf_5 ?_
  refine J_astore_n [(3, .ref (23 + j1)), (0, .ref 38), (1, .int x1), (2, .int x2)] rfl (i := 3) (by decide) rfl dX6_offsetOf_6 ?_
  refine J_aload_n rfl (i := 0) rfl dX6_offsetOf_7 ?_
  refine J_getr kls_6 (q := 38) (k := 0) sh_38 (by decide) rfl gw_348 dX6_offsetOf_8 ?_
  refine J_getr kls_7 (q := 4) (k := 4) sh_4 (by decide) rfl gw_193 dX6_offsetOf_11 ?_
  refine J_iload_n rfl (i := 1) rfl dX6_offsetOf_14 ?_
  obtain ⟨j2, ej2, hj2, hw⟩ := hw
  refine J_iald sh_9 ej2 hj2 (by decide) dX6_offsetOf_15 ?_
  refine J_iload_n rfl (i := 2) rfl dX6_offsetOf_16 ?_
  refine J_aload_n rfl (i := 3) rfl dX6_offsetOf_17 ?_
  refine J_geti kls_0 (q := (23 + j1)) (k := 4) (sh_b23 hj1) (by decide) rfl gw_267 dX6_offsetOf_18 ?_
  refine J_isub dX6_offsetOf_21 ?_
  refine J_aload_n rfl (i := 3) rfl dX6_offsetOf_22 ?_
  refine J_geti kls_0 (q := (23 + j1)) (k := 5) (sh_b23 hj1) (by decide) rfl gw_270 dX6_offsetOf_23 ?_
  obtain ⟨v4, hc3, hw⟩ := hw
  refine J_callS (as := [.int (mm 9 j2), .int (x2 - (mm (23 + j1) 4)), .int (mm (23 + j1) 5)]) (st := []) cal_X6_offsetOfSwing cas_X6_offsetOfSwing gw_1097 ⟨by decide, by decide⟩ cnt_X6_offsetOfSwing rfl (Nat.le_of_ble_eq_true rfl) dX6_offsetOf_26 (Nat.zero_add _).symm (Nat.zero_add _).symm hc3 ?_
  exact J_fini (ty := .int) rfl rfl dX6_offsetOf_29 hw
theorem dX6_offsetOfSwing_0 : decode cX6_offsetOfSwing 0 = .ok (.iload_n 1, 1) := by decide +kernel
theorem dX6_offsetOfSwing_1 : decode cX6_offsetOfSwing 1 = .ok (.ifCond .lt 7, 3) := by decide +kernel
theorem dX6_offsetOfSwing_4 : decode cX6_offsetOfSwing 4 = .ok (.iload_n 0, 1) := by decide +kernel
theorem dX6_offsetOfSwing_5 : decode cX6_offsetOfSwing 5 = .ok (.ifCond .gt 5, 3) := by decide +kernel
theorem dX6_offsetOfSwing_8 : decode cX6_offsetOfSwing 8 = .ok (.iconst 0, 1) := by decide +kernel
theorem dX6_offsetOfSwing_9 : decode cX6_offsetOfSwing 9 = .ok (.ireturn, 1) := by decide +kernel
theorem dX6_offsetOfSwing_10 : decode cX6_offsetOfSwing 10 = .ok (.iconst 4, 1) := by decide +kernel
theorem dX6_offsetOfSwing_11 : decode cX6_offsetOfSwing 11 = .ok (.iload_n 1, 1) := by decide +kernel
theorem dX6_offsetOfSwing_12 : decode cX6_offsetOfSwing 12 = .ok (.iload_n 0, 1) := by decide +kernel
theorem dX6_offsetOfSwing_13 : decode cX6_offsetOfSwing 13 = .ok (.irem, 1) := by decide +kernel
theorem dX6_offsetOfSwing_14 : decode cX6_offsetOfSwing 14 = .ok (.imul, 1) := by decide +kernel
theorem dX6_offsetOfSwing_15 : decode cX6_offsetOfSwing 15 = .ok (.istore_n 3, 1) := by decide +kernel
theorem dX6_offsetOfSwing_16 : decode cX6_offsetOfSwing 16 = .ok (.iload_n 3, 1) := by decide +kernel
theorem dX6_offsetOfSwing_17 : decode cX6_offsetOfSwing 17 = .ok (.iload_n 0, 1) := by decide +kernel
theorem dX6_offsetOfSwing_18 : decode cX6_offsetOfSwing 18 = .ok (.if_icmp .gt 9, 3) := by decide +kernel
theorem dX6_offsetOfSwing_21 : decode cX6_offsetOfSwing 21 = .ok (.iload_n 2, 1) := by decide +kernel
theorem dX6_offsetOfSwing_22 : decode cX6_offsetOfSwing 22 = .ok (.iload_n 3, 1) := by decide +kernel
theorem dX6_offsetOfSwing_23 : decode cX6_offsetOfSwing 23 = .ok (.imul, 1) := by decide +kernel
theorem dX6_offsetOfSwing_24 : decode cX6_offsetOfSwing 24 = .ok (.iload_n 0, 1) := by decide +kernel
theorem dX6_offsetOfSwing_25 : decode cX6_offsetOfSwing 25 = .ok (.idiv, 1) := by decide +kernel
theorem dX6_offsetOfSwing_26 : decode cX6_offsetOfSwing 26 = .ok (.ireturn, 1) := by decide +kernel
theorem dX6_offsetOfSwing_27 : decode cX6_offsetOfSwing 27 = .ok (.iload_n 3, 1) := by decide +kernel
theorem dX6_offsetOfSwing_28 : decode cX6_offsetOfSwing 28 = .ok (.iconst 3, 1) := by decide +kernel
theorem dX6_offsetOfSwing_29 : decode cX6_offsetOfSwing 29 = .ok (.iload_n 0, 1) := by decide +kernel
theorem dX6_offsetOfSwing_30 : decode cX6_offsetOfSwing 30 = .ok (.imul, 1) := by decide +kernel
theorem dX6_offsetOfSwing_31 : decode cX6_offsetOfSwing 31 = .ok (.if_icmp .gt 13, 3) := by decide +kernel
theorem dX6_offsetOfSwing_34 : decode cX6_offsetOfSwing 34 = .ok (.iload_n 2, 1) := by decide +kernel
theorem dX6_offsetOfSwing_35 : decode cX6_offsetOfSwing 35 = .ok (.iconst 2, 1) := by decide +kernel
theorem dX6_offsetOfSwing_36 : decode cX6_offsetOfSwing 36 = .ok (.iload_n 0, 1) := by decide +kernel
theorem dX6_offsetOfSwing_37 : decode cX6_offsetOfSwing 37 = .ok (.imul, 1) := by decide +kernel
theorem dX6_offsetOfSwing_38 : decode cX6_offsetOfSwing 38 = .ok (.iload_n 3, 1) := by decide +kernel
theorem dX6_offsetOfSwing_39 : decode cX6_offsetOfSwing 39 = .ok (.isub, 1) := by decide +kernel
theorem dX6_offsetOfSwing_40 : decode cX6_offsetOfSwing 40 = .ok (.imul, 1) := by decide +kernel
theorem dX6_offsetOfSwing_41 : decode cX6_offsetOfSwing 41 = .ok (.iload_n 0, 1) := by decide +kernel
theorem dX6_offsetOfSwing_42 : decode cX6_offsetOfSwing 42 = .ok (.idiv, 1) := by decide +kernel
theorem dX6_offsetOfSwing_43 : decode cX6_offsetOfSwing 43 = .ok (.ireturn, 1) := by decide +kernel
theorem dX6_offsetOfSwing_44 : decode cX6_offsetOfSwing 44 = .ok (.iload_n 2, 1) := by decide +kernel
theorem dX6_offsetOfSwing_45 : decode cX6_offsetOfSwing 45 = .ok (.iload_n 3, 1) := by decide +kernel
theorem dX6_offsetOfSwing_46 : decode cX6_offsetOfSwing 46 = .ok (.iconst 4, 1) := by decide +kernel
theorem dX6_offsetOfSwing_47 : decode cX6_offsetOfSwing 47 = .ok (.iload_n 0, 1) := by decide +kernel
theorem dX6_offsetOfSwing_48 : decode cX6_offsetOfSwing 48 = .ok (.imul, 1) := by decide +kernel
theorem dX6_offsetOfSwing_49 : decode cX6_offsetOfSwing 49 = .ok (.isub, 1) := by decide +kernel
theorem dX6_offsetOfSwing_50 : decode cX6_offsetOfSwing 50 = .ok (.imul, 1) := by decide +kernel
theorem dX6_offsetOfSwing_51 : decode cX6_offsetOfSwing 51 = .ok (.iload_n 0, 1) := by decide +kernel
theorem dX6_offsetOfSwing_52 : decode cX6_offsetOfSwing 52 = .ok (.idiv, 1) := by decide +kernel
theorem dX6_offsetOfSwing_53 : decode cX6_offsetOfSwing 53 = .ok (.ireturn, 1) := by decide +kernel
set_option maxRecDepth 20000 in
theorem bX6_offsetOfSwing_0 {G : Gx} {mm : Nat → Nat → Int32} {lm : Nat → Int64} {x0 : Int32} {x1 : Int32} {x2 : Int32} {o : Ou} {z : Wd} {a b : Nat} (hw : ((x1 < 0) → o = .inl (some (.int 0)) ∧ z = (SH, mm, lm)) ∧ ((¬ x1 < 0) → ((0 < x0) → ¬ x0 = 0 ∧ ((x0 < (4 * (x1 - x1 / x0 * x0))) → (((3 * x0) < (4 * (x1 - x1 / x0 * x0))) → ¬ x0 = 0 ∧ o = .inl (some (.int ((x2 * ((4 * (x1 - x1 / x0 * x0)) - (4 * x0))) / x0))) ∧ z = (SH, mm, lm)) ∧ ((¬ (3 * x0) < (4 * (x1 - x1 / x0 * x0))) → ¬ x0 = 0 ∧ o = .inl (some (.int ((x2 * ((2 * x0) - (4 * (x1 - x1 / x0 * x0)))) / x0))) ∧ z = (SH, mm, lm))) ∧ ((¬ x0 < (4 * (x1 - x1 / x0 * x0))) → ¬ x0 = 0 ∧ o = .inl (some (.int ((x2 * (4 * (x1 - x1 / x0 * x0))) / x0))) ∧ z = (SH, mm, lm))) ∧ ((¬ 0 < x0) → o = .inl (some (.int 0)) ∧ z = (SH, mm, lm)))) :
    J G M_X6_offsetOfSwing 0 [(0, .int x0), (1, .int x1), (2, .int x2)] [] (SH, mm, lm) false o z false a b := by
  refine J_iload_n rfl (i := 1) rfl dX6_offsetOfSwing_0 ?_
  refine J_if_lt (tgt := 8) dX6_offsetOfSwing_1 (by decide) (fun hb8 => ?_) (fun hb8 => ?_)
  · replace hw := hw.1 hb8
    refine J_iconst (v := 0) (by decide) dX6_offsetOfSwing_8 ?_
    exact J_fini (ty := .int) rfl rfl dX6_offsetOfSwing_9 hw
  · replace hw := hw.2 hb8
    refine J_iload_n rfl (i := 0) rfl dX6_offsetOfSwing_4 ?_
    refine J_if_gt (tgt := 10) dX6_offsetOfSwing_5 (by decide) (fun hb7 => ?_) (fun hb7 => ?_)
    · replace hw := hw.1 hb7
      refine J_iconst (v := 4) (by decide) dX6_offsetOfSwing_10 ?_
      refine J_iload_n rfl (i := 1) rfl dX6_offsetOfSwing_11 ?_
      refine J_iload_n rfl (i := 0) rfl dX6_offsetOfSwing_12 ?_
      obtain ⟨hz6, hw⟩ := hw
      refine J_irem hz6 dX6_offsetOfSwing_13 ?_
      refine J_imul dX6_offsetOfSwing_14 ?_
      refine J_istore_n [(3, .int (4 * (x1 - x1 / x0 * x0))), (0, .int x0), (1, .int x1), (2, .int x2)] rfl (i := 3) (by decide) rfl dX6_offsetOfSwing_15 ?_
      refine J_iload_n rfl (i := 3) rfl dX6_offsetOfSwing_16 ?_
      refine J_iload_n rfl (i := 0) rfl dX6_offsetOfSwing_17 ?_
      refine J_icmp_gt (tgt := 27) dX6_offsetOfSwing_18 (by decide) (fun hb5 => ?_) (fun hb5 => ?_)
      · replace hw := hw.1 hb5
        refine J_iload_n rfl (i := 3) rfl dX6_offsetOfSwing_27 ?_
        refine J_iconst (v := 3) (by decide) dX6_offsetOfSwing_28 ?_
        refine J_iload_n rfl (i := 0) rfl dX6_offsetOfSwing_29 ?_
        refine J_imul dX6_offsetOfSwing_30 ?_
        refine J_icmp_gt (tgt := 44) dX6_offsetOfSwing_31 (by decide) (fun hb3 => ?_) (fun hb3 => ?_)
        · replace hw := hw.1 hb3
          refine J_iload_n rfl (i := 2) rfl dX6_offsetOfSwing_44 ?_
          refine J_iload_n rfl (i := 3) rfl dX6_offsetOfSwing_45 ?_
          refine J_iconst (v := 4) (by decide) dX6_offsetOfSwing_46 ?_
          refine J_iload_n rfl (i := 0) rfl dX6_offsetOfSwing_47 ?_
          refine J_imul dX6_offsetOfSwing_48 ?_
          refine J_isub dX6_offsetOfSwing_49 ?_
          refine J_imul dX6_offsetOfSwing_50 ?_
          refine J_iload_n rfl (i := 0) rfl dX6_offsetOfSwing_51 ?_
          obtain ⟨hz1, hw⟩ := hw
          refine J_idiv hz1 dX6_offsetOfSwing_52 ?_
          exact J_fini (ty := .int) rfl rfl dX6_offsetOfSwing_53 hw
        · replace hw := hw.2 hb3
          refine J_iload_n rfl (i := 2) rfl dX6_offsetOfSwing_34 ?_
          refine J_iconst (v := 2) (by decide) dX6_offsetOfSwing_35 ?_
          refine J_iload_n rfl (i := 0) rfl dX6_offsetOfSwing_36 ?_
          refine J_imul dX6_offsetOfSwing_37 ?_
          refine J_iload_n rfl (i := 3) rfl dX6_offsetOfSwing_38 ?_
          refine J_isub dX6_offsetOfSwing_39 ?_
          refine J_imul dX6_offsetOfSwing_40 ?_
          refine J_iload_n rfl (i := 0) rfl dX6_offsetOfSwing_41 ?_
          obtain ⟨hz2, hw⟩ := hw
          refine J_idiv hz2 dX6_offsetOfSwing_42 ?_
          exact J_fini (ty := .int) rfl rfl dX6_offsetOfSwing_43 hw
      · replace hw := hw.2 hb5
        refine J_iload_n rfl (i := 2) rfl dX6_offsetOfSwing_21 ?_
        refine J_iload_n rfl (i := 3) rfl dX6_offsetOfSwing_22 ?_
        refine J_imul dX6_offsetOfSwing_23 ?_
        refine J_iload_n rfl (i := 0) rfl dX6_offsetOfSwing_24 ?_
        obtain ⟨hz4, hw⟩ := hw
        refine J_idiv hz4 dX6_offsetOfSwing_25 ?_
        exact J_fini (ty := .int) rfl rfl dX6_offsetOfSwing_26 hw
    · replace hw := hw.2 hb7
      refine J_iconst (v := 0) (by decide) dX6_offsetOfSwing_8 ?_
      exact J_fini (ty := .int) rfl rfl dX6_offsetOfSwing_9 hw
theorem dX6_gapBetween_0 : decode cX6_gapBetween 0 = .ok (.aload_n 0, 1) := by decide +kernel
theorem dX6_gapBetween_1 : decode cX6_gapBetween 1 = .ok (.iload_n 1, 1) := by decide +kernel
theorem dX6_gapBetween_2 : decode cX6_gapBetween 2 = .ok (.iload_n 2, 1) := by decide +kernel
theorem dX6_gapBetween_3 : decode cX6_gapBetween 3 = .ok (.aload_n 0, 1) := by decide +kernel
theorem dX6_gapBetween_4 : decode cX6_gapBetween 4 = .ok (.iload_n 1, 1) := by decide +kernel
theorem dX6_gapBetween_5 : decode cX6_gapBetween 5 = .ok (.iload_n 3, 1) := by decide +kernel
theorem dX6_gapBetween_6 : decode cX6_gapBetween 6 = .ok (.invokevirtual 53, 3) := by decide +kernel
theorem dX6_gapBetween_9 : decode cX6_gapBetween 9 = .ok (.aload_n 0, 1) := by decide +kernel
theorem dX6_gapBetween_10 : decode cX6_gapBetween 10 = .ok (.iload_n 2, 1) := by decide +kernel
theorem dX6_gapBetween_11 : decode cX6_gapBetween 11 = .ok (.iload_n 3, 1) := by decide +kernel
theorem dX6_gapBetween_12 : decode cX6_gapBetween 12 = .ok (.invokevirtual 53, 3) := by decide +kernel
theorem dX6_gapBetween_15 : decode cX6_gapBetween 15 = .ok (.isub, 1) := by decide +kernel
theorem dX6_gapBetween_16 : decode cX6_gapBetween 16 = .ok (.invokevirtual 57, 3) := by decide +kernel
theorem dX6_gapBetween_19 : decode cX6_gapBetween 19 = .ok (.ireturn, 1) := by decide +kernel
set_option maxRecDepth 20000 in
theorem bX6_gapBetween_0 {G : Gx} {mm : Nat → Nat → Int32} {lm : Nat → Int64} {x1 : Int32} {x2 : Int32} {x3 : Int32} {o : Ou} {z : Wd} {a b : Nat} (hw : ∃ (v2 : Int32), Ct G M_X6_spotOf [.ref 38, .int x1, .int x3] (SH, mm, lm) false (.inl (some (.int v2))) (SH, mm, lm) false 0 0 ∧ ∃ (v5 : Int32), Ct G M_X6_spotOf [.ref 38, .int x2, .int x3] (SH, mm, lm) false (.inl (some (.int v5))) (SH, mm, lm) false 0 0 ∧ ∃ (v8 : Int32), Ct G M_X6_gapOfSpots [.ref 38, .int x1, .int x2, .int (v2 - v5)] (SH, mm, lm) false (.inl (some (.int v8))) (SH, mm, lm) false 0 0 ∧ o = .inl (some (.int v8)) ∧ z = (SH, mm, lm)) :
    J G M_X6_gapBetween 0 [(0, .ref 38), (1, .int x1), (2, .int x2), (3, .int x3)] [] (SH, mm, lm) false o z false a b := by
  refine J_aload_n rfl (i := 0) rfl dX6_gapBetween_0 ?_
  refine J_iload_n rfl (i := 1) rfl dX6_gapBetween_1 ?_
  refine J_iload_n rfl (i := 2) rfl dX6_gapBetween_2 ?_
  refine J_aload_n rfl (i := 0) rfl dX6_gapBetween_3 ?_
  refine J_iload_n rfl (i := 1) rfl dX6_gapBetween_4 ?_
  refine J_iload_n rfl (i := 3) rfl dX6_gapBetween_5 ?_
  obtain ⟨v2, hc1, hw⟩ := hw
  refine J_callV (as := [.int x1, .int x3]) (k := 38) (st := [.int x2, .int x1, .ref 38]) cal_X6_spotOf cai_X6_spotOf gw_1114 ⟨by decide, by decide⟩ cnt_X6_spotOf sh_38 rfl rfl (Nat.le_of_ble_eq_true rfl) dX6_gapBetween_6 (Nat.zero_add _).symm (Nat.zero_add _).symm hc1 ?_
  refine J_aload_n rfl (i := 0) rfl dX6_gapBetween_9 ?_
  refine J_iload_n rfl (i := 2) rfl dX6_gapBetween_10 ?_
  refine J_iload_n rfl (i := 3) rfl dX6_gapBetween_11 ?_
  obtain ⟨v5, hc4, hw⟩ := hw
  refine J_callV (as := [.int x2, .int x3]) (k := 38) (st := [.int v2, .int x2, .int x1, .ref 38]) cal_X6_spotOf cai_X6_spotOf gw_1114 ⟨by decide, by decide⟩ cnt_X6_spotOf sh_38 rfl rfl (Nat.le_of_ble_eq_true rfl) dX6_gapBetween_12 (Nat.zero_add _).symm (Nat.zero_add _).symm hc4 ?_
  refine J_isub dX6_gapBetween_15 ?_
  obtain ⟨v8, hc7, hw⟩ := hw
  refine J_callV (as := [.int x1, .int x2, .int (v2 - v5)]) (k := 38) (st := []) cal_X6_gapOfSpots cai_X6_gapOfSpots gw_1119 ⟨by decide, by decide⟩ cnt_X6_gapOfSpots sh_38 rfl rfl (Nat.le_of_ble_eq_true rfl) dX6_gapBetween_16 (Nat.zero_add _).symm (Nat.zero_add _).symm hc7 ?_
  exact J_fini (ty := .int) rfl rfl dX6_gapBetween_19 hw
theorem dX6_gapOfSpots_0 : decode cX6_gapOfSpots 0 = .ok (.aload_n 0, 1) := by decide +kernel
theorem dX6_gapOfSpots_1 : decode cX6_gapOfSpots 1 = .ok (.getfield 25, 3) := by decide +kernel
theorem dX6_gapOfSpots_4 : decode cX6_gapOfSpots 4 = .ok (.iload_n 1, 1) := by decide +kernel
theorem dX6_gapOfSpots_5 : decode cX6_gapOfSpots 5 = .ok (.aaload, 1) := by decide +kernel
theorem dX6_gapOfSpots_6 : decode cX6_gapOfSpots 6 = .ok (.getfield 60, 3) := by decide +kernel
theorem dX6_gapOfSpots_9 : decode cX6_gapOfSpots 9 = .ok (.aload_n 0, 1) := by decide +kernel
theorem dX6_gapOfSpots_10 : decode cX6_gapOfSpots 10 = .ok (.getfield 25, 3) := by decide +kernel
theorem dX6_gapOfSpots_13 : decode cX6_gapOfSpots 13 = .ok (.iload_n 2, 1) := by decide +kernel
theorem dX6_gapOfSpots_14 : decode cX6_gapOfSpots 14 = .ok (.aaload, 1) := by decide +kernel
theorem dX6_gapOfSpots_15 : decode cX6_gapOfSpots 15 = .ok (.getfield 60, 3) := by decide +kernel
theorem dX6_gapOfSpots_18 : decode cX6_gapOfSpots 18 = .ok (.if_icmp .le 7, 3) := by decide +kernel
theorem dX6_gapOfSpots_21 : decode cX6_gapOfSpots 21 = .ok (.iconst 1, 1) := by decide +kernel
theorem dX6_gapOfSpots_22 : decode cX6_gapOfSpots 22 = .ok (.goto 4, 3) := by decide +kernel
theorem dX6_gapOfSpots_25 : decode cX6_gapOfSpots 25 = .ok (.iconst 0, 1) := by decide +kernel
theorem dX6_gapOfSpots_26 : decode cX6_gapOfSpots 26 = .ok (.istore 4, 2) := by decide +kernel
theorem dX6_gapOfSpots_28 : decode cX6_gapOfSpots 28 = .ok (.iload 4, 2) := by decide +kernel
theorem dX6_gapOfSpots_30 : decode cX6_gapOfSpots 30 = .ok (.ifCond .eq 7, 3) := by decide +kernel
theorem dX6_gapOfSpots_33 : decode cX6_gapOfSpots 33 = .ok (.iload_n 3, 1) := by decide +kernel
theorem dX6_gapOfSpots_34 : decode cX6_gapOfSpots 34 = .ok (.goto 5, 3) := by decide +kernel
theorem dX6_gapOfSpots_37 : decode cX6_gapOfSpots 37 = .ok (.iload_n 3, 1) := by decide +kernel
theorem dX6_gapOfSpots_38 : decode cX6_gapOfSpots 38 = .ok (.ineg, 1) := by decide +kernel
theorem dX6_gapOfSpots_39 : decode cX6_gapOfSpots 39 = .ok (.istore 5, 2) := by decide +kernel
theorem dX6_gapOfSpots_41 : decode cX6_gapOfSpots 41 = .ok (.iload 5, 2) := by decide +kernel
theorem dX6_gapOfSpots_43 : decode cX6_gapOfSpots 43 = .ok (.aload_n 0, 1) := by decide +kernel
theorem dX6_gapOfSpots_44 : decode cX6_gapOfSpots 44 = .ok (.getfield 21, 3) := by decide +kernel
theorem dX6_gapOfSpots_47 : decode cX6_gapOfSpots 47 = .ok (.getfield 63, 3) := by decide +kernel
theorem dX6_gapOfSpots_50 : decode cX6_gapOfSpots 50 = .ok (.iload_n 1, 1) := by decide +kernel
theorem dX6_gapOfSpots_51 : decode cX6_gapOfSpots 51 = .ok (.iaload, 1) := by decide +kernel
theorem dX6_gapOfSpots_52 : decode cX6_gapOfSpots 52 = .ok (.isub, 1) := by decide +kernel
theorem dX6_gapOfSpots_53 : decode cX6_gapOfSpots 53 = .ok (.aload_n 0, 1) := by decide +kernel
theorem dX6_gapOfSpots_54 : decode cX6_gapOfSpots 54 = .ok (.getfield 21, 3) := by decide +kernel
theorem dX6_gapOfSpots_57 : decode cX6_gapOfSpots 57 = .ok (.getfield 63, 3) := by decide +kernel
theorem dX6_gapOfSpots_60 : decode cX6_gapOfSpots 60 = .ok (.iload_n 2, 1) := by decide +kernel
theorem dX6_gapOfSpots_61 : decode cX6_gapOfSpots 61 = .ok (.iaload, 1) := by decide +kernel
theorem dX6_gapOfSpots_62 : decode cX6_gapOfSpots 62 = .ok (.isub, 1) := by decide +kernel
theorem dX6_gapOfSpots_63 : decode cX6_gapOfSpots 63 = .ok (.ireturn, 1) := by decide +kernel
set_option maxRecDepth 20000 in
theorem bX6_gapOfSpots_0 {G : Gx} {mm : Nat → Nat → Int32} {lm : Nat → Int64} {x1 : Int32} {x2 : Int32} {x3 : Int32} {o : Ou} {z : Wd} {a b : Nat} (hw : ∃ j1 : Nat, x1 = nI j1 ∧ j1 < 8 ∧ ∃ j2 : Nat, x2 = nI j2 ∧ j2 < 8 ∧ (((mm (23 + j1) 1) ≤ (mm (23 + j2) 1)) → ∃ j4 : Nat, x1 = nI j4 ∧ j4 < 8 ∧ ∃ j5 : Nat, x2 = nI j5 ∧ j5 < 8 ∧ o = .inl (some (.int (((-x3) - (mm 8 j4)) - (mm 8 j5)))) ∧ z = (SH, mm, lm)) ∧ ((¬ (mm (23 + j1) 1) ≤ (mm (23 + j2) 1)) → ∃ j7 : Nat, x1 = nI j7 ∧ j7 < 8 ∧ ∃ j8 : Nat, x2 = nI j8 ∧ j8 < 8 ∧ o = .inl (some (.int ((x3 - (mm 8 j7)) - (mm 8 j8)))) ∧ z = (SH, mm, lm))) :
    J G M_X6_gapOfSpots 0 [(0, .ref 38), (1, .int x1), (2, .int x2), (3, .int x3)] [] (SH, mm, lm) false o z false a b := by
  refine J_aload_n rfl (i := 0) rfl dX6_gapOfSpots_0 ?_
  refine J_getr kls_6 (q := 38) (k := 1) sh_38 (by decide) rfl gw_349 dX6_gapOfSpots_1 ?_
  refine J_iload_n rfl (i := 1) rfl dX6_gapOfSpots_4 ?_
  obtain ⟨j1, ej1, hj1, hw⟩ := hw
  refine J_aald (r := 23 + j1) sh_22 ej1 hj1 (by decide) (if_pos hj1) dX6_gapOfSpots_5 ?_
  refine J_geti kls_0 (q := (23 + j1)) (k := 1) (sh_b23 hj1) (by decide) rfl gw_257 dX6_gapOfSpots_6 ?_
  refine J_aload_n rfl (i := 0) rfl dX6_gapOfSpots_9 ?_
  refine J_getr kls_6 (q := 38) (k := 1) sh_38 (by decide) rfl gw_349 dX6_gapOfSpots_10 ?_
  refine J_iload_n rfl (i := 2) rfl dX6_gapOfSpots_13 ?_
  obtain ⟨j2, ej2, hj2, hw⟩ := hw
  refine J_aald (r := 23 + j2) sh_22 ej2 hj2 (by decide) (if_pos hj2) dX6_gapOfSpots_14 ?_
  refine J_geti kls_0 (q := (23 + j2)) (k := 1) (sh_b23 hj2) (by decide) rfl gw_257 dX6_gapOfSpots_15 ?_
  refine J_icmp_le (tgt := 25) dX6_gapOfSpots_18 (by decide) (fun hb9 => ?_) (fun hb9 => ?_)
  · replace hw := hw.1 hb9
    refine J_iconst (v := 0) (by decide) dX6_gapOfSpots_25 ?_
    refine J_istore [(4, .int 0), (0, .ref 38), (1, .int x1), (2, .int x2), (3, .int x3)] (i := 4) (by decide) rfl dX6_gapOfSpots_26 ?_
    refine J_iload (i := 4) rfl dX6_gapOfSpots_28 ?_
    refine J_if_eq (tgt := 37) dX6_gapOfSpots_30 (by decide) (fun _ => ?_) (fun hb3 => absurd hb3 (by decide))
    refine J_iload_n rfl (i := 3) rfl dX6_gapOfSpots_37 ?_
    refine J_ineg dX6_gapOfSpots_38 ?_
    refine J_istore [(5, .int (-x3)), (4, .int 0), (0, .ref 38), (1, .int x1), (2, .int x2), (3, .int x3)] (i := 5) (by decide) rfl dX6_gapOfSpots_39 ?_
    refine J_iload (i := 5) rfl dX6_gapOfSpots_41 ?_
    refine J_aload_n rfl (i := 0) rfl dX6_gapOfSpots_43 ?_
    refine J_getr kls_6 (q := 38) (k := 0) sh_38 (by decide) rfl gw_348 dX6_gapOfSpots_44 ?_
    refine J_getr kls_7 (q := 4) (k := 3) sh_4 (by decide) rfl gw_191 dX6_gapOfSpots_47 ?_
    refine J_iload_n rfl (i := 1) rfl dX6_gapOfSpots_50 ?_
    obtain ⟨j4, ej4, hj4, hw⟩ := hw
    refine J_iald sh_8 ej4 hj4 (by decide) dX6_gapOfSpots_51 ?_
    refine J_isub dX6_gapOfSpots_52 ?_
    refine J_aload_n rfl (i := 0) rfl dX6_gapOfSpots_53 ?_
    refine J_getr kls_6 (q := 38) (k := 0) sh_38 (by decide) rfl gw_348 dX6_gapOfSpots_54 ?_
    refine J_getr kls_7 (q := 4) (k := 3) sh_4 (by decide) rfl gw_191 dX6_gapOfSpots_57 ?_
    refine J_iload_n rfl (i := 2) rfl dX6_gapOfSpots_60 ?_
    obtain ⟨j5, ej5, hj5, hw⟩ := hw
    refine J_iald sh_8 ej5 hj5 (by decide) dX6_gapOfSpots_61 ?_
    refine J_isub dX6_gapOfSpots_62 ?_
    exact J_fini (ty := .int) rfl rfl dX6_gapOfSpots_63 hw
  · replace hw := hw.2 hb9
    refine J_iconst (v := 1) (by decide) dX6_gapOfSpots_21 ?_
    refine J_goto (tgt := 26) dX6_gapOfSpots_22 (by decide) ?_
    refine J_istore [(4, .int 1), (0, .ref 38), (1, .int x1), (2, .int x2), (3, .int x3)] (i := 4) (by decide) rfl dX6_gapOfSpots_26 ?_
    refine J_iload (i := 4) rfl dX6_gapOfSpots_28 ?_
    refine J_if_eq (tgt := 37) dX6_gapOfSpots_30 (by decide) (fun hb6 => absurd hb6 (by decide)) (fun _ => ?_)
    refine J_iload_n rfl (i := 3) rfl dX6_gapOfSpots_33 ?_
    refine J_goto (tgt := 39) dX6_gapOfSpots_34 (by decide) ?_
    refine J_istore [(5, .int x3), (4, .int 1), (0, .ref 38), (1, .int x1), (2, .int x2), (3, .int x3)] (i := 5) (by decide) rfl dX6_gapOfSpots_39 ?_
    refine J_iload (i := 5) rfl dX6_gapOfSpots_41 ?_
    refine J_aload_n rfl (i := 0) rfl dX6_gapOfSpots_43 ?_
    refine J_getr kls_6 (q := 38) (k := 0) sh_38 (by decide) rfl gw_348 dX6_gapOfSpots_44 ?_
    refine J_getr kls_7 (q := 4) (k := 3) sh_4 (by decide) rfl gw_191 dX6_gapOfSpots_47 ?_
    refine J_iload_n rfl (i := 1) rfl dX6_gapOfSpots_50 ?_
    obtain ⟨j7, ej7, hj7, hw⟩ := hw
    refine J_iald sh_8 ej7 hj7 (by decide) dX6_gapOfSpots_51 ?_
    refine J_isub dX6_gapOfSpots_52 ?_
    refine J_aload_n rfl (i := 0) rfl dX6_gapOfSpots_53 ?_
    refine J_getr kls_6 (q := 38) (k := 0) sh_38 (by decide) rfl gw_348 dX6_gapOfSpots_54 ?_
    refine J_getr kls_7 (q := 4) (k := 3) sh_4 (by decide) rfl gw_191 dX6_gapOfSpots_57 ?_
    refine J_iload_n rfl (i := 2) rfl dX6_gapOfSpots_60 ?_
    obtain ⟨j8, ej8, hj8, hw⟩ := hw
    refine J_iald sh_8 ej8 hj8 (by decide) dX6_gapOfSpots_61 ?_
    refine J_isub dX6_gapOfSpots_62 ?_
    exact J_fini (ty := .int) rfl rfl dX6_gapOfSpots_63 hw
theorem dX6_spotOf_0 : decode cX6_spotOf 0 = .ok (.aload_n 0, 1) := by decide +kernel
theorem dX6_spotOf_1 : decode cX6_spotOf 1 = .ok (.getfield 25, 3) := by decide +kernel
theorem dX6_spotOf_4 : decode cX6_spotOf 4 = .ok (.iload_n 1, 1) := by decide +kernel
theorem dX6_spotOf_5 : decode cX6_spotOf 5 = .ok (.aaload, 1) := by decide +kernel
theorem dX6_spotOf_6 : decode cX6_spotOf 6 = .ok (.getfield 60, 3) := by decide +kernel
theorem dX6_spotOf_9 : decode cX6_spotOf 9 = .ok (.aload_n 0, 1) := by decide +kernel
theorem dX6_spotOf_10 : decode cX6_spotOf 10 = .ok (.iload_n 1, 1) := by decide +kernel
theorem dX6_spotOf_11 : decode cX6_spotOf 11 = .ok (.iload_n 2, 1) := by decide +kernel
theorem dX6_spotOf_12 : decode cX6_spotOf 12 = .ok (.invokevirtual 66, 3) := by decide +kernel
theorem dX6_spotOf_15 : decode cX6_spotOf 15 = .ok (.iadd, 1) := by decide +kernel
theorem dX6_spotOf_16 : decode cX6_spotOf 16 = .ok (.ireturn, 1) := by decide +kernel
set_option maxRecDepth 20000 in
theorem bX6_spotOf_0 {G : Gx} {mm : Nat → Nat → Int32} {lm : Nat → Int64} {x1 : Int32} {x2 : Int32} {o : Ou} {z : Wd} {a b : Nat} (hw : ∃ j1 : Nat, x1 = nI j1 ∧ j1 < 8 ∧ ∃ (v3 : Int32), Ct G M_X6_offsetOf [.ref 38, .int x1, .int x2] (SH, mm, lm) false (.inl (some (.int v3))) (SH, mm, lm) false 0 0 ∧ o = .inl (some (.int ((mm (23 + j1) 1) + v3))) ∧ z = (SH, mm, lm)) :
    J G M_X6_spotOf 0 [(0, .ref 38), (1, .int x1), (2, .int x2)] [] (SH, mm, lm) false o z false a b := by
  refine J_aload_n rfl (i := 0) rfl dX6_spotOf_0 ?_
  refine J_getr kls_6 (q := 38) (k := 1) sh_38 (by decide) rfl gw_349 dX6_spotOf_1 ?_
  refine J_iload_n rfl (i := 1) rfl dX6_spotOf_4 ?_
  obtain ⟨j1, ej1, hj1, hw⟩ := hw
  refine J_aald (r := 23 + j1) sh_22 ej1 hj1 (by decide) (if_pos hj1) dX6_spotOf_5 ?_
  refine J_geti kls_0 (q := (23 + j1)) (k := 1) (sh_b23 hj1) (by decide) rfl gw_257 dX6_spotOf_6 ?_
  refine J_aload_n rfl (i := 0) rfl dX6_spotOf_9 ?_
  refine J_iload_n rfl (i := 1) rfl dX6_spotOf_10 ?_
  refine J_iload_n rfl (i := 2) rfl dX6_spotOf_11 ?_
  obtain ⟨v3, hc2, hw⟩ := hw
  refine J_callV (as := [.int x1, .int x2]) (k := 38) (st := [.int (mm (23 + j1) 1)]) cal_X6_offsetOf cai_X6_offsetOf gw_1118 ⟨by decide, by decide⟩ cnt_X6_offsetOf sh_38 rfl rfl (Nat.le_of_ble_eq_true rfl) dX6_spotOf_12 (Nat.zero_add _).symm (Nat.zero_add _).symm hc2 ?_
  refine J_iadd dX6_spotOf_15 ?_
  exact J_fini (ty := .int) rfl rfl dX6_spotOf_16 hw
theorem dX6_tickOfCollision_0 : decode cX6_tickOfCollision 0 = .ok (.iconst 0, 1) := by decide +kernel
theorem dX6_tickOfCollision_1 : decode cX6_tickOfCollision 1 = .ok (.istore_n 1, 1) := by decide +kernel
theorem dX6_tickOfCollision_2 : decode cX6_tickOfCollision 2 = .ok (.iload_n 1, 1) := by decide +kernel
theorem dX6_tickOfCollision_3 : decode cX6_tickOfCollision 3 = .ok (.sipush 1000, 3) := by decide +kernel
theorem dX6_tickOfCollision_6 : decode cX6_tickOfCollision 6 = .ok (.if_icmp .ge 20, 3) := by decide +kernel
theorem dX6_tickOfCollision_9 : decode cX6_tickOfCollision 9 = .ok (.aload_n 0, 1) := by decide +kernel
theorem dX6_tickOfCollision_10 : decode cX6_tickOfCollision 10 = .ok (.iload_n 1, 1) := by decide +kernel
theorem dX6_tickOfCollision_11 : decode cX6_tickOfCollision 11 = .ok (.invokevirtual 69, 3) := by decide +kernel
theorem dX6_tickOfCollision_14 : decode cX6_tickOfCollision 14 = .ok (.iconst (-1), 1) := by decide +kernel
theorem dX6_tickOfCollision_15 : decode cX6_tickOfCollision 15 = .ok (.if_icmp .eq 5, 3) := by decide +kernel
theorem dX6_tickOfCollision_18 : decode cX6_tickOfCollision 18 = .ok (.iload_n 1, 1) := by decide +kernel
theorem dX6_tickOfCollision_19 : decode cX6_tickOfCollision 19 = .ok (.ireturn, 1) := by decide +kernel
theorem dX6_tickOfCollision_20 : decode cX6_tickOfCollision 20 = .ok (.iinc 1 1, 3) := by decide +kernel
theorem dX6_tickOfCollision_23 : decode cX6_tickOfCollision 23 = .ok (.goto (-21), 3) := by decide +kernel
theorem dX6_tickOfCollision_26 : decode cX6_tickOfCollision 26 = .ok (.iconst (-1), 1) := by decide +kernel
theorem dX6_tickOfCollision_27 : decode cX6_tickOfCollision 27 = .ok (.ireturn, 1) := by decide +kernel
set_option maxRecDepth 20000 in
theorem bX6_tickOfCollision_0 {G : Gx} {mm : Nat → Nat → Int32} {lm : Nat → Int64}  {o : Ou} {z : Wd} {a b : Nat} (hw : J G M_X6_tickOfCollision 2 [(0, .ref 38), (1, .int 0)] [] (SH, mm, lm) false o z false a b) :
    J G M_X6_tickOfCollision 0 [(0, .ref 38)] [] (SH, mm, lm) false o z false a b := by
  refine J_iconst (v := 0) (by decide) dX6_tickOfCollision_0 ?_
  refine J_istore_n [(1, .int 0), (0, .ref 38)] rfl (i := 1) (by decide) rfl dX6_tickOfCollision_1 ?_
  exact J_sub [1, 0] rfl hw
set_option maxRecDepth 20000 in
theorem bX6_tickOfCollision_2 {G : Gx} {mm : Nat → Nat → Int32} {lm : Nat → Int64} {x1 : Int32} {o : Ou} {z : Wd} {a b : Nat} (hw : ((1000 ≤ x1) → o = .inl (some (.int (-1))) ∧ z = (SH, mm, lm)) ∧ ((¬ 1000 ≤ x1) → ∃ (v2 : Int32) (m3 : Nat → Nat → Int32), Ct G M_X6_pairCollidingAt [.ref 38, .int x1] (SH, mm, lm) false (.inl (some (.int v2))) (SH, m3, lm) false 0 0 ∧ ((v2 = (-1)) → J G M_X6_tickOfCollision 2 [(0, .ref 38), (1, .int (x1 + 1))] [] (SH, m3, lm) false o z false a b) ∧ ((¬ v2 = (-1)) → o = .inl (some (.int x1)) ∧ z = (SH, m3, lm)))) :
    J G M_X6_tickOfCollision 2 [(0, .ref 38), (1, .int x1)] [] (SH, mm, lm) false o z false a b := by
  refine J_iload_n rfl (i := 1) rfl dX6_tickOfCollision_2 ?_
  refine J_sipush (v := 1000) (by decide) dX6_tickOfCollision_3 ?_
  refine J_icmp_ge (tgt := 26) dX6_tickOfCollision_6 (by decide) (fun hb5 => ?_) (fun hb5 => ?_)
  · replace hw := hw.1 hb5
    refine J_iconst (v := (-1)) (by decide) dX6_tickOfCollision_26 ?_
    exact J_fini (ty := .int) rfl rfl dX6_tickOfCollision_27 hw
  · replace hw := hw.2 hb5
    refine J_aload_n rfl (i := 0) rfl dX6_tickOfCollision_9 ?_
    refine J_iload_n rfl (i := 1) rfl dX6_tickOfCollision_10 ?_
    obtain ⟨v2, m3, hc1, hw⟩ := hw
    refine J_callV (as := [.int x1]) (k := 38) (st := []) cal_X6_pairCollidingAt cai_X6_pairCollidingAt gw_1134 ⟨by decide, by decide⟩ cnt_X6_pairCollidingAt sh_38 rfl rfl (Nat.le_of_ble_eq_true rfl) dX6_tickOfCollision_11 (Nat.zero_add _).symm (Nat.zero_add _).symm hc1 ?_
    refine J_iconst (v := (-1)) (by decide) dX6_tickOfCollision_14 ?_
    refine J_icmp_eq (tgt := 20) dX6_tickOfCollision_15 (by decide) (fun hb4 => ?_) (fun hb4 => ?_)
    · replace hw := hw.1 hb4
      refine J_iinc [(1, .int (x1 + 1)), (0, .ref 38)] (i := 1) (v := (x1 + 1)) rfl rfl (by decide) rfl dX6_tickOfCollision_20 ?_
      refine J_goto (tgt := 2) dX6_tickOfCollision_23 (by decide) ?_
      exact J_sub [1, 0] rfl hw
    · replace hw := hw.2 hb4
      refine J_iload_n rfl (i := 1) rfl dX6_tickOfCollision_18 ?_
      exact J_fini (ty := .int) rfl rfl dX6_tickOfCollision_19 hw
theorem dX6_pairCollidingAt_0 : decode cX6_pairCollidingAt 0 = .ok (.iconst 0, 1) := by decide +kernel
theorem dX6_pairCollidingAt_1 : decode cX6_pairCollidingAt 1 = .ok (.istore_n 2, 1) := by decide +kernel
theorem dX6_pairCollidingAt_2 : decode cX6_pairCollidingAt 2 = .ok (.iload_n 2, 1) := by decide +kernel
theorem dX6_pairCollidingAt_3 : decode cX6_pairCollidingAt 3 = .ok (.aload_n 0, 1) := by decide +kernel
theorem dX6_pairCollidingAt_4 : decode cX6_pairCollidingAt 4 = .ok (.getfield 21, 3) := by decide +kernel
theorem dX6_pairCollidingAt_7 : decode cX6_pairCollidingAt 7 = .ok (.getfield 29, 3) := by decide +kernel
theorem dX6_pairCollidingAt_10 : decode cX6_pairCollidingAt 10 = .ok (.if_icmp .ge 21, 3) := by decide +kernel
theorem dX6_pairCollidingAt_13 : decode cX6_pairCollidingAt 13 = .ok (.aload_n 0, 1) := by decide +kernel
theorem dX6_pairCollidingAt_14 : decode cX6_pairCollidingAt 14 = .ok (.getfield 18, 3) := by decide +kernel
theorem dX6_pairCollidingAt_17 : decode cX6_pairCollidingAt 17 = .ok (.iload_n 2, 1) := by decide +kernel
theorem dX6_pairCollidingAt_18 : decode cX6_pairCollidingAt 18 = .ok (.aload_n 0, 1) := by decide +kernel
theorem dX6_pairCollidingAt_19 : decode cX6_pairCollidingAt 19 = .ok (.iload_n 2, 1) := by decide +kernel
theorem dX6_pairCollidingAt_20 : decode cX6_pairCollidingAt 20 = .ok (.iload_n 1, 1) := by decide +kernel
theorem dX6_pairCollidingAt_21 : decode cX6_pairCollidingAt 21 = .ok (.invokevirtual 53, 3) := by decide +kernel
theorem dX6_pairCollidingAt_24 : decode cX6_pairCollidingAt 24 = .ok (.iastore, 1) := by decide +kernel
theorem dX6_pairCollidingAt_25 : decode cX6_pairCollidingAt 25 = .ok (.iinc 2 1, 3) := by decide +kernel
theorem dX6_pairCollidingAt_28 : decode cX6_pairCollidingAt 28 = .ok (.goto (-26), 3) := by decide +kernel
theorem dX6_pairCollidingAt_31 : decode cX6_pairCollidingAt 31 = .ok (.iconst 0, 1) := by decide +kernel
theorem dX6_pairCollidingAt_32 : decode cX6_pairCollidingAt 32 = .ok (.istore_n 2, 1) := by decide +kernel
theorem dX6_pairCollidingAt_33 : decode cX6_pairCollidingAt 33 = .ok (.iload_n 2, 1) := by decide +kernel
theorem dX6_pairCollidingAt_34 : decode cX6_pairCollidingAt 34 = .ok (.aload_n 0, 1) := by decide +kernel
theorem dX6_pairCollidingAt_35 : decode cX6_pairCollidingAt 35 = .ok (.getfield 21, 3) := by decide +kernel
theorem dX6_pairCollidingAt_38 : decode cX6_pairCollidingAt 38 = .ok (.getfield 29, 3) := by decide +kernel
theorem dX6_pairCollidingAt_41 : decode cX6_pairCollidingAt 41 = .ok (.if_icmp .ge 77, 3) := by decide +kernel
theorem dX6_pairCollidingAt_44 : decode cX6_pairCollidingAt 44 = .ok (.iload_n 2, 1) := by decide +kernel
theorem dX6_pairCollidingAt_45 : decode cX6_pairCollidingAt 45 = .ok (.iconst 1, 1) := by decide +kernel
theorem dX6_pairCollidingAt_46 : decode cX6_pairCollidingAt 46 = .ok (.iadd, 1) := by decide +kernel
theorem dX6_pairCollidingAt_47 : decode cX6_pairCollidingAt 47 = .ok (.istore_n 3, 1) := by decide +kernel
theorem dX6_pairCollidingAt_48 : decode cX6_pairCollidingAt 48 = .ok (.iload_n 3, 1) := by decide +kernel
theorem dX6_pairCollidingAt_49 : decode cX6_pairCollidingAt 49 = .ok (.aload_n 0, 1) := by decide +kernel
theorem dX6_pairCollidingAt_50 : decode cX6_pairCollidingAt 50 = .ok (.getfield 21, 3) := by decide +kernel
theorem dX6_pairCollidingAt_53 : decode cX6_pairCollidingAt 53 = .ok (.getfield 29, 3) := by decide +kernel
theorem dX6_pairCollidingAt_56 : decode cX6_pairCollidingAt 56 = .ok (.if_icmp .ge 56, 3) := by decide +kernel
theorem dX6_pairCollidingAt_59 : decode cX6_pairCollidingAt 59 = .ok (.aload_n 0, 1) := by decide +kernel
theorem dX6_pairCollidingAt_60 : decode cX6_pairCollidingAt 60 = .ok (.getfield 25, 3) := by decide +kernel
theorem dX6_pairCollidingAt_63 : decode cX6_pairCollidingAt 63 = .ok (.iload_n 2, 1) := by decide +kernel
theorem dX6_pairCollidingAt_64 : decode cX6_pairCollidingAt 64 = .ok (.aaload, 1) := by decide +kernel
theorem dX6_pairCollidingAt_65 : decode cX6_pairCollidingAt 65 = .ok (.aload_n 0, 1) := by decide +kernel
theorem dX6_pairCollidingAt_66 : decode cX6_pairCollidingAt 66 = .ok (.getfield 25, 3) := by decide +kernel
theorem dX6_pairCollidingAt_69 : decode cX6_pairCollidingAt 69 = .ok (.iload_n 3, 1) := by decide +kernel
theorem dX6_pairCollidingAt_70 : decode cX6_pairCollidingAt 70 = .ok (.aaload, 1) := by decide +kernel
theorem dX6_pairCollidingAt_71 : decode cX6_pairCollidingAt 71 = .ok (.invokevirtual 73, 3) := by decide +kernel
theorem dX6_pairCollidingAt_74 : decode cX6_pairCollidingAt 74 = .ok (.ifCond .eq 32, 3) := by decide +kernel
theorem dX6_pairCollidingAt_77 : decode cX6_pairCollidingAt 77 = .ok (.aload_n 0, 1) := by decide +kernel
theorem dX6_pairCollidingAt_78 : decode cX6_pairCollidingAt 78 = .ok (.iload_n 2, 1) := by decide +kernel
theorem dX6_pairCollidingAt_79 : decode cX6_pairCollidingAt 79 = .ok (.iload_n 3, 1) := by decide +kernel
theorem dX6_pairCollidingAt_80 : decode cX6_pairCollidingAt 80 = .ok (.aload_n 0, 1) := by decide +kernel
theorem dX6_pairCollidingAt_81 : decode cX6_pairCollidingAt 81 = .ok (.getfield 18, 3) := by decide +kernel
theorem dX6_pairCollidingAt_84 : decode cX6_pairCollidingAt 84 = .ok (.iload_n 2, 1) := by decide +kernel
theorem dX6_pairCollidingAt_85 : decode cX6_pairCollidingAt 85 = .ok (.iaload, 1) := by decide +kernel
theorem dX6_pairCollidingAt_86 : decode cX6_pairCollidingAt 86 = .ok (.aload_n 0, 1) := by decide +kernel
theorem dX6_pairCollidingAt_87 : decode cX6_pairCollidingAt 87 = .ok (.getfield 18, 3) := by decide +kernel
theorem dX6_pairCollidingAt_90 : decode cX6_pairCollidingAt 90 = .ok (.iload_n 3, 1) := by decide +kernel
theorem dX6_pairCollidingAt_91 : decode cX6_pairCollidingAt 91 = .ok (.iaload, 1) := by decide +kernel
theorem dX6_pairCollidingAt_92 : decode cX6_pairCollidingAt 92 = .ok (.isub, 1) := by decide +kernel
theorem dX6_pairCollidingAt_93 : decode cX6_pairCollidingAt 93 = .ok (.invokevirtual 57, 3) := by decide +kernel
theorem dX6_pairCollidingAt_96 : decode cX6_pairCollidingAt 96 = .ok (.ifCond .ge 10, 3) := by decide +kernel
theorem dX6_pairCollidingAt_99 : decode cX6_pairCollidingAt 99 = .ok (.bipush 8, 2) := by decide +kernel
theorem dX6_pairCollidingAt_101 : decode cX6_pairCollidingAt 101 = .ok (.iload_n 2, 1) := by decide +kernel
theorem dX6_pairCollidingAt_102 : decode cX6_pairCollidingAt 102 = .ok (.imul, 1) := by decide +kernel
theorem dX6_pairCollidingAt_103 : decode cX6_pairCollidingAt 103 = .ok (.iload_n 3, 1) := by decide +kernel
theorem dX6_pairCollidingAt_104 : decode cX6_pairCollidingAt 104 = .ok (.iadd, 1) := by decide +kernel
theorem dX6_pairCollidingAt_105 : decode cX6_pairCollidingAt 105 = .ok (.ireturn, 1) := by decide +kernel
theorem dX6_pairCollidingAt_106 : decode cX6_pairCollidingAt 106 = .ok (.iinc 3 1, 3) := by decide +kernel
theorem dX6_pairCollidingAt_109 : decode cX6_pairCollidingAt 109 = .ok (.goto (-61), 3) := by decide +kernel
theorem dX6_pairCollidingAt_112 : decode cX6_pairCollidingAt 112 = .ok (.iinc 2 1, 3) := by decide +kernel
theorem dX6_pairCollidingAt_115 : decode cX6_pairCollidingAt 115 = .ok (.goto (-82), 3) := by decide +kernel
theorem dX6_pairCollidingAt_118 : decode cX6_pairCollidingAt 118 = .ok (.iconst (-1), 1) := by decide +kernel
theorem dX6_pairCollidingAt_119 : decode cX6_pairCollidingAt 119 = .ok (.ireturn, 1) := by decide +kernel
set_option maxRecDepth 20000 in
theorem bX6_pairCollidingAt_0 {G : Gx} {mm : Nat → Nat → Int32} {lm : Nat → Int64} {x1 : Int32} {o : Ou} {z : Wd} {a b : Nat} (hw : J G M_X6_pairCollidingAt 2 [(0, .ref 38), (1, .int x1), (2, .int 0)] [] (SH, mm, lm) false o z false a b) :
    J G M_X6_pairCollidingAt 0 [(0, .ref 38), (1, .int x1)] [] (SH, mm, lm) false o z false a b := by
  refine J_iconst (v := 0) (by decide) dX6_pairCollidingAt_0 ?_
  refine J_istore_n [(2, .int 0), (0, .ref 38), (1, .int x1)] rfl (i := 2) (by decide) rfl dX6_pairCollidingAt_1 ?_
  exact J_sub [1, 2, 0] rfl hw
set_option maxRecDepth 20000 in
theorem bX6_pairCollidingAt_2 {G : Gx} {mm : Nat → Nat → Int32} {lm : Nat → Int64} {x1 : Int32} {x2 : Int32} {o : Ou} {z : Wd} {a b : Nat} (hw : (((mm 4 9) ≤ x2) → J G M_X6_pairCollidingAt 33 [(0, .ref 38), (2, .int 0)] [] (SH, mm, lm) false o z false a b) ∧ ((¬ (mm 4 9) ≤ x2) → ∃ (v2 : Int32), Ct G M_X6_spotOf [.ref 38, .int x2, .int x1] (SH, mm, lm) false (.inl (some (.int v2))) (SH, mm, lm) false 0 0 ∧ ∃ j4 : Nat, x2 = nI j4 ∧ j4 < 8 ∧ J G M_X6_pairCollidingAt 2 [(0, .ref 38), (1, .int x1), (2, .int (x2 + 1))] [] (SH, (mset mm 41 j4 v2), lm) false o z false a b)) :
    J G M_X6_pairCollidingAt 2 [(0, .ref 38), (1, .int x1), (2, .int x2)] [] (SH, mm, lm) false o z false a b := by
  refine J_iload_n rfl (i := 2) rfl dX6_pairCollidingAt_2 ?_
  refine J_aload_n rfl (i := 0) rfl dX6_pairCollidingAt_3 ?_
  refine J_getr kls_6 (q := 38) (k := 0) sh_38 (by decide) rfl gw_348 dX6_pairCollidingAt_4 ?_
  refine J_geti kls_7 (q := 4) (k := 9) sh_4 (by decide) rfl gw_208 dX6_pairCollidingAt_7 ?_
  refine J_icmp_ge (tgt := 31) dX6_pairCollidingAt_10 (by decide) (fun hb5 => ?_) (fun hb5 => ?_)
  · replace hw := hw.1 hb5
    refine J_iconst (v := 0) (by decide) dX6_pairCollidingAt_31 ?_
    refine J_istore_n [(2, .int 0), (0, .ref 38), (1, .int x1)] rfl (i := 2) (by decide) rfl dX6_pairCollidingAt_32 ?_
    exact J_sub [1, 0] rfl hw
  · replace hw := hw.2 hb5
    refine J_aload_n rfl (i := 0) rfl dX6_pairCollidingAt_13 ?_
    refine J_getr kls_6 (q := 38) (k := 4) sh_38 (by decide) rfl gw_352 dX6_pairCollidingAt_14 ?_
    refine J_iload_n rfl (i := 2) rfl dX6_pairCollidingAt_17 ?_
    refine J_aload_n rfl (i := 0) rfl dX6_pairCollidingAt_18 ?_
    refine J_iload_n rfl (i := 2) rfl dX6_pairCollidingAt_19 ?_
    refine J_iload_n rfl (i := 1) rfl dX6_pairCollidingAt_20 ?_
    obtain ⟨v2, hc1, hw⟩ := hw
    refine J_callV (as := [.int x2, .int x1]) (k := 38) (st := [.int x2, .ref 41]) cal_X6_spotOf cai_X6_spotOf gw_1114 ⟨by decide, by decide⟩ cnt_X6_spotOf sh_38 rfl rfl (Nat.le_of_ble_eq_true rfl) dX6_pairCollidingAt_21 (Nat.zero_add _).symm (Nat.zero_add _).symm hc1 ?_
    obtain ⟨j4, ej4, hj4, hw⟩ := hw
    refine J_iast sh_41 ej4 hj4 (by decide) dX6_pairCollidingAt_24 ?_
    refine J_iinc [(2, .int (x2 + 1)), (0, .ref 38), (1, .int x1)] (i := 2) (v := (x2 + 1)) rfl rfl (by decide) rfl dX6_pairCollidingAt_25 ?_
    refine J_goto (tgt := 2) dX6_pairCollidingAt_28 (by decide) ?_
    exact J_sub [1, 2, 0] rfl hw
set_option maxRecDepth 20000 in
theorem bX6_pairCollidingAt_33 {G : Gx} {mm : Nat → Nat → Int32} {lm : Nat → Int64} {x2 : Int32} {o : Ou} {z : Wd} {a b : Nat} (hw : (((mm 4 9) ≤ x2) → o = .inl (some (.int (-1))) ∧ z = (SH, mm, lm)) ∧ ((¬ (mm 4 9) ≤ x2) → J G M_X6_pairCollidingAt 48 [(0, .ref 38), (2, .int x2), (3, .int (x2 + 1))] [] (SH, mm, lm) false o z false a b)) :
    J G M_X6_pairCollidingAt 33 [(0, .ref 38), (2, .int x2)] [] (SH, mm, lm) false o z false a b := by
  refine J_iload_n rfl (i := 2) rfl dX6_pairCollidingAt_33 ?_
  refine J_aload_n rfl (i := 0) rfl dX6_pairCollidingAt_34 ?_
  refine J_getr kls_6 (q := 38) (k := 0) sh_38 (by decide) rfl gw_348 dX6_pairCollidingAt_35 ?_
  refine J_geti kls_7 (q := 4) (k := 9) sh_4 (by decide) rfl gw_208 dX6_pairCollidingAt_38 ?_
  refine J_icmp_ge (tgt := 118) dX6_pairCollidingAt_41 (by decide) (fun hb1 => ?_) (fun hb1 => ?_)
  · replace hw := hw.1 hb1
    refine J_iconst (v := (-1)) (by decide) dX6_pairCollidingAt_118 ?_
    exact J_fini (ty := .int) rfl rfl dX6_pairCollidingAt_119 hw
  · replace hw := hw.2 hb1
    refine J_iload_n rfl (i := 2) rfl dX6_pairCollidingAt_44 ?_
    refine J_iconst (v := 1) (by decide) dX6_pairCollidingAt_45 ?_
    refine J_iadd dX6_pairCollidingAt_46 ?_
    refine J_istore_n [(3, .int (x2 + 1)), (0, .ref 38), (2, .int x2)] rfl (i := 3) (by decide) rfl dX6_pairCollidingAt_47 ?_
    exact J_sub [1, 2, 0] rfl hw
set_option maxRecDepth 20000 in
theorem bX6_pairCollidingAt_48 {G : Gx} {mm : Nat → Nat → Int32} {lm : Nat → Int64} {x2 : Int32} {x3 : Int32} {o : Ou} {z : Wd} {a b : Nat} (hw : (((mm 4 9) ≤ x3) → J G M_X6_pairCollidingAt 33 [(0, .ref 38), (2, .int (x2 + 1))] [] (SH, mm, lm) false o z false a b) ∧ ((¬ (mm 4 9) ≤ x3) → ∃ j1 : Nat, x2 = nI j1 ∧ j1 < 8 ∧ ∃ j2 : Nat, x3 = nI j2 ∧ j2 < 8 ∧ ∃ (v4 : Int32), Ct G M_X0_sharesBeamWith [.ref (23 + j1), .ref (23 + j2)] (SH, mm, lm) false (.inl (some (.int v4))) (SH, mm, lm) false 0 0 ∧ ((v4 = 0) → J G M_X6_pairCollidingAt 48 [(0, .ref 38), (2, .int x2), (3, .int (x3 + 1))] [] (SH, mm, lm) false o z false a b) ∧ ((¬ v4 = 0) → ∃ j6 : Nat, x2 = nI j6 ∧ j6 < 8 ∧ ∃ j7 : Nat, x3 = nI j7 ∧ j7 < 8 ∧ ∃ (v9 : Int32), Ct G M_X6_gapOfSpots [.ref 38, .int x2, .int x3, .int ((mm 41 j6) - (mm 41 j7))] (SH, mm, lm) false (.inl (some (.int v9))) (SH, mm, lm) false 0 0 ∧ ((0 ≤ v9) → J G M_X6_pairCollidingAt 48 [(0, .ref 38), (2, .int x2), (3, .int (x3 + 1))] [] (SH, mm, lm) false o z false a b) ∧ ((¬ 0 ≤ v9) → o = .inl (some (.int ((8 * x2) + x3))) ∧ z = (SH, mm, lm))))) :
    J G M_X6_pairCollidingAt 48 [(0, .ref 38), (2, .int x2), (3, .int x3)] [] (SH, mm, lm) false o z false a b := by
  refine J_iload_n rfl (i := 3) rfl dX6_pairCollidingAt_48 ?_
  refine J_aload_n rfl (i := 0) rfl dX6_pairCollidingAt_49 ?_
  refine J_getr kls_6 (q := 38) (k := 0) sh_38 (by decide) rfl gw_348 dX6_pairCollidingAt_50 ?_
  refine J_geti kls_7 (q := 4) (k := 9) sh_4 (by decide) rfl gw_208 dX6_pairCollidingAt_53 ?_
  refine J_icmp_ge (tgt := 112) dX6_pairCollidingAt_56 (by decide) (fun hb13 => ?_) (fun hb13 => ?_)
  · replace hw := hw.1 hb13
    refine J_iinc [(2, .int (x2 + 1)), (0, .ref 38), (3, .int x3)] (i := 2) (v := (x2 + 1)) rfl rfl (by decide) rfl dX6_pairCollidingAt_112 ?_
    refine J_goto (tgt := 33) dX6_pairCollidingAt_115 (by decide) ?_
    exact J_sub [1, 0] rfl hw
  · replace hw := hw.2 hb13
    refine J_aload_n rfl (i := 0) rfl dX6_pairCollidingAt_59 ?_
    refine J_getr kls_6 (q := 38) (k := 1) sh_38 (by decide) rfl gw_349 dX6_pairCollidingAt_60 ?_
    refine J_iload_n rfl (i := 2) rfl dX6_pairCollidingAt_63 ?_
    obtain ⟨j1, ej1, hj1, hw⟩ := hw
    refine J_aald (r := 23 + j1) sh_22 ej1 hj1 (by decide) (if_pos hj1) dX6_pairCollidingAt_64 ?_
    refine J_aload_n rfl (i := 0) rfl dX6_pairCollidingAt_65 ?_
    refine J_getr kls_6 (q := 38) (k := 1) sh_38 (by decide) rfl gw_349 dX6_pairCollidingAt_66 ?_
    refine J_iload_n rfl (i := 3) rfl dX6_pairCollidingAt_69 ?_
    obtain ⟨j2, ej2, hj2, hw⟩ := hw
    refine J_aald (r := 23 + j2) sh_22 ej2 hj2 (by decide) (if_pos hj2) dX6_pairCollidingAt_70 ?_
    obtain ⟨v4, hc3, hw⟩ := hw
    refine J_callV (as := [.ref (23 + j2)]) (k := (23 + j1)) (st := []) cal_X0_sharesBeamWith cai_X0_sharesBeamWith gw_1138 ⟨by decide, by decide⟩ cnt_X0_sharesBeamWith (sh_b23 hj1) rfl rfl (Nat.le_of_ble_eq_true rfl) dX6_pairCollidingAt_71 (Nat.zero_add _).symm (Nat.zero_add _).symm hc3 ?_
    refine J_if_eq (tgt := 106) dX6_pairCollidingAt_74 (by decide) (fun hb12 => ?_) (fun hb12 => ?_)
    · replace hw := hw.1 hb12
      refine J_iinc [(3, .int (x3 + 1)), (0, .ref 38), (2, .int x2)] (i := 3) (v := (x3 + 1)) rfl rfl (by decide) rfl dX6_pairCollidingAt_106 ?_
      refine J_goto (tgt := 48) dX6_pairCollidingAt_109 (by decide) ?_
      exact J_sub [1, 2, 0] rfl hw
    · replace hw := hw.2 hb12
      refine J_aload_n rfl (i := 0) rfl dX6_pairCollidingAt_77 ?_
      refine J_iload_n rfl (i := 2) rfl dX6_pairCollidingAt_78 ?_
      refine J_iload_n rfl (i := 3) rfl dX6_pairCollidingAt_79 ?_
      refine J_aload_n rfl (i := 0) rfl dX6_pairCollidingAt_80 ?_
      refine J_getr kls_6 (q := 38) (k := 4) sh_38 (by decide) rfl gw_352 dX6_pairCollidingAt_81 ?_
      refine J_iload_n rfl (i := 2) rfl dX6_pairCollidingAt_84 ?_
      obtain ⟨j6, ej6, hj6, hw⟩ := hw
      refine J_iald sh_41 ej6 hj6 (by decide) dX6_pairCollidingAt_85 ?_
      refine J_aload_n rfl (i := 0) rfl dX6_pairCollidingAt_86 ?_
      refine J_getr kls_6 (q := 38) (k := 4) sh_38 (by decide) rfl gw_352 dX6_pairCollidingAt_87 ?_
      refine J_iload_n rfl (i := 3) rfl dX6_pairCollidingAt_90 ?_
      obtain ⟨j7, ej7, hj7, hw⟩ := hw
      refine J_iald sh_41 ej7 hj7 (by decide) dX6_pairCollidingAt_91 ?_
      refine J_isub dX6_pairCollidingAt_92 ?_
      obtain ⟨v9, hc8, hw⟩ := hw
      refine J_callV (as := [.int x2, .int x3, .int ((mm 41 j6) - (mm 41 j7))]) (k := 38) (st := []) cal_X6_gapOfSpots cai_X6_gapOfSpots gw_1119 ⟨by decide, by decide⟩ cnt_X6_gapOfSpots sh_38 rfl rfl (Nat.le_of_ble_eq_true rfl) dX6_pairCollidingAt_93 (Nat.zero_add _).symm (Nat.zero_add _).symm hc8 ?_
      refine J_if_ge (tgt := 106) dX6_pairCollidingAt_96 (by decide) (fun hb11 => ?_) (fun hb11 => ?_)
      · replace hw := hw.1 hb11
        refine J_iinc [(3, .int (x3 + 1)), (0, .ref 38), (2, .int x2)] (i := 3) (v := (x3 + 1)) rfl rfl (by decide) rfl dX6_pairCollidingAt_106 ?_
        refine J_goto (tgt := 48) dX6_pairCollidingAt_109 (by decide) ?_
        exact J_sub [1, 2, 0] rfl hw
      · replace hw := hw.2 hb11
        refine J_bipush (v := 8) (by decide) dX6_pairCollidingAt_99 ?_
        refine J_iload_n rfl (i := 2) rfl dX6_pairCollidingAt_101 ?_
        refine J_imul dX6_pairCollidingAt_102 ?_
        refine J_iload_n rfl (i := 3) rfl dX6_pairCollidingAt_103 ?_
        refine J_iadd dX6_pairCollidingAt_104 ?_
        exact J_fini (ty := .int) rfl rfl dX6_pairCollidingAt_105 hw
theorem dX6_leastSafeStart_0 : decode cX6_leastSafeStart 0 = .ok (.aload_n 0, 1) := by decide +kernel
theorem dX6_leastSafeStart_1 : decode cX6_leastSafeStart 1 = .ok (.iload_n 1, 1) := by decide +kernel
theorem dX6_leastSafeStart_2 : decode cX6_leastSafeStart 2 = .ok (.invokevirtual 77, 3) := by decide +kernel
theorem dX6_leastSafeStart_5 : decode cX6_leastSafeStart 5 = .ok (.iconst 0, 1) := by decide +kernel
theorem dX6_leastSafeStart_6 : decode cX6_leastSafeStart 6 = .ok (.istore_n 3, 1) := by decide +kernel
theorem dX6_leastSafeStart_7 : decode cX6_leastSafeStart 7 = .ok (.iload_n 3, 1) := by decide +kernel
theorem dX6_leastSafeStart_8 : decode cX6_leastSafeStart 8 = .ok (.sipush 200, 3) := by decide +kernel
theorem dX6_leastSafeStart_11 : decode cX6_leastSafeStart 11 = .ok (.if_icmp .ge 21, 3) := by decide +kernel
theorem dX6_leastSafeStart_14 : decode cX6_leastSafeStart 14 = .ok (.aload_n 0, 1) := by decide +kernel
theorem dX6_leastSafeStart_15 : decode cX6_leastSafeStart 15 = .ok (.iload_n 1, 1) := by decide +kernel
theorem dX6_leastSafeStart_16 : decode cX6_leastSafeStart 16 = .ok (.iload_n 3, 1) := by decide +kernel
theorem dX6_leastSafeStart_17 : decode cX6_leastSafeStart 17 = .ok (.iload_n 2, 1) := by decide +kernel
theorem dX6_leastSafeStart_18 : decode cX6_leastSafeStart 18 = .ok (.invokevirtual 81, 3) := by decide +kernel
theorem dX6_leastSafeStart_21 : decode cX6_leastSafeStart 21 = .ok (.ifCond .eq 5, 3) := by decide +kernel
theorem dX6_leastSafeStart_24 : decode cX6_leastSafeStart 24 = .ok (.iload_n 3, 1) := by decide +kernel
theorem dX6_leastSafeStart_25 : decode cX6_leastSafeStart 25 = .ok (.ireturn, 1) := by decide +kernel
theorem dX6_leastSafeStart_26 : decode cX6_leastSafeStart 26 = .ok (.iinc 3 1, 3) := by decide +kernel
theorem dX6_leastSafeStart_29 : decode cX6_leastSafeStart 29 = .ok (.goto (-22), 3) := by decide +kernel
theorem dX6_leastSafeStart_32 : decode cX6_leastSafeStart 32 = .ok (.bipush (-3), 2) := by decide +kernel
theorem dX6_leastSafeStart_34 : decode cX6_leastSafeStart 34 = .ok (.ireturn, 1) := by decide +kernel
set_option maxRecDepth 20000 in
theorem bX6_leastSafeStart_0 {G : Gx} {mm : Nat → Nat → Int32} {lm : Nat → Int64} {x1 : Int32} {x2 : Int32} {o : Ou} {z : Wd} {a b : Nat} (hw : ∃ (m3 : Nat → Nat → Int32), Ct G M_X6_findRoom [.ref 38, .int x1] (SH, mm, lm) false (.inl none) (SH, m3, lm) false 0 0 ∧ J G M_X6_leastSafeStart 7 [(0, .ref 38), (1, .int x1), (2, .int x2), (3, .int 0)] [] (SH, m3, lm) false o z false a b) :
    J G M_X6_leastSafeStart 0 [(0, .ref 38), (1, .int x1), (2, .int x2)] [] (SH, mm, lm) false o z false a b := by
  refine J_aload_n rfl (i := 0) rfl dX6_leastSafeStart_0 ?_
  refine J_iload_n rfl (i := 1) rfl dX6_leastSafeStart_1 ?_
  obtain ⟨m3, hc1, hw⟩ := hw
  refine J_callV (as := [.int x1]) (k := 38) (st := []) cal_X6_findRoom cai_X6_findRoom gw_1158 ⟨by decide, by decide⟩ cnt_X6_findRoom sh_38 rfl rfl (Nat.le_of_ble_eq_true rfl) dX6_leastSafeStart_2 (Nat.zero_add _).symm (Nat.zero_add _).symm hc1 ?_
  refine J_iconst (v := 0) (by decide) dX6_leastSafeStart_5 ?_
  refine J_istore_n [(3, .int 0), (0, .ref 38), (1, .int x1), (2, .int x2)] rfl (i := 3) (by decide) rfl dX6_leastSafeStart_6 ?_
  exact J_sub [1, 2, 3, 0] rfl hw
set_option maxRecDepth 20000 in
theorem bX6_leastSafeStart_7 {G : Gx} {mm : Nat → Nat → Int32} {lm : Nat → Int64} {x1 : Int32} {x2 : Int32} {x3 : Int32} {o : Ou} {z : Wd} {a b : Nat} (hw : ((200 ≤ x3) → o = .inl (some (.int (-3))) ∧ z = (SH, mm, lm)) ∧ ((¬ 200 ≤ x3) → ∃ (v2 : Int32), Ct G M_X6_staysInRoom [.ref 38, .int x1, .int x3, .int x2] (SH, mm, lm) false (.inl (some (.int v2))) (SH, mm, lm) false 0 0 ∧ ((v2 = 0) → J G M_X6_leastSafeStart 7 [(0, .ref 38), (1, .int x1), (2, .int x2), (3, .int (x3 + 1))] [] (SH, mm, lm) false o z false a b) ∧ ((¬ v2 = 0) → o = .inl (some (.int x3)) ∧ z = (SH, mm, lm)))) :
    J G M_X6_leastSafeStart 7 [(0, .ref 38), (1, .int x1), (2, .int x2), (3, .int x3)] [] (SH, mm, lm) false o z false a b := by
  refine J_iload_n rfl (i := 3) rfl dX6_leastSafeStart_7 ?_
  refine J_sipush (v := 200) (by decide) dX6_leastSafeStart_8 ?_
  refine J_icmp_ge (tgt := 32) dX6_leastSafeStart_11 (by decide) (fun hb5 => ?_) (fun hb5 => ?_)
  · replace hw := hw.1 hb5
    refine J_bipush (v := (-3)) (by decide) dX6_leastSafeStart_32 ?_
    exact J_fini (ty := .int) rfl rfl dX6_leastSafeStart_34 hw
  · replace hw := hw.2 hb5
    refine J_aload_n rfl (i := 0) rfl dX6_leastSafeStart_14 ?_
    refine J_iload_n rfl (i := 1) rfl dX6_leastSafeStart_15 ?_
    refine J_iload_n rfl (i := 3) rfl dX6_leastSafeStart_16 ?_
    refine J_iload_n rfl (i := 2) rfl dX6_leastSafeStart_17 ?_
    obtain ⟨v2, hc1, hw⟩ := hw
    refine J_callV (as := [.int x1, .int x3, .int x2]) (k := 38) (st := []) cal_X6_staysInRoom cai_X6_staysInRoom gw_1168 ⟨by decide, by decide⟩ cnt_X6_staysInRoom sh_38 rfl rfl (Nat.le_of_ble_eq_true rfl) dX6_leastSafeStart_18 (Nat.zero_add _).symm (Nat.zero_add _).symm hc1 ?_
    refine J_if_eq (tgt := 26) dX6_leastSafeStart_21 (by decide) (fun hb4 => ?_) (fun hb4 => ?_)
    · replace hw := hw.1 hb4
      refine J_iinc [(3, .int (x3 + 1)), (0, .ref 38), (1, .int x1), (2, .int x2)] (i := 3) (v := (x3 + 1)) rfl rfl (by decide) rfl dX6_leastSafeStart_26 ?_
      refine J_goto (tgt := 7) dX6_leastSafeStart_29 (by decide) ?_
      exact J_sub [1, 2, 3, 0] rfl hw
    · replace hw := hw.2 hb4
      refine J_iload_n rfl (i := 3) rfl dX6_leastSafeStart_24 ?_
      exact J_fini (ty := .int) rfl rfl dX6_leastSafeStart_25 hw
theorem dX6_greatestSafeAmplitude_0 : decode cX6_greatestSafeAmplitude 0 = .ok (.aload_n 0, 1) := by decide +kernel
theorem dX6_greatestSafeAmplitude_1 : decode cX6_greatestSafeAmplitude 1 = .ok (.iload_n 1, 1) := by decide +kernel
theorem dX6_greatestSafeAmplitude_2 : decode cX6_greatestSafeAmplitude 2 = .ok (.invokevirtual 77, 3) := by decide +kernel
theorem dX6_greatestSafeAmplitude_5 : decode cX6_greatestSafeAmplitude 5 = .ok (.bipush 15, 2) := by decide +kernel
theorem dX6_greatestSafeAmplitude_7 : decode cX6_greatestSafeAmplitude 7 = .ok (.istore_n 2, 1) := by decide +kernel
theorem dX6_greatestSafeAmplitude_8 : decode cX6_greatestSafeAmplitude 8 = .ok (.iload_n 2, 1) := by decide +kernel
theorem dX6_greatestSafeAmplitude_9 : decode cX6_greatestSafeAmplitude 9 = .ok (.ifCond .lt 29, 3) := by decide +kernel
theorem dX6_greatestSafeAmplitude_12 : decode cX6_greatestSafeAmplitude 12 = .ok (.aload_n 0, 1) := by decide +kernel
theorem dX6_greatestSafeAmplitude_13 : decode cX6_greatestSafeAmplitude 13 = .ok (.iload_n 1, 1) := by decide +kernel
theorem dX6_greatestSafeAmplitude_14 : decode cX6_greatestSafeAmplitude 14 = .ok (.aload_n 0, 1) := by decide +kernel
theorem dX6_greatestSafeAmplitude_15 : decode cX6_greatestSafeAmplitude 15 = .ok (.getfield 25, 3) := by decide +kernel
theorem dX6_greatestSafeAmplitude_18 : decode cX6_greatestSafeAmplitude 18 = .ok (.iload_n 1, 1) := by decide +kernel
theorem dX6_greatestSafeAmplitude_19 : decode cX6_greatestSafeAmplitude 19 = .ok (.aaload, 1) := by decide +kernel
theorem dX6_greatestSafeAmplitude_20 : decode cX6_greatestSafeAmplitude 20 = .ok (.getfield 43, 3) := by decide +kernel
theorem dX6_greatestSafeAmplitude_23 : decode cX6_greatestSafeAmplitude 23 = .ok (.iload_n 2, 1) := by decide +kernel
theorem dX6_greatestSafeAmplitude_24 : decode cX6_greatestSafeAmplitude 24 = .ok (.invokevirtual 81, 3) := by decide +kernel
theorem dX6_greatestSafeAmplitude_27 : decode cX6_greatestSafeAmplitude 27 = .ok (.ifCond .eq 5, 3) := by decide +kernel
theorem dX6_greatestSafeAmplitude_30 : decode cX6_greatestSafeAmplitude 30 = .ok (.iload_n 2, 1) := by decide +kernel
theorem dX6_greatestSafeAmplitude_31 : decode cX6_greatestSafeAmplitude 31 = .ok (.ireturn, 1) := by decide +kernel
theorem dX6_greatestSafeAmplitude_32 : decode cX6_greatestSafeAmplitude 32 = .ok (.iinc 2 (-1), 3) := by decide +kernel
theorem dX6_greatestSafeAmplitude_35 : decode cX6_greatestSafeAmplitude 35 = .ok (.goto (-27), 3) := by decide +kernel
theorem dX6_greatestSafeAmplitude_38 : decode cX6_greatestSafeAmplitude 38 = .ok (.bipush (-3), 2) := by decide +kernel
theorem dX6_greatestSafeAmplitude_40 : decode cX6_greatestSafeAmplitude 40 = .ok (.ireturn, 1) := by decide +kernel
set_option maxRecDepth 20000 in
theorem bX6_greatestSafeAmplitude_0 {G : Gx} {mm : Nat → Nat → Int32} {lm : Nat → Int64} {x1 : Int32} {o : Ou} {z : Wd} {a b : Nat} (hw : ∃ (m3 : Nat → Nat → Int32), Ct G M_X6_findRoom [.ref 38, .int x1] (SH, mm, lm) false (.inl none) (SH, m3, lm) false 0 0 ∧ J G M_X6_greatestSafeAmplitude 8 [(0, .ref 38), (1, .int x1), (2, .int 15)] [] (SH, m3, lm) false o z false a b) :
    J G M_X6_greatestSafeAmplitude 0 [(0, .ref 38), (1, .int x1)] [] (SH, mm, lm) false o z false a b := by
  refine J_aload_n rfl (i := 0) rfl dX6_greatestSafeAmplitude_0 ?_
  refine J_iload_n rfl (i := 1) rfl dX6_greatestSafeAmplitude_1 ?_
  obtain ⟨m3, hc1, hw⟩ := hw
  refine J_callV (as := [.int x1]) (k := 38) (st := []) cal_X6_findRoom cai_X6_findRoom gw_1158 ⟨by decide, by decide⟩ cnt_X6_findRoom sh_38 rfl rfl (Nat.le_of_ble_eq_true rfl) dX6_greatestSafeAmplitude_2 (Nat.zero_add _).symm (Nat.zero_add _).symm hc1 ?_
  refine J_bipush (v := 15) (by decide) dX6_greatestSafeAmplitude_5 ?_
  refine J_istore_n [(2, .int 15), (0, .ref 38), (1, .int x1)] rfl (i := 2) (by decide) rfl dX6_greatestSafeAmplitude_7 ?_
  exact J_sub [1, 2, 0] rfl hw
set_option maxRecDepth 20000 in
theorem bX6_greatestSafeAmplitude_8 {G : Gx} {mm : Nat → Nat → Int32} {lm : Nat → Int64} {x1 : Int32} {x2 : Int32} {o : Ou} {z : Wd} {a b : Nat} (hw : ((x2 < 0) → o = .inl (some (.int (-3))) ∧ z = (SH, mm, lm)) ∧ ((¬ x2 < 0) → ∃ j1 : Nat, x1 = nI j1 ∧ j1 < 8 ∧ ∃ (v3 : Int32), Ct G M_X6_staysInRoom [.ref 38, .int x1, .int (mm (23 + j1) 4), .int x2] (SH, mm, lm) false (.inl (some (.int v3))) (SH, mm, lm) false 0 0 ∧ ((v3 = 0) → J G M_X6_greatestSafeAmplitude 8 [(0, .ref 38), (1, .int x1), (2, .int (x2 + (-1)))] [] (SH, mm, lm) false o z false a b) ∧ ((¬ v3 = 0) → o = .inl (some (.int x2)) ∧ z = (SH, mm, lm)))) :
    J G M_X6_greatestSafeAmplitude 8 [(0, .ref 38), (1, .int x1), (2, .int x2)] [] (SH, mm, lm) false o z false a b := by
  refine J_iload_n rfl (i := 2) rfl dX6_greatestSafeAmplitude_8 ?_
  refine J_if_lt (tgt := 38) dX6_greatestSafeAmplitude_9 (by decide) (fun hb6 => ?_) (fun hb6 => ?_)
  · replace hw := hw.1 hb6
    refine J_bipush (v := (-3)) (by decide) dX6_greatestSafeAmplitude_38 ?_
    exact J_fini (ty := .int) rfl rfl dX6_greatestSafeAmplitude_40 hw
  · replace hw := hw.2 hb6
    refine J_aload_n rfl (i := 0) rfl dX6_greatestSafeAmplitude_12 ?_
    refine J_iload_n rfl (i := 1) rfl dX6_greatestSafeAmplitude_13 ?_
    refine J_aload_n rfl (i := 0) rfl dX6_greatestSafeAmplitude_14 ?_
    refine J_getr kls_6 (q := 38) (k := 1) sh_38 (by decide) rfl gw_349 dX6_greatestSafeAmplitude_15 ?_
    refine J_iload_n rfl (i := 1) rfl dX6_greatestSafeAmplitude_18 ?_
    obtain ⟨j1, ej1, hj1, hw⟩ := hw
    refine J_aald (r := 23 + j1) sh_22 ej1 hj1 (by decide) (if_pos hj1) dX6_greatestSafeAmplitude_19 ?_
    refine J_geti kls_0 (q := (23 + j1)) (k := 4) (sh_b23 hj1) (by decide) rfl gw_267 dX6_greatestSafeAmplitude_20 ?_
    refine J_iload_n rfl (i := 2) rfl dX6_greatestSafeAmplitude_23 ?_
    obtain ⟨v3, hc2, hw⟩ := hw
    refine J_callV (as := [.int x1, .int (mm (23 + j1) 4), .int x2]) (k := 38) (st := []) cal_X6_staysInRoom cai_X6_staysInRoom gw_1168 ⟨by decide, by decide⟩ cnt_X6_staysInRoom sh_38 rfl rfl (Nat.le_of_ble_eq_true rfl) dX6_greatestSafeAmplitude_24 (Nat.zero_add _).symm (Nat.zero_add _).symm hc2 ?_
    refine J_if_eq (tgt := 32) dX6_greatestSafeAmplitude_27 (by decide) (fun hb5 => ?_) (fun hb5 => ?_)
    · replace hw := hw.1 hb5
      refine J_iinc [(2, .int (x2 + (-1))), (0, .ref 38), (1, .int x1)] (i := 2) (v := (x2 + (-1))) rfl (congrArg (fun y => x2 + y) (by decide : Int32.ofInt (-1) = (-1))) (by decide) rfl dX6_greatestSafeAmplitude_32 ?_
      refine J_goto (tgt := 8) dX6_greatestSafeAmplitude_35 (by decide) ?_
      exact J_sub [1, 2, 0] rfl hw
    · replace hw := hw.2 hb5
      refine J_iload_n rfl (i := 2) rfl dX6_greatestSafeAmplitude_30 ?_
      exact J_fini (ty := .int) rfl rfl dX6_greatestSafeAmplitude_31 hw
theorem dX6_findRoom_0 : decode cX6_findRoom 0 = .ok (.iconst 0, 1) := by decide +kernel
theorem dX6_findRoom_1 : decode cX6_findRoom 1 = .ok (.istore_n 2, 1) := by decide +kernel
theorem dX6_findRoom_2 : decode cX6_findRoom 2 = .ok (.iload_n 2, 1) := by decide +kernel
theorem dX6_findRoom_3 : decode cX6_findRoom 3 = .ok (.sipush 1000, 3) := by decide +kernel
theorem dX6_findRoom_6 : decode cX6_findRoom 6 = .ok (.if_icmp .ge 27, 3) := by decide +kernel
theorem dX6_findRoom_9 : decode cX6_findRoom 9 = .ok (.aload_n 0, 1) := by decide +kernel
theorem dX6_findRoom_10 : decode cX6_findRoom 10 = .ok (.getfield 9, 3) := by decide +kernel
theorem dX6_findRoom_13 : decode cX6_findRoom 13 = .ok (.iload_n 2, 1) := by decide +kernel
theorem dX6_findRoom_14 : decode cX6_findRoom 14 = .ok (.sipush (-1000), 3) := by decide +kernel
theorem dX6_findRoom_17 : decode cX6_findRoom 17 = .ok (.iastore, 1) := by decide +kernel
theorem dX6_findRoom_18 : decode cX6_findRoom 18 = .ok (.aload_n 0, 1) := by decide +kernel
theorem dX6_findRoom_19 : decode cX6_findRoom 19 = .ok (.getfield 15, 3) := by decide +kernel
theorem dX6_findRoom_22 : decode cX6_findRoom 22 = .ok (.iload_n 2, 1) := by decide +kernel
theorem dX6_findRoom_23 : decode cX6_findRoom 23 = .ok (.sipush 1000, 3) := by decide +kernel
theorem dX6_findRoom_26 : decode cX6_findRoom 26 = .ok (.iastore, 1) := by decide +kernel
theorem dX6_findRoom_27 : decode cX6_findRoom 27 = .ok (.iinc 2 1, 3) := by decide +kernel
theorem dX6_findRoom_30 : decode cX6_findRoom 30 = .ok (.goto (-28), 3) := by decide +kernel
theorem dX6_findRoom_33 : decode cX6_findRoom 33 = .ok (.iconst 0, 1) := by decide +kernel
theorem dX6_findRoom_34 : decode cX6_findRoom 34 = .ok (.istore_n 2, 1) := by decide +kernel
theorem dX6_findRoom_35 : decode cX6_findRoom 35 = .ok (.iload_n 2, 1) := by decide +kernel
theorem dX6_findRoom_36 : decode cX6_findRoom 36 = .ok (.aload_n 0, 1) := by decide +kernel
theorem dX6_findRoom_37 : decode cX6_findRoom 37 = .ok (.getfield 21, 3) := by decide +kernel
theorem dX6_findRoom_40 : decode cX6_findRoom 40 = .ok (.getfield 29, 3) := by decide +kernel
theorem dX6_findRoom_43 : decode cX6_findRoom 43 = .ok (.if_icmp .ge 38, 3) := by decide +kernel
theorem dX6_findRoom_46 : decode cX6_findRoom 46 = .ok (.iload_n 2, 1) := by decide +kernel
theorem dX6_findRoom_47 : decode cX6_findRoom 47 = .ok (.iload_n 1, 1) := by decide +kernel
theorem dX6_findRoom_48 : decode cX6_findRoom 48 = .ok (.if_icmp .eq 27, 3) := by decide +kernel
theorem dX6_findRoom_51 : decode cX6_findRoom 51 = .ok (.aload_n 0, 1) := by decide +kernel
theorem dX6_findRoom_52 : decode cX6_findRoom 52 = .ok (.getfield 25, 3) := by decide +kernel
theorem dX6_findRoom_55 : decode cX6_findRoom 55 = .ok (.iload_n 2, 1) := by decide +kernel
theorem dX6_findRoom_56 : decode cX6_findRoom 56 = .ok (.aaload, 1) := by decide +kernel
theorem dX6_findRoom_57 : decode cX6_findRoom 57 = .ok (.aload_n 0, 1) := by decide +kernel
theorem dX6_findRoom_58 : decode cX6_findRoom 58 = .ok (.getfield 25, 3) := by decide +kernel
theorem dX6_findRoom_61 : decode cX6_findRoom 61 = .ok (.iload_n 1, 1) := by decide +kernel
theorem dX6_findRoom_62 : decode cX6_findRoom 62 = .ok (.aaload, 1) := by decide +kernel
theorem dX6_findRoom_63 : decode cX6_findRoom 63 = .ok (.invokevirtual 73, 3) := by decide +kernel
theorem dX6_findRoom_66 : decode cX6_findRoom 66 = .ok (.ifCond .eq 9, 3) := by decide +kernel
theorem dX6_findRoom_69 : decode cX6_findRoom 69 = .ok (.aload_n 0, 1) := by decide +kernel
theorem dX6_findRoom_70 : decode cX6_findRoom 70 = .ok (.iload_n 1, 1) := by decide +kernel
theorem dX6_findRoom_71 : decode cX6_findRoom 71 = .ok (.iload_n 2, 1) := by decide +kernel
theorem dX6_findRoom_72 : decode cX6_findRoom 72 = .ok (.invokevirtual 85, 3) := by decide +kernel
theorem dX6_findRoom_75 : decode cX6_findRoom 75 = .ok (.iinc 2 1, 3) := by decide +kernel
theorem dX6_findRoom_78 : decode cX6_findRoom 78 = .ok (.goto (-43), 3) := by decide +kernel
theorem dX6_findRoom_81 : decode cX6_findRoom 81 = .ok (.return_, 1) := by decide +kernel
set_option maxRecDepth 20000 in
theorem bX6_findRoom_0 {G : Gx} {mm : Nat → Nat → Int32} {lm : Nat → Int64} {x1 : Int32} {o : Ou} {z : Wd} {a b : Nat} (hw : J G M_X6_findRoom 2 [(0, .ref 38), (1, .int x1), (2, .int 0)] [] (SH, mm, lm) false o z false a b) :
    J G M_X6_findRoom 0 [(0, .ref 38), (1, .int x1)] [] (SH, mm, lm) false o z false a b := by
  refine J_iconst (v := 0) (by decide) dX6_findRoom_0 ?_
  refine J_istore_n [(2, .int 0), (0, .ref 38), (1, .int x1)] rfl (i := 2) (by decide) rfl dX6_findRoom_1 ?_
  exact J_sub [1, 2, 0] rfl hw
set_option maxRecDepth 20000 in
theorem bX6_findRoom_2 {G : Gx} {mm : Nat → Nat → Int32} {lm : Nat → Int64} {x1 : Int32} {x2 : Int32} {o : Ou} {z : Wd} {a b : Nat} (hw : ((1000 ≤ x2) → J G M_X6_findRoom 35 [(0, .ref 38), (1, .int x1), (2, .int 0)] [] (SH, mm, lm) false o z false a b) ∧ ((¬ 1000 ≤ x2) → ∃ j1 : Nat, x2 = nI j1 ∧ j1 < 1000 ∧ ∃ j2 : Nat, x2 = nI j2 ∧ j2 < 1000 ∧ J G M_X6_findRoom 2 [(0, .ref 38), (1, .int x1), (2, .int (x2 + 1))] [] (SH, (mset (mset mm 39 j1 (-1000)) 40 j2 1000), lm) false o z false a b)) :
    J G M_X6_findRoom 2 [(0, .ref 38), (1, .int x1), (2, .int x2)] [] (SH, mm, lm) false o z false a b := by
  refine J_iload_n rfl (i := 2) rfl dX6_findRoom_2 ?_
  refine J_sipush (v := 1000) (by decide) dX6_findRoom_3 ?_
  refine J_icmp_ge (tgt := 33) dX6_findRoom_6 (by decide) (fun hb3 => ?_) (fun hb3 => ?_)
  · replace hw := hw.1 hb3
    refine J_iconst (v := 0) (by decide) dX6_findRoom_33 ?_
    refine J_istore_n [(2, .int 0), (0, .ref 38), (1, .int x1)] rfl (i := 2) (by decide) rfl dX6_findRoom_34 ?_
    exact J_sub [1, 2, 0] rfl hw
  · replace hw := hw.2 hb3
    refine J_aload_n rfl (i := 0) rfl dX6_findRoom_9 ?_
    refine J_getr kls_6 (q := 38) (k := 2) sh_38 (by decide) rfl gw_350 dX6_findRoom_10 ?_
    refine J_iload_n rfl (i := 2) rfl dX6_findRoom_13 ?_
    refine J_sipush (v := (-1000)) (by decide) dX6_findRoom_14 ?_
    obtain ⟨j1, ej1, hj1, hw⟩ := hw
    refine J_iast sh_39 ej1 hj1 (by decide) dX6_findRoom_17 ?_
    refine J_aload_n rfl (i := 0) rfl dX6_findRoom_18 ?_
    refine J_getr kls_6 (q := 38) (k := 3) sh_38 (by decide) rfl gw_351 dX6_findRoom_19 ?_
    refine J_iload_n rfl (i := 2) rfl dX6_findRoom_22 ?_
    refine J_sipush (v := 1000) (by decide) dX6_findRoom_23 ?_
    obtain ⟨j2, ej2, hj2, hw⟩ := hw
    refine J_iast sh_40 ej2 hj2 (by decide) dX6_findRoom_26 ?_
    refine J_iinc [(2, .int (x2 + 1)), (0, .ref 38), (1, .int x1)] (i := 2) (v := (x2 + 1)) rfl rfl (by decide) rfl dX6_findRoom_27 ?_
    refine J_goto (tgt := 2) dX6_findRoom_30 (by decide) ?_
    exact J_sub [1, 2, 0] rfl hw
set_option maxRecDepth 20000 in
theorem bX6_findRoom_35 {G : Gx} {mm : Nat → Nat → Int32} {lm : Nat → Int64} {x1 : Int32} {x2 : Int32} {o : Ou} {z : Wd} {a b : Nat} (hw : (((mm 4 9) ≤ x2) → o = .inl none ∧ z = (SH, mm, lm)) ∧ ((¬ (mm 4 9) ≤ x2) → ((x2 = x1) → J G M_X6_findRoom 35 [(0, .ref 38), (1, .int x1), (2, .int (x2 + 1))] [] (SH, mm, lm) false o z false a b) ∧ ((¬ x2 = x1) → ∃ j1 : Nat, x2 = nI j1 ∧ j1 < 8 ∧ ∃ j2 : Nat, x1 = nI j2 ∧ j2 < 8 ∧ ∃ (v4 : Int32), Ct G M_X0_sharesBeamWith [.ref (23 + j1), .ref (23 + j2)] (SH, mm, lm) false (.inl (some (.int v4))) (SH, mm, lm) false 0 0 ∧ ((v4 = 0) → J G M_X6_findRoom 35 [(0, .ref 38), (1, .int x1), (2, .int (x2 + 1))] [] (SH, mm, lm) false o z false a b) ∧ ((¬ v4 = 0) → ∃ (m8 : Nat → Nat → Int32), Ct G M_X6_narrowRoom [.ref 38, .int x1, .int x2] (SH, mm, lm) false (.inl none) (SH, m8, lm) false 0 0 ∧ J G M_X6_findRoom 35 [(0, .ref 38), (1, .int x1), (2, .int (x2 + 1))] [] (SH, m8, lm) false o z false a b)))) :
    J G M_X6_findRoom 35 [(0, .ref 38), (1, .int x1), (2, .int x2)] [] (SH, mm, lm) false o z false a b := by
  refine J_iload_n rfl (i := 2) rfl dX6_findRoom_35 ?_
  refine J_aload_n rfl (i := 0) rfl dX6_findRoom_36 ?_
  refine J_getr kls_6 (q := 38) (k := 0) sh_38 (by decide) rfl gw_348 dX6_findRoom_37 ?_
  refine J_geti kls_7 (q := 4) (k := 9) sh_4 (by decide) rfl gw_208 dX6_findRoom_40 ?_
  refine J_icmp_ge (tgt := 81) dX6_findRoom_43 (by decide) (fun hb11 => ?_) (fun hb11 => ?_)
  · replace hw := hw.1 hb11
    exact J_finv rfl dX6_findRoom_81 hw
  · replace hw := hw.2 hb11
    refine J_iload_n rfl (i := 2) rfl dX6_findRoom_46 ?_
    refine J_iload_n rfl (i := 1) rfl dX6_findRoom_47 ?_
    refine J_icmp_eq (tgt := 75) dX6_findRoom_48 (by decide) (fun hb10 => ?_) (fun hb10 => ?_)
    · replace hw := hw.1 hb10
      refine J_iinc [(2, .int (x2 + 1)), (0, .ref 38), (1, .int x1)] (i := 2) (v := (x2 + 1)) rfl rfl (by decide) rfl dX6_findRoom_75 ?_
      refine J_goto (tgt := 35) dX6_findRoom_78 (by decide) ?_
      exact J_sub [1, 2, 0] rfl hw
    · replace hw := hw.2 hb10
      refine J_aload_n rfl (i := 0) rfl dX6_findRoom_51 ?_
      refine J_getr kls_6 (q := 38) (k := 1) sh_38 (by decide) rfl gw_349 dX6_findRoom_52 ?_
      refine J_iload_n rfl (i := 2) rfl dX6_findRoom_55 ?_
      obtain ⟨j1, ej1, hj1, hw⟩ := hw
      refine J_aald (r := 23 + j1) sh_22 ej1 hj1 (by decide) (if_pos hj1) dX6_findRoom_56 ?_
      refine J_aload_n rfl (i := 0) rfl dX6_findRoom_57 ?_
      refine J_getr kls_6 (q := 38) (k := 1) sh_38 (by decide) rfl gw_349 dX6_findRoom_58 ?_
      refine J_iload_n rfl (i := 1) rfl dX6_findRoom_61 ?_
      obtain ⟨j2, ej2, hj2, hw⟩ := hw
      refine J_aald (r := 23 + j2) sh_22 ej2 hj2 (by decide) (if_pos hj2) dX6_findRoom_62 ?_
      obtain ⟨v4, hc3, hw⟩ := hw
      refine J_callV (as := [.ref (23 + j2)]) (k := (23 + j1)) (st := []) cal_X0_sharesBeamWith cai_X0_sharesBeamWith gw_1138 ⟨by decide, by decide⟩ cnt_X0_sharesBeamWith (sh_b23 hj1) rfl rfl (Nat.le_of_ble_eq_true rfl) dX6_findRoom_63 (Nat.zero_add _).symm (Nat.zero_add _).symm hc3 ?_
      refine J_if_eq (tgt := 75) dX6_findRoom_66 (by decide) (fun hb9 => ?_) (fun hb9 => ?_)
      · replace hw := hw.1 hb9
        refine J_iinc [(2, .int (x2 + 1)), (0, .ref 38), (1, .int x1)] (i := 2) (v := (x2 + 1)) rfl rfl (by decide) rfl dX6_findRoom_75 ?_
        refine J_goto (tgt := 35) dX6_findRoom_78 (by decide) ?_
        exact J_sub [1, 2, 0] rfl hw
      · replace hw := hw.2 hb9
        refine J_aload_n rfl (i := 0) rfl dX6_findRoom_69 ?_
        refine J_iload_n rfl (i := 1) rfl dX6_findRoom_70 ?_
        refine J_iload_n rfl (i := 2) rfl dX6_findRoom_71 ?_
        obtain ⟨m8, hc6, hw⟩ := hw
        refine J_callV (as := [.int x1, .int x2]) (k := 38) (st := []) cal_X6_narrowRoom cai_X6_narrowRoom gw_1162 ⟨by decide, by decide⟩ cnt_X6_narrowRoom sh_38 rfl rfl (Nat.le_of_ble_eq_true rfl) dX6_findRoom_72 (Nat.zero_add _).symm (Nat.zero_add _).symm hc6 ?_
        refine J_iinc [(2, .int (x2 + 1)), (0, .ref 38), (1, .int x1)] (i := 2) (v := (x2 + 1)) rfl rfl (by decide) rfl dX6_findRoom_75 ?_
        refine J_goto (tgt := 35) dX6_findRoom_78 (by decide) ?_
        exact J_sub [1, 2, 0] rfl hw
theorem dX6_narrowRoom_0 : decode cX6_narrowRoom 0 = .ok (.aload_n 0, 1) := by decide +kernel
theorem dX6_narrowRoom_1 : decode cX6_narrowRoom 1 = .ok (.getfield 25, 3) := by decide +kernel
theorem dX6_narrowRoom_4 : decode cX6_narrowRoom 4 = .ok (.iload_n 1, 1) := by decide +kernel
theorem dX6_narrowRoom_5 : decode cX6_narrowRoom 5 = .ok (.aaload, 1) := by decide +kernel
theorem dX6_narrowRoom_6 : decode cX6_narrowRoom 6 = .ok (.getfield 60, 3) := by decide +kernel
theorem dX6_narrowRoom_9 : decode cX6_narrowRoom 9 = .ok (.istore_n 3, 1) := by decide +kernel
theorem dX6_narrowRoom_10 : decode cX6_narrowRoom 10 = .ok (.aload_n 0, 1) := by decide +kernel
theorem dX6_narrowRoom_11 : decode cX6_narrowRoom 11 = .ok (.getfield 21, 3) := by decide +kernel
theorem dX6_narrowRoom_14 : decode cX6_narrowRoom 14 = .ok (.getfield 63, 3) := by decide +kernel
theorem dX6_narrowRoom_17 : decode cX6_narrowRoom 17 = .ok (.iload_n 1, 1) := by decide +kernel
theorem dX6_narrowRoom_18 : decode cX6_narrowRoom 18 = .ok (.iaload, 1) := by decide +kernel
theorem dX6_narrowRoom_19 : decode cX6_narrowRoom 19 = .ok (.aload_n 0, 1) := by decide +kernel
theorem dX6_narrowRoom_20 : decode cX6_narrowRoom 20 = .ok (.getfield 21, 3) := by decide +kernel
theorem dX6_narrowRoom_23 : decode cX6_narrowRoom 23 = .ok (.getfield 63, 3) := by decide +kernel
theorem dX6_narrowRoom_26 : decode cX6_narrowRoom 26 = .ok (.iload_n 2, 1) := by decide +kernel
theorem dX6_narrowRoom_27 : decode cX6_narrowRoom 27 = .ok (.iaload, 1) := by decide +kernel
theorem dX6_narrowRoom_28 : decode cX6_narrowRoom 28 = .ok (.iadd, 1) := by decide +kernel
theorem dX6_narrowRoom_29 : decode cX6_narrowRoom 29 = .ok (.istore 4, 2) := by decide +kernel
theorem dX6_narrowRoom_31 : decode cX6_narrowRoom 31 = .ok (.aload_n 0, 1) := by decide +kernel
theorem dX6_narrowRoom_32 : decode cX6_narrowRoom 32 = .ok (.getfield 25, 3) := by decide +kernel
theorem dX6_narrowRoom_35 : decode cX6_narrowRoom 35 = .ok (.iload_n 2, 1) := by decide +kernel
theorem dX6_narrowRoom_36 : decode cX6_narrowRoom 36 = .ok (.aaload, 1) := by decide +kernel
theorem dX6_narrowRoom_37 : decode cX6_narrowRoom 37 = .ok (.getfield 60, 3) := by decide +kernel
theorem dX6_narrowRoom_40 : decode cX6_narrowRoom 40 = .ok (.iload_n 3, 1) := by decide +kernel
theorem dX6_narrowRoom_41 : decode cX6_narrowRoom 41 = .ok (.if_icmp .ge 7, 3) := by decide +kernel
theorem dX6_narrowRoom_44 : decode cX6_narrowRoom 44 = .ok (.iconst 1, 1) := by decide +kernel
theorem dX6_narrowRoom_45 : decode cX6_narrowRoom 45 = .ok (.goto 4, 3) := by decide +kernel
theorem dX6_narrowRoom_48 : decode cX6_narrowRoom 48 = .ok (.iconst 0, 1) := by decide +kernel
theorem dX6_narrowRoom_49 : decode cX6_narrowRoom 49 = .ok (.istore 5, 2) := by decide +kernel
theorem dX6_narrowRoom_51 : decode cX6_narrowRoom 51 = .ok (.iconst 0, 1) := by decide +kernel
theorem dX6_narrowRoom_52 : decode cX6_narrowRoom 52 = .ok (.istore 6, 2) := by decide +kernel
theorem dX6_narrowRoom_54 : decode cX6_narrowRoom 54 = .ok (.iload 6, 2) := by decide +kernel
theorem dX6_narrowRoom_56 : decode cX6_narrowRoom 56 = .ok (.sipush 1000, 3) := by decide +kernel
theorem dX6_narrowRoom_59 : decode cX6_narrowRoom 59 = .ok (.if_icmp .ge 72, 3) := by decide +kernel
theorem dX6_narrowRoom_62 : decode cX6_narrowRoom 62 = .ok (.aload_n 0, 1) := by decide +kernel
theorem dX6_narrowRoom_63 : decode cX6_narrowRoom 63 = .ok (.iload_n 2, 1) := by decide +kernel
theorem dX6_narrowRoom_64 : decode cX6_narrowRoom 64 = .ok (.iload 6, 2) := by decide +kernel
theorem dX6_narrowRoom_66 : decode cX6_narrowRoom 66 = .ok (.invokevirtual 53, 3) := by decide +kernel
theorem dX6_narrowRoom_69 : decode cX6_narrowRoom 69 = .ok (.iload_n 3, 1) := by decide +kernel
theorem dX6_narrowRoom_70 : decode cX6_narrowRoom 70 = .ok (.isub, 1) := by decide +kernel
theorem dX6_narrowRoom_71 : decode cX6_narrowRoom 71 = .ok (.istore 7, 2) := by decide +kernel
theorem dX6_narrowRoom_73 : decode cX6_narrowRoom 73 = .ok (.iload 5, 2) := by decide +kernel
theorem dX6_narrowRoom_75 : decode cX6_narrowRoom 75 = .ok (.ifCond .eq 28, 3) := by decide +kernel
theorem dX6_narrowRoom_78 : decode cX6_narrowRoom 78 = .ok (.aload_n 0, 1) := by decide +kernel
theorem dX6_narrowRoom_79 : decode cX6_narrowRoom 79 = .ok (.getfield 9, 3) := by decide +kernel
theorem dX6_narrowRoom_82 : decode cX6_narrowRoom 82 = .ok (.iload 6, 2) := by decide +kernel
theorem dX6_narrowRoom_84 : decode cX6_narrowRoom 84 = .ok (.aload_n 0, 1) := by decide +kernel
theorem dX6_narrowRoom_85 : decode cX6_narrowRoom 85 = .ok (.getfield 9, 3) := by decide +kernel
theorem dX6_narrowRoom_88 : decode cX6_narrowRoom 88 = .ok (.iload 6, 2) := by decide +kernel
theorem dX6_narrowRoom_90 : decode cX6_narrowRoom 90 = .ok (.iaload, 1) := by decide +kernel
theorem dX6_narrowRoom_91 : decode cX6_narrowRoom 91 = .ok (.iload 7, 2) := by decide +kernel
theorem dX6_narrowRoom_93 : decode cX6_narrowRoom 93 = .ok (.iload 4, 2) := by decide +kernel
theorem dX6_narrowRoom_95 : decode cX6_narrowRoom 95 = .ok (.iadd, 1) := by decide +kernel
theorem dX6_narrowRoom_96 : decode cX6_narrowRoom 96 = .ok (.invokestatic 89, 3) := by decide +kernel
theorem dX6_narrowRoom_99 : decode cX6_narrowRoom 99 = .ok (.iastore, 1) := by decide +kernel
theorem dX6_narrowRoom_100 : decode cX6_narrowRoom 100 = .ok (.goto 25, 3) := by decide +kernel
theorem dX6_narrowRoom_103 : decode cX6_narrowRoom 103 = .ok (.aload_n 0, 1) := by decide +kernel
theorem dX6_narrowRoom_104 : decode cX6_narrowRoom 104 = .ok (.getfield 15, 3) := by decide +kernel
theorem dX6_narrowRoom_107 : decode cX6_narrowRoom 107 = .ok (.iload 6, 2) := by decide +kernel
theorem dX6_narrowRoom_109 : decode cX6_narrowRoom 109 = .ok (.aload_n 0, 1) := by decide +kernel
theorem dX6_narrowRoom_110 : decode cX6_narrowRoom 110 = .ok (.getfield 15, 3) := by decide +kernel
theorem dX6_narrowRoom_113 : decode cX6_narrowRoom 113 = .ok (.iload 6, 2) := by decide +kernel
theorem dX6_narrowRoom_115 : decode cX6_narrowRoom 115 = .ok (.iaload, 1) := by decide +kernel
theorem dX6_narrowRoom_116 : decode cX6_narrowRoom 116 = .ok (.iload 7, 2) := by decide +kernel
theorem dX6_narrowRoom_118 : decode cX6_narrowRoom 118 = .ok (.iload 4, 2) := by decide +kernel
theorem dX6_narrowRoom_120 : decode cX6_narrowRoom 120 = .ok (.isub, 1) := by decide +kernel
theorem dX6_narrowRoom_121 : decode cX6_narrowRoom 121 = .ok (.invokestatic 94, 3) := by decide +kernel
theorem dX6_narrowRoom_124 : decode cX6_narrowRoom 124 = .ok (.iastore, 1) := by decide +kernel
theorem dX6_narrowRoom_125 : decode cX6_narrowRoom 125 = .ok (.iinc 6 1, 3) := by decide +kernel
theorem dX6_narrowRoom_128 : decode cX6_narrowRoom 128 = .ok (.goto (-74), 3) := by decide +kernel
theorem dX6_narrowRoom_131 : decode cX6_narrowRoom 131 = .ok (.return_, 1) := by decide +kernel
set_option maxRecDepth 20000 in
theorem bX6_narrowRoom_0 {G : Gx} {mm : Nat → Nat → Int32} {lm : Nat → Int64} {x1 : Int32} {x2 : Int32} {o : Ou} {z : Wd} {a b : Nat} (hw : ∃ j1 : Nat, x1 = nI j1 ∧ j1 < 8 ∧ ∃ j2 : Nat, x1 = nI j2 ∧ j2 < 8 ∧ ∃ j3 : Nat, x2 = nI j3 ∧ j3 < 8 ∧ ∃ j4 : Nat, x2 = nI j4 ∧ j4 < 8 ∧ (((mm (23 + j1) 1) ≤ (mm (23 + j4) 1)) → J G M_X6_narrowRoom 54 [(0, .ref 38), (2, .int x2), (3, .int (mm (23 + j1) 1)), (4, .int ((mm 8 j2) + (mm 8 j3))), (5, .int 0), (6, .int 0)] [] (SH, mm, lm) false o z false a b) ∧ ((¬ (mm (23 + j1) 1) ≤ (mm (23 + j4) 1)) → J G M_X6_narrowRoom 54 [(0, .ref 38), (2, .int x2), (3, .int (mm (23 + j1) 1)), (4, .int ((mm 8 j2) + (mm 8 j3))), (5, .int 1), (6, .int 0)] [] (SH, mm, lm) false o z false a b)) :
    J G M_X6_narrowRoom 0 [(0, .ref 38), (1, .int x1), (2, .int x2)] [] (SH, mm, lm) false o z false a b := by
  refine J_aload_n rfl (i := 0) rfl dX6_narrowRoom_0 ?_
  refine J_getr kls_6 (q := 38) (k := 1) sh_38 (by decide) rfl gw_349 dX6_narrowRoom_1 ?_
  refine J_iload_n rfl (i := 1) rfl dX6_narrowRoom_4 ?_
  obtain ⟨j1, ej1, hj1, hw⟩ := hw
  refine J_aald (r := 23 + j1) sh_22 ej1 hj1 (by decide) (if_pos hj1) dX6_narrowRoom_5 ?_
  refine J_geti kls_0 (q := (23 + j1)) (k := 1) (sh_b23 hj1) (by decide) rfl gw_257 dX6_narrowRoom_6 ?_
  refine J_istore_n [(3, .int (mm (23 + j1) 1)), (0, .ref 38), (1, .int x1), (2, .int x2)] rfl (i := 3) (by decide) rfl dX6_narrowRoom_9 ?_
  refine J_aload_n rfl (i := 0) rfl dX6_narrowRoom_10 ?_
  refine J_getr kls_6 (q := 38) (k := 0) sh_38 (by decide) rfl gw_348 dX6_narrowRoom_11 ?_
  refine J_getr kls_7 (q := 4) (k := 3) sh_4 (by decide) rfl gw_191 dX6_narrowRoom_14 ?_
  refine J_iload_n rfl (i := 1) rfl dX6_narrowRoom_17 ?_
  obtain ⟨j2, ej2, hj2, hw⟩ := hw
  refine J_iald sh_8 ej2 hj2 (by decide) dX6_narrowRoom_18 ?_
  refine J_aload_n rfl (i := 0) rfl dX6_narrowRoom_19 ?_
  refine J_getr kls_6 (q := 38) (k := 0) sh_38 (by decide) rfl gw_348 dX6_narrowRoom_20 ?_
  refine J_getr kls_7 (q := 4) (k := 3) sh_4 (by decide) rfl gw_191 dX6_narrowRoom_23 ?_
  refine J_iload_n rfl (i := 2) rfl dX6_narrowRoom_26 ?_
  obtain ⟨j3, ej3, hj3, hw⟩ := hw
  refine J_iald sh_8 ej3 hj3 (by decide) dX6_narrowRoom_27 ?_
  refine J_iadd dX6_narrowRoom_28 ?_
  refine J_istore [(4, .int ((mm 8 j2) + (mm 8 j3))), (3, .int (mm (23 + j1) 1)), (0, .ref 38), (1, .int x1), (2, .int x2)] (i := 4) (by decide) rfl dX6_narrowRoom_29 ?_
  refine J_aload_n rfl (i := 0) rfl dX6_narrowRoom_31 ?_
  refine J_getr kls_6 (q := 38) (k := 1) sh_38 (by decide) rfl gw_349 dX6_narrowRoom_32 ?_
  refine J_iload_n rfl (i := 2) rfl dX6_narrowRoom_35 ?_
  obtain ⟨j4, ej4, hj4, hw⟩ := hw
  refine J_aald (r := 23 + j4) sh_22 ej4 hj4 (by decide) (if_pos hj4) dX6_narrowRoom_36 ?_
  refine J_geti kls_0 (q := (23 + j4)) (k := 1) (sh_b23 hj4) (by decide) rfl gw_257 dX6_narrowRoom_37 ?_
  refine J_iload_n rfl (i := 3) rfl dX6_narrowRoom_40 ?_
  refine J_icmp_ge (tgt := 48) dX6_narrowRoom_41 (by decide) (fun hb5 => ?_) (fun hb5 => ?_)
  · replace hw := hw.1 hb5
    refine J_iconst (v := 0) (by decide) dX6_narrowRoom_48 ?_
    refine J_istore [(5, .int 0), (4, .int ((mm 8 j2) + (mm 8 j3))), (3, .int (mm (23 + j1) 1)), (0, .ref 38), (1, .int x1), (2, .int x2)] (i := 5) (by decide) rfl dX6_narrowRoom_49 ?_
    refine J_iconst (v := 0) (by decide) dX6_narrowRoom_51 ?_
    refine J_istore [(6, .int 0), (5, .int 0), (4, .int ((mm 8 j2) + (mm 8 j3))), (3, .int (mm (23 + j1) 1)), (0, .ref 38), (1, .int x1), (2, .int x2)] (i := 6) (by decide) rfl dX6_narrowRoom_52 ?_
    exact J_sub [4, 6, 3, 2, 1, 0] rfl hw
  · replace hw := hw.2 hb5
    refine J_iconst (v := 1) (by decide) dX6_narrowRoom_44 ?_
    refine J_goto (tgt := 49) dX6_narrowRoom_45 (by decide) ?_
    refine J_istore [(5, .int 1), (4, .int ((mm 8 j2) + (mm 8 j3))), (3, .int (mm (23 + j1) 1)), (0, .ref 38), (1, .int x1), (2, .int x2)] (i := 5) (by decide) rfl dX6_narrowRoom_49 ?_
    refine J_iconst (v := 0) (by decide) dX6_narrowRoom_51 ?_
    refine J_istore [(6, .int 0), (5, .int 1), (4, .int ((mm 8 j2) + (mm 8 j3))), (3, .int (mm (23 + j1) 1)), (0, .ref 38), (1, .int x1), (2, .int x2)] (i := 6) (by decide) rfl dX6_narrowRoom_52 ?_
    exact J_sub [4, 6, 3, 2, 1, 0] rfl hw
set_option maxRecDepth 20000 in
theorem bX6_narrowRoom_54 {G : Gx} {mm : Nat → Nat → Int32} {lm : Nat → Int64} {x2 : Int32} {x3 : Int32} {x4 : Int32} {x5 : Int32} {x6 : Int32} {o : Ou} {z : Wd} {a b : Nat} (hw : ((1000 ≤ x6) → o = .inl none ∧ z = (SH, mm, lm)) ∧ ((¬ 1000 ≤ x6) → ∃ (v2 : Int32), Ct G M_X6_spotOf [.ref 38, .int x2, .int x6] (SH, mm, lm) false (.inl (some (.int v2))) (SH, mm, lm) false 0 0 ∧ ((x5 = 0) → ∃ j4 : Nat, x6 = nI j4 ∧ j4 < 1000 ∧ ∃ (v6 : Int32), Ct G M_J9_min_7cf53 [.int (mm 40 j4), .int ((v2 - x3) - x4)] (SH, mm, lm) false (.inl (some (.int v6))) (SH, mm, lm) false 0 0 ∧ ∃ j8 : Nat, x6 = nI j8 ∧ j8 < 1000 ∧ J G M_X6_narrowRoom 54 [(0, .ref 38), (2, .int x2), (3, .int x3), (4, .int x4), (5, .int x5), (6, .int (x6 + 1))] [] (SH, (mset mm 40 j8 v6), lm) false o z false a b) ∧ ((¬ x5 = 0) → ∃ j9 : Nat, x6 = nI j9 ∧ j9 < 1000 ∧ ∃ (v11 : Int32), Ct G M_J9_max_7cf53 [.int (mm 39 j9), .int ((v2 - x3) + x4)] (SH, mm, lm) false (.inl (some (.int v11))) (SH, mm, lm) false 0 0 ∧ ∃ j13 : Nat, x6 = nI j13 ∧ j13 < 1000 ∧ J G M_X6_narrowRoom 54 [(0, .ref 38), (2, .int x2), (3, .int x3), (4, .int x4), (5, .int x5), (6, .int (x6 + 1))] [] (SH, (mset mm 39 j13 v11), lm) false o z false a b))) :
    J G M_X6_narrowRoom 54 [(0, .ref 38), (2, .int x2), (3, .int x3), (4, .int x4), (5, .int x5), (6, .int x6)] [] (SH, mm, lm) false o z false a b := by
  refine J_iload (i := 6) rfl dX6_narrowRoom_54 ?_
  refine J_sipush (v := 1000) (by decide) dX6_narrowRoom_56 ?_
  refine J_icmp_ge (tgt := 131) dX6_narrowRoom_59 (by decide) (fun hb15 => ?_) (fun hb15 => ?_)
  · replace hw := hw.1 hb15
    exact J_finv rfl dX6_narrowRoom_131 hw
  · replace hw := hw.2 hb15
    refine J_aload_n rfl (i := 0) rfl dX6_narrowRoom_62 ?_
    refine J_iload_n rfl (i := 2) rfl dX6_narrowRoom_63 ?_
    refine J_iload (i := 6) rfl dX6_narrowRoom_64 ?_
    obtain ⟨v2, hc1, hw⟩ := hw
    refine J_callV (as := [.int x2, .int x6]) (k := 38) (st := []) cal_X6_spotOf cai_X6_spotOf gw_1114 ⟨by decide, by decide⟩ cnt_X6_spotOf sh_38 rfl rfl (Nat.le_of_ble_eq_true rfl) dX6_narrowRoom_66 (Nat.zero_add _).symm (Nat.zero_add _).symm hc1 ?_
    refine J_iload_n rfl (i := 3) rfl dX6_narrowRoom_69 ?_
    refine J_isub dX6_narrowRoom_70 ?_
    refine J_istore [(7, .int (v2 - x3)), (0, .ref 38), (2, .int x2), (3, .int x3), (4, .int x4), (5, .int x5), (6, .int x6)] (i := 7) (by decide) rfl dX6_narrowRoom_71 ?_
    refine J_iload (i := 5) rfl dX6_narrowRoom_73 ?_
    refine J_if_eq (tgt := 103) dX6_narrowRoom_75 (by decide) (fun hb14 => ?_) (fun hb14 => ?_)
    · replace hw := hw.1 hb14
      refine J_aload_n rfl (i := 0) rfl dX6_narrowRoom_103 ?_
      refine J_getr kls_6 (q := 38) (k := 3) sh_38 (by decide) rfl gw_351 dX6_narrowRoom_104 ?_
      refine J_iload (i := 6) rfl dX6_narrowRoom_107 ?_
      refine J_aload_n rfl (i := 0) rfl dX6_narrowRoom_109 ?_
      refine J_getr kls_6 (q := 38) (k := 3) sh_38 (by decide) rfl gw_351 dX6_narrowRoom_110 ?_
      refine J_iload (i := 6) rfl dX6_narrowRoom_113 ?_
      obtain ⟨j4, ej4, hj4, hw⟩ := hw
      refine J_iald sh_40 ej4 hj4 (by decide) dX6_narrowRoom_115 ?_
      refine J_iload (i := 7) rfl dX6_narrowRoom_116 ?_
      refine J_iload (i := 4) rfl dX6_narrowRoom_118 ?_
      refine J_isub dX6_narrowRoom_120 ?_
      obtain ⟨v6, hc5, hw⟩ := hw
      refine J_callS (as := [.int (mm 40 j4), .int ((v2 - x3) - x4)]) (st := [.int x6, .ref 40]) cal_J9_min_7cf53 cas_J9_min_7cf53 gw_1167 ⟨by decide, by decide⟩ cnt_J9_min_7cf53 rfl (Nat.le_of_ble_eq_true rfl) dX6_narrowRoom_121 (Nat.zero_add _).symm (Nat.zero_add _).symm hc5 ?_
      obtain ⟨j8, ej8, hj8, hw⟩ := hw
      refine J_iast sh_40 ej8 hj8 (by decide) dX6_narrowRoom_124 ?_
      refine J_iinc [(6, .int (x6 + 1)), (7, .int (v2 - x3)), (0, .ref 38), (2, .int x2), (3, .int x3), (4, .int x4), (5, .int x5)] (i := 6) (v := (x6 + 1)) rfl rfl (by decide) rfl dX6_narrowRoom_125 ?_
      refine J_goto (tgt := 54) dX6_narrowRoom_128 (by decide) ?_
      exact J_sub [2, 3, 4, 5, 6, 0] rfl hw
    · replace hw := hw.2 hb14
      refine J_aload_n rfl (i := 0) rfl dX6_narrowRoom_78 ?_
      refine J_getr kls_6 (q := 38) (k := 2) sh_38 (by decide) rfl gw_350 dX6_narrowRoom_79 ?_
      refine J_iload (i := 6) rfl dX6_narrowRoom_82 ?_
      refine J_aload_n rfl (i := 0) rfl dX6_narrowRoom_84 ?_
      refine J_getr kls_6 (q := 38) (k := 2) sh_38 (by decide) rfl gw_350 dX6_narrowRoom_85 ?_
      refine J_iload (i := 6) rfl dX6_narrowRoom_88 ?_
      obtain ⟨j9, ej9, hj9, hw⟩ := hw
      refine J_iald sh_39 ej9 hj9 (by decide) dX6_narrowRoom_90 ?_
      refine J_iload (i := 7) rfl dX6_narrowRoom_91 ?_
      refine J_iload (i := 4) rfl dX6_narrowRoom_93 ?_
      refine J_iadd dX6_narrowRoom_95 ?_
      obtain ⟨v11, hc10, hw⟩ := hw
      refine J_callS (as := [.int (mm 39 j9), .int ((v2 - x3) + x4)]) (st := [.int x6, .ref 39]) cal_J9_max_7cf53 cas_J9_max_7cf53 gw_1166 ⟨by decide, by decide⟩ cnt_J9_max_7cf53 rfl (Nat.le_of_ble_eq_true rfl) dX6_narrowRoom_96 (Nat.zero_add _).symm (Nat.zero_add _).symm hc10 ?_
      obtain ⟨j13, ej13, hj13, hw⟩ := hw
      refine J_iast sh_39 ej13 hj13 (by decide) dX6_narrowRoom_99 ?_
      refine J_goto (tgt := 125) dX6_narrowRoom_100 (by decide) ?_
      refine J_iinc [(6, .int (x6 + 1)), (7, .int (v2 - x3)), (0, .ref 38), (2, .int x2), (3, .int x3), (4, .int x4), (5, .int x5)] (i := 6) (v := (x6 + 1)) rfl rfl (by decide) rfl dX6_narrowRoom_125 ?_
      refine J_goto (tgt := 54) dX6_narrowRoom_128 (by decide) ?_
      exact J_sub [2, 3, 4, 5, 6, 0] rfl hw
theorem dX6_staysInRoom_0 : decode cX6_staysInRoom 0 = .ok (.aload_n 0, 1) := by decide +kernel
theorem dX6_staysInRoom_1 : decode cX6_staysInRoom 1 = .ok (.getfield 21, 3) := by decide +kernel
theorem dX6_staysInRoom_4 : decode cX6_staysInRoom 4 = .ok (.getfield 40, 3) := by decide +kernel
theorem dX6_staysInRoom_7 : decode cX6_staysInRoom 7 = .ok (.iload_n 1, 1) := by decide +kernel
theorem dX6_staysInRoom_8 : decode cX6_staysInRoom 8 = .ok (.iaload, 1) := by decide +kernel
theorem dX6_staysInRoom_9 : decode cX6_staysInRoom 9 = .ok (.istore 4, 2) := by decide +kernel
theorem dX6_staysInRoom_11 : decode cX6_staysInRoom 11 = .ok (.iconst 0, 1) := by decide +kernel
theorem dX6_staysInRoom_12 : decode cX6_staysInRoom 12 = .ok (.istore 5, 2) := by decide +kernel
theorem dX6_staysInRoom_14 : decode cX6_staysInRoom 14 = .ok (.iload 5, 2) := by decide +kernel
theorem dX6_staysInRoom_16 : decode cX6_staysInRoom 16 = .ok (.sipush 1000, 3) := by decide +kernel
theorem dX6_staysInRoom_19 : decode cX6_staysInRoom 19 = .ok (.if_icmp .ge 47, 3) := by decide +kernel
theorem dX6_staysInRoom_22 : decode cX6_staysInRoom 22 = .ok (.iload 4, 2) := by decide +kernel
theorem dX6_staysInRoom_24 : decode cX6_staysInRoom 24 = .ok (.iload 5, 2) := by decide +kernel
theorem dX6_staysInRoom_26 : decode cX6_staysInRoom 26 = .ok (.iload_n 2, 1) := by decide +kernel
theorem dX6_staysInRoom_27 : decode cX6_staysInRoom 27 = .ok (.isub, 1) := by decide +kernel
theorem dX6_staysInRoom_28 : decode cX6_staysInRoom 28 = .ok (.iload_n 3, 1) := by decide +kernel
theorem dX6_staysInRoom_29 : decode cX6_staysInRoom 29 = .ok (.invokestatic 49, 3) := by decide +kernel
theorem dX6_staysInRoom_32 : decode cX6_staysInRoom 32 = .ok (.istore 6, 2) := by decide +kernel
theorem dX6_staysInRoom_34 : decode cX6_staysInRoom 34 = .ok (.iload 6, 2) := by decide +kernel
theorem dX6_staysInRoom_36 : decode cX6_staysInRoom 36 = .ok (.aload_n 0, 1) := by decide +kernel
theorem dX6_staysInRoom_37 : decode cX6_staysInRoom 37 = .ok (.getfield 9, 3) := by decide +kernel
theorem dX6_staysInRoom_40 : decode cX6_staysInRoom 40 = .ok (.iload 5, 2) := by decide +kernel
theorem dX6_staysInRoom_42 : decode cX6_staysInRoom 42 = .ok (.iaload, 1) := by decide +kernel
theorem dX6_staysInRoom_43 : decode cX6_staysInRoom 43 = .ok (.if_icmp .lt 15, 3) := by decide +kernel
theorem dX6_staysInRoom_46 : decode cX6_staysInRoom 46 = .ok (.iload 6, 2) := by decide +kernel
theorem dX6_staysInRoom_48 : decode cX6_staysInRoom 48 = .ok (.aload_n 0, 1) := by decide +kernel
theorem dX6_staysInRoom_49 : decode cX6_staysInRoom 49 = .ok (.getfield 15, 3) := by decide +kernel
theorem dX6_staysInRoom_52 : decode cX6_staysInRoom 52 = .ok (.iload 5, 2) := by decide +kernel
theorem dX6_staysInRoom_54 : decode cX6_staysInRoom 54 = .ok (.iaload, 1) := by decide +kernel
theorem dX6_staysInRoom_55 : decode cX6_staysInRoom 55 = .ok (.if_icmp .le 5, 3) := by decide +kernel
theorem dX6_staysInRoom_58 : decode cX6_staysInRoom 58 = .ok (.iconst 0, 1) := by decide +kernel
theorem dX6_staysInRoom_59 : decode cX6_staysInRoom 59 = .ok (.ireturn, 1) := by decide +kernel
theorem dX6_staysInRoom_60 : decode cX6_staysInRoom 60 = .ok (.iinc 5 1, 3) := by decide +kernel
theorem dX6_staysInRoom_63 : decode cX6_staysInRoom 63 = .ok (.goto (-49), 3) := by decide +kernel
theorem dX6_staysInRoom_66 : decode cX6_staysInRoom 66 = .ok (.iconst 1, 1) := by decide +kernel
theorem dX6_staysInRoom_67 : decode cX6_staysInRoom 67 = .ok (.ireturn, 1) := by decide +kernel
set_option maxRecDepth 20000 in
theorem bX6_staysInRoom_0 {G : Gx} {mm : Nat → Nat → Int32} {lm : Nat → Int64} {x1 : Int32} {x2 : Int32} {x3 : Int32} {o : Ou} {z : Wd} {a b : Nat} (hw : ∃ j1 : Nat, x1 = nI j1 ∧ j1 < 8 ∧ J G M_X6_staysInRoom 14 [(0, .ref 38), (2, .int x2), (3, .int x3), (4, .int (mm 9 j1)), (5, .int 0)] [] (SH, mm, lm) false o z false a b) :
    J G M_X6_staysInRoom 0 [(0, .ref 38), (1, .int x1), (2, .int x2), (3, .int x3)] [] (SH, mm, lm) false o z false a b := by
  refine J_aload_n rfl (i := 0) rfl dX6_staysInRoom_0 ?_
  refine J_getr kls_6 (q := 38) (k := 0) sh_38 (by decide) rfl gw_348 dX6_staysInRoom_1 ?_
  refine J_getr kls_7 (q := 4) (k := 4) sh_4 (by decide) rfl gw_193 dX6_staysInRoom_4 ?_
  refine J_iload_n rfl (i := 1) rfl dX6_staysInRoom_7 ?_
  obtain ⟨j1, ej1, hj1, hw⟩ := hw
  refine J_iald sh_9 ej1 hj1 (by decide) dX6_staysInRoom_8 ?_
  refine J_istore [(4, .int (mm 9 j1)), (0, .ref 38), (1, .int x1), (2, .int x2), (3, .int x3)] (i := 4) (by decide) rfl dX6_staysInRoom_9 ?_
  refine J_iconst (v := 0) (by decide) dX6_staysInRoom_11 ?_
  refine J_istore [(5, .int 0), (4, .int (mm 9 j1)), (0, .ref 38), (1, .int x1), (2, .int x2), (3, .int x3)] (i := 5) (by decide) rfl dX6_staysInRoom_12 ?_
  exact J_sub [2, 4, 5, 1, 0] rfl hw
set_option maxRecDepth 20000 in
theorem bX6_staysInRoom_14 {G : Gx} {mm : Nat → Nat → Int32} {lm : Nat → Int64} {x2 : Int32} {x3 : Int32} {x4 : Int32} {x5 : Int32} {o : Ou} {z : Wd} {a b : Nat} (hw : ((1000 ≤ x5) → o = .inl (some (.int 1)) ∧ z = (SH, mm, lm)) ∧ ((¬ 1000 ≤ x5) → ∃ (v2 : Int32), Ct G M_X6_offsetOfSwing [.int x4, .int (x5 - x2), .int x3] (SH, mm, lm) false (.inl (some (.int v2))) (SH, mm, lm) false 0 0 ∧ ∃ j4 : Nat, x5 = nI j4 ∧ j4 < 1000 ∧ ((v2 < (mm 39 j4)) → o = .inl (some (.int 0)) ∧ z = (SH, mm, lm)) ∧ ((¬ v2 < (mm 39 j4)) → ∃ j5 : Nat, x5 = nI j5 ∧ j5 < 1000 ∧ ((v2 ≤ (mm 40 j5)) → J G M_X6_staysInRoom 14 [(0, .ref 38), (2, .int x2), (3, .int x3), (4, .int x4), (5, .int (x5 + 1))] [] (SH, mm, lm) false o z false a b) ∧ ((¬ v2 ≤ (mm 40 j5)) → o = .inl (some (.int 0)) ∧ z = (SH, mm, lm))))) :
    J G M_X6_staysInRoom 14 [(0, .ref 38), (2, .int x2), (3, .int x3), (4, .int x4), (5, .int x5)] [] (SH, mm, lm) false o z false a b := by
  refine J_iload (i := 5) rfl dX6_staysInRoom_14 ?_
  refine J_sipush (v := 1000) (by decide) dX6_staysInRoom_16 ?_
  refine J_icmp_ge (tgt := 66) dX6_staysInRoom_19 (by decide) (fun hb8 => ?_) (fun hb8 => ?_)
  · replace hw := hw.1 hb8
    refine J_iconst (v := 1) (by decide) dX6_staysInRoom_66 ?_
    exact J_fini (ty := .boolean) rfl rfl dX6_staysInRoom_67 hw
  · replace hw := hw.2 hb8
    refine J_iload (i := 4) rfl dX6_staysInRoom_22 ?_
    refine J_iload (i := 5) rfl dX6_staysInRoom_24 ?_
    refine J_iload_n rfl (i := 2) rfl dX6_staysInRoom_26 ?_
    refine J_isub dX6_staysInRoom_27 ?_
    refine J_iload_n rfl (i := 3) rfl dX6_staysInRoom_28 ?_
    obtain ⟨v2, hc1, hw⟩ := hw
    refine J_callS (as := [.int x4, .int (x5 - x2), .int x3]) (st := []) cal_X6_offsetOfSwing cas_X6_offsetOfSwing gw_1097 ⟨by decide, by decide⟩ cnt_X6_offsetOfSwing rfl (Nat.le_of_ble_eq_true rfl) dX6_staysInRoom_29 (Nat.zero_add _).symm (Nat.zero_add _).symm hc1 ?_
    refine J_istore [(6, .int v2), (0, .ref 38), (2, .int x2), (3, .int x3), (4, .int x4), (5, .int x5)] (i := 6) (by decide) rfl dX6_staysInRoom_32 ?_
    refine J_iload (i := 6) rfl dX6_staysInRoom_34 ?_
    refine J_aload_n rfl (i := 0) rfl dX6_staysInRoom_36 ?_
    refine J_getr kls_6 (q := 38) (k := 2) sh_38 (by decide) rfl gw_350 dX6_staysInRoom_37 ?_
    refine J_iload (i := 5) rfl dX6_staysInRoom_40 ?_
    obtain ⟨j4, ej4, hj4, hw⟩ := hw
    refine J_iald sh_39 ej4 hj4 (by decide) dX6_staysInRoom_42 ?_
    refine J_icmp_lt (tgt := 58) dX6_staysInRoom_43 (by decide) (fun hb7 => ?_) (fun hb7 => ?_)
    · replace hw := hw.1 hb7
      refine J_iconst (v := 0) (by decide) dX6_staysInRoom_58 ?_
      exact J_fini (ty := .boolean) rfl rfl dX6_staysInRoom_59 hw
    · replace hw := hw.2 hb7
      refine J_iload (i := 6) rfl dX6_staysInRoom_46 ?_
      refine J_aload_n rfl (i := 0) rfl dX6_staysInRoom_48 ?_
      refine J_getr kls_6 (q := 38) (k := 3) sh_38 (by decide) rfl gw_351 dX6_staysInRoom_49 ?_
      refine J_iload (i := 5) rfl dX6_staysInRoom_52 ?_
      obtain ⟨j5, ej5, hj5, hw⟩ := hw
      refine J_iald sh_40 ej5 hj5 (by decide) dX6_staysInRoom_54 ?_
      refine J_icmp_le (tgt := 60) dX6_staysInRoom_55 (by decide) (fun hb6 => ?_) (fun hb6 => ?_)
      · replace hw := hw.1 hb6
        refine J_iinc [(5, .int (x5 + 1)), (6, .int v2), (0, .ref 38), (2, .int x2), (3, .int x3), (4, .int x4)] (i := 5) (v := (x5 + 1)) rfl rfl (by decide) rfl dX6_staysInRoom_60 ?_
        refine J_goto (tgt := 14) dX6_staysInRoom_63 (by decide) ?_
        exact J_sub [2, 3, 4, 5, 0] rfl hw
      · replace hw := hw.2 hb6
        refine J_iconst (v := 0) (by decide) dX6_staysInRoom_58 ?_
        exact J_fini (ty := .boolean) rfl rfl dX6_staysInRoom_59 hw
theorem dX6_countStrikes_0 : decode cX6_countStrikes 0 = .ok (.iconst 0, 1) := by decide +kernel
theorem dX6_countStrikes_1 : decode cX6_countStrikes 1 = .ok (.istore 4, 2) := by decide +kernel
theorem dX6_countStrikes_3 : decode cX6_countStrikes 3 = .ok (.iload_n 2, 1) := by decide +kernel
theorem dX6_countStrikes_4 : decode cX6_countStrikes 4 = .ok (.istore 5, 2) := by decide +kernel
theorem dX6_countStrikes_6 : decode cX6_countStrikes 6 = .ok (.iload 5, 2) := by decide +kernel
theorem dX6_countStrikes_8 : decode cX6_countStrikes 8 = .ok (.iload_n 3, 1) := by decide +kernel
theorem dX6_countStrikes_9 : decode cX6_countStrikes 9 = .ok (.if_icmp .gt 30, 3) := by decide +kernel
theorem dX6_countStrikes_12 : decode cX6_countStrikes 12 = .ok (.iload 5, 2) := by decide +kernel
theorem dX6_countStrikes_14 : decode cX6_countStrikes 14 = .ok (.sipush 9999, 3) := by decide +kernel
theorem dX6_countStrikes_17 : decode cX6_countStrikes 17 = .ok (.if_icmp .gt 22, 3) := by decide +kernel
theorem dX6_countStrikes_20 : decode cX6_countStrikes 20 = .ok (.aload_n 0, 1) := by decide +kernel
theorem dX6_countStrikes_21 : decode cX6_countStrikes 21 = .ok (.iload_n 1, 1) := by decide +kernel
theorem dX6_countStrikes_22 : decode cX6_countStrikes 22 = .ok (.iload 5, 2) := by decide +kernel
theorem dX6_countStrikes_24 : decode cX6_countStrikes 24 = .ok (.invokevirtual 97, 3) := by decide +kernel
theorem dX6_countStrikes_27 : decode cX6_countStrikes 27 = .ok (.ifCond .eq 6, 3) := by decide +kernel
theorem dX6_countStrikes_30 : decode cX6_countStrikes 30 = .ok (.iinc 4 1, 3) := by decide +kernel
theorem dX6_countStrikes_33 : decode cX6_countStrikes 33 = .ok (.iinc 5 1, 3) := by decide +kernel
theorem dX6_countStrikes_36 : decode cX6_countStrikes 36 = .ok (.goto (-30), 3) := by decide +kernel
theorem dX6_countStrikes_39 : decode cX6_countStrikes 39 = .ok (.iload 4, 2) := by decide +kernel
theorem dX6_countStrikes_41 : decode cX6_countStrikes 41 = .ok (.ireturn, 1) := by decide +kernel
set_option maxRecDepth 20000 in
theorem bX6_countStrikes_0 {G : Gx} {mm : Nat → Nat → Int32} {lm : Nat → Int64} {x1 : Int32} {x2 : Int32} {x3 : Int32} {o : Ou} {z : Wd} {a b : Nat} (hw : J G M_X6_countStrikes 6 [(0, .ref 38), (1, .int x1), (3, .int x3), (4, .int 0), (5, .int x2)] [] (SH, mm, lm) false o z false a b) :
    J G M_X6_countStrikes 0 [(0, .ref 38), (1, .int x1), (2, .int x2), (3, .int x3)] [] (SH, mm, lm) false o z false a b := by
  refine J_iconst (v := 0) (by decide) dX6_countStrikes_0 ?_
  refine J_istore [(4, .int 0), (0, .ref 38), (1, .int x1), (2, .int x2), (3, .int x3)] (i := 4) (by decide) rfl dX6_countStrikes_1 ?_
  refine J_iload_n rfl (i := 2) rfl dX6_countStrikes_3 ?_
  refine J_istore [(5, .int x2), (4, .int 0), (0, .ref 38), (1, .int x1), (2, .int x2), (3, .int x3)] (i := 5) (by decide) rfl dX6_countStrikes_4 ?_
  exact J_sub [2, 3, 5, 1, 0] rfl hw
set_option maxRecDepth 20000 in
theorem bX6_countStrikes_6 {G : Gx} {mm : Nat → Nat → Int32} {lm : Nat → Int64} {x1 : Int32} {x3 : Int32} {x4 : Int32} {x5 : Int32} {o : Ou} {z : Wd} {a b : Nat} (hw : ((x3 < x5) → o = .inl (some (.int x4)) ∧ z = (SH, mm, lm)) ∧ ((¬ x3 < x5) → ((9999 < x5) → o = .inl (some (.int x4)) ∧ z = (SH, mm, lm)) ∧ ((¬ 9999 < x5) → ∃ (v2 : Int32), Ct G M_X6_strikesAt [.ref 38, .int x1, .int x5] (SH, mm, lm) false (.inl (some (.int v2))) (SH, mm, lm) false 0 0 ∧ ((v2 = 0) → J G M_X6_countStrikes 6 [(0, .ref 38), (1, .int x1), (3, .int x3), (4, .int x4), (5, .int (x5 + 1))] [] (SH, mm, lm) false o z false a b) ∧ ((¬ v2 = 0) → J G M_X6_countStrikes 6 [(0, .ref 38), (1, .int x1), (3, .int x3), (4, .int (x4 + 1)), (5, .int (x5 + 1))] [] (SH, mm, lm) false o z false a b)))) :
    J G M_X6_countStrikes 6 [(0, .ref 38), (1, .int x1), (3, .int x3), (4, .int x4), (5, .int x5)] [] (SH, mm, lm) false o z false a b := by
  refine J_iload (i := 5) rfl dX6_countStrikes_6 ?_
  refine J_iload_n rfl (i := 3) rfl dX6_countStrikes_8 ?_
  refine J_icmp_gt (tgt := 39) dX6_countStrikes_9 (by decide) (fun hb6 => ?_) (fun hb6 => ?_)
  · replace hw := hw.1 hb6
    refine J_iload (i := 4) rfl dX6_countStrikes_39 ?_
    exact J_fini (ty := .int) rfl rfl dX6_countStrikes_41 hw
  · replace hw := hw.2 hb6
    refine J_iload (i := 5) rfl dX6_countStrikes_12 ?_
    refine J_sipush (v := 9999) (by decide) dX6_countStrikes_14 ?_
    refine J_icmp_gt (tgt := 39) dX6_countStrikes_17 (by decide) (fun hb5 => ?_) (fun hb5 => ?_)
    · replace hw := hw.1 hb5
      refine J_iload (i := 4) rfl dX6_countStrikes_39 ?_
      exact J_fini (ty := .int) rfl rfl dX6_countStrikes_41 hw
    · replace hw := hw.2 hb5
      refine J_aload_n rfl (i := 0) rfl dX6_countStrikes_20 ?_
      refine J_iload_n rfl (i := 1) rfl dX6_countStrikes_21 ?_
      refine J_iload (i := 5) rfl dX6_countStrikes_22 ?_
      obtain ⟨v2, hc1, hw⟩ := hw
      refine J_callV (as := [.int x1, .int x5]) (k := 38) (st := []) cal_X6_strikesAt cai_X6_strikesAt gw_1194 ⟨by decide, by decide⟩ cnt_X6_strikesAt sh_38 rfl rfl (Nat.le_of_ble_eq_true rfl) dX6_countStrikes_24 (Nat.zero_add _).symm (Nat.zero_add _).symm hc1 ?_
      refine J_if_eq (tgt := 33) dX6_countStrikes_27 (by decide) (fun hb4 => ?_) (fun hb4 => ?_)
      · replace hw := hw.1 hb4
        refine J_iinc [(5, .int (x5 + 1)), (0, .ref 38), (1, .int x1), (3, .int x3), (4, .int x4)] (i := 5) (v := (x5 + 1)) rfl rfl (by decide) rfl dX6_countStrikes_33 ?_
        refine J_goto (tgt := 6) dX6_countStrikes_36 (by decide) ?_
        exact J_sub [1, 2, 3, 4, 0] rfl hw
      · replace hw := hw.2 hb4
        refine J_iinc [(4, .int (x4 + 1)), (0, .ref 38), (1, .int x1), (3, .int x3), (5, .int x5)] (i := 4) (v := (x4 + 1)) rfl rfl (by decide) rfl dX6_countStrikes_30 ?_
        refine J_iinc [(5, .int (x5 + 1)), (4, .int (x4 + 1)), (0, .ref 38), (1, .int x1), (3, .int x3)] (i := 5) (v := (x5 + 1)) rfl rfl (by decide) rfl dX6_countStrikes_33 ?_
        refine J_goto (tgt := 6) dX6_countStrikes_36 (by decide) ?_
        exact J_sub [2, 3, 4, 1, 0] rfl hw
theorem dX6_firstCommonStrike_0 : decode cX6_firstCommonStrike 0 = .ok (.iconst 0, 1) := by decide +kernel
theorem dX6_firstCommonStrike_1 : decode cX6_firstCommonStrike 1 = .ok (.istore_n 3, 1) := by decide +kernel
theorem dX6_firstCommonStrike_2 : decode cX6_firstCommonStrike 2 = .ok (.iload_n 3, 1) := by decide +kernel
theorem dX6_firstCommonStrike_3 : decode cX6_firstCommonStrike 3 = .ok (.sipush 9999, 3) := by decide +kernel
theorem dX6_firstCommonStrike_6 : decode cX6_firstCommonStrike 6 = .ok (.if_icmp .gt 29, 3) := by decide +kernel
theorem dX6_firstCommonStrike_9 : decode cX6_firstCommonStrike 9 = .ok (.aload_n 0, 1) := by decide +kernel
theorem dX6_firstCommonStrike_10 : decode cX6_firstCommonStrike 10 = .ok (.iload_n 1, 1) := by decide +kernel
theorem dX6_firstCommonStrike_11 : decode cX6_firstCommonStrike 11 = .ok (.iload_n 3, 1) := by decide +kernel
theorem dX6_firstCommonStrike_12 : decode cX6_firstCommonStrike 12 = .ok (.invokevirtual 97, 3) := by decide +kernel
theorem dX6_firstCommonStrike_15 : decode cX6_firstCommonStrike 15 = .ok (.ifCond .eq 14, 3) := by decide +kernel
theorem dX6_firstCommonStrike_18 : decode cX6_firstCommonStrike 18 = .ok (.aload_n 0, 1) := by decide +kernel
theorem dX6_firstCommonStrike_19 : decode cX6_firstCommonStrike 19 = .ok (.iload_n 2, 1) := by decide +kernel
theorem dX6_firstCommonStrike_20 : decode cX6_firstCommonStrike 20 = .ok (.iload_n 3, 1) := by decide +kernel
theorem dX6_firstCommonStrike_21 : decode cX6_firstCommonStrike 21 = .ok (.invokevirtual 97, 3) := by decide +kernel
theorem dX6_firstCommonStrike_24 : decode cX6_firstCommonStrike 24 = .ok (.ifCond .eq 5, 3) := by decide +kernel
theorem dX6_firstCommonStrike_27 : decode cX6_firstCommonStrike 27 = .ok (.iload_n 3, 1) := by decide +kernel
theorem dX6_firstCommonStrike_28 : decode cX6_firstCommonStrike 28 = .ok (.ireturn, 1) := by decide +kernel
theorem dX6_firstCommonStrike_29 : decode cX6_firstCommonStrike 29 = .ok (.iinc 3 1, 3) := by decide +kernel
theorem dX6_firstCommonStrike_32 : decode cX6_firstCommonStrike 32 = .ok (.goto (-30), 3) := by decide +kernel
theorem dX6_firstCommonStrike_35 : decode cX6_firstCommonStrike 35 = .ok (.bipush (-3), 2) := by decide +kernel
theorem dX6_firstCommonStrike_37 : decode cX6_firstCommonStrike 37 = .ok (.ireturn, 1) := by decide +kernel
set_option maxRecDepth 20000 in
theorem bX6_firstCommonStrike_0 {G : Gx} {mm : Nat → Nat → Int32} {lm : Nat → Int64} {x1 : Int32} {x2 : Int32} {o : Ou} {z : Wd} {a b : Nat} (hw : J G M_X6_firstCommonStrike 2 [(0, .ref 38), (1, .int x1), (2, .int x2), (3, .int 0)] [] (SH, mm, lm) false o z false a b) :
    J G M_X6_firstCommonStrike 0 [(0, .ref 38), (1, .int x1), (2, .int x2)] [] (SH, mm, lm) false o z false a b := by
  refine J_iconst (v := 0) (by decide) dX6_firstCommonStrike_0 ?_
  refine J_istore_n [(3, .int 0), (0, .ref 38), (1, .int x1), (2, .int x2)] rfl (i := 3) (by decide) rfl dX6_firstCommonStrike_1 ?_
  exact J_sub [1, 2, 3, 0] rfl hw
set_option maxRecDepth 20000 in
theorem bX6_firstCommonStrike_2 {G : Gx} {mm : Nat → Nat → Int32} {lm : Nat → Int64} {x1 : Int32} {x2 : Int32} {x3 : Int32} {o : Ou} {z : Wd} {a b : Nat} (hw : ((9999 < x3) → o = .inl (some (.int (-3))) ∧ z = (SH, mm, lm)) ∧ ((¬ 9999 < x3) → ∃ (v2 : Int32), Ct G M_X6_strikesAt [.ref 38, .int x1, .int x3] (SH, mm, lm) false (.inl (some (.int v2))) (SH, mm, lm) false 0 0 ∧ ((v2 = 0) → J G M_X6_firstCommonStrike 2 [(0, .ref 38), (1, .int x1), (2, .int x2), (3, .int (x3 + 1))] [] (SH, mm, lm) false o z false a b) ∧ ((¬ v2 = 0) → ∃ (v5 : Int32), Ct G M_X6_strikesAt [.ref 38, .int x2, .int x3] (SH, mm, lm) false (.inl (some (.int v5))) (SH, mm, lm) false 0 0 ∧ ((v5 = 0) → J G M_X6_firstCommonStrike 2 [(0, .ref 38), (1, .int x1), (2, .int x2), (3, .int (x3 + 1))] [] (SH, mm, lm) false o z false a b) ∧ ((¬ v5 = 0) → o = .inl (some (.int x3)) ∧ z = (SH, mm, lm))))) :
    J G M_X6_firstCommonStrike 2 [(0, .ref 38), (1, .int x1), (2, .int x2), (3, .int x3)] [] (SH, mm, lm) false o z false a b := by
  refine J_iload_n rfl (i := 3) rfl dX6_firstCommonStrike_2 ?_
  refine J_sipush (v := 9999) (by decide) dX6_firstCommonStrike_3 ?_
  refine J_icmp_gt (tgt := 35) dX6_firstCommonStrike_6 (by decide) (fun hb9 => ?_) (fun hb9 => ?_)
  · replace hw := hw.1 hb9
    refine J_bipush (v := (-3)) (by decide) dX6_firstCommonStrike_35 ?_
    exact J_fini (ty := .int) rfl rfl dX6_firstCommonStrike_37 hw
  · replace hw := hw.2 hb9
    refine J_aload_n rfl (i := 0) rfl dX6_firstCommonStrike_9 ?_
    refine J_iload_n rfl (i := 1) rfl dX6_firstCommonStrike_10 ?_
    refine J_iload_n rfl (i := 3) rfl dX6_firstCommonStrike_11 ?_
    obtain ⟨v2, hc1, hw⟩ := hw
    refine J_callV (as := [.int x1, .int x3]) (k := 38) (st := []) cal_X6_strikesAt cai_X6_strikesAt gw_1194 ⟨by decide, by decide⟩ cnt_X6_strikesAt sh_38 rfl rfl (Nat.le_of_ble_eq_true rfl) dX6_firstCommonStrike_12 (Nat.zero_add _).symm (Nat.zero_add _).symm hc1 ?_
    refine J_if_eq (tgt := 29) dX6_firstCommonStrike_15 (by decide) (fun hb8 => ?_) (fun hb8 => ?_)
    · replace hw := hw.1 hb8
      refine J_iinc [(3, .int (x3 + 1)), (0, .ref 38), (1, .int x1), (2, .int x2)] (i := 3) (v := (x3 + 1)) rfl rfl (by decide) rfl dX6_firstCommonStrike_29 ?_
      refine J_goto (tgt := 2) dX6_firstCommonStrike_32 (by decide) ?_
      exact J_sub [1, 2, 3, 0] rfl hw
    · replace hw := hw.2 hb8
      refine J_aload_n rfl (i := 0) rfl dX6_firstCommonStrike_18 ?_
      refine J_iload_n rfl (i := 2) rfl dX6_firstCommonStrike_19 ?_
      refine J_iload_n rfl (i := 3) rfl dX6_firstCommonStrike_20 ?_
      obtain ⟨v5, hc4, hw⟩ := hw
      refine J_callV (as := [.int x2, .int x3]) (k := 38) (st := []) cal_X6_strikesAt cai_X6_strikesAt gw_1194 ⟨by decide, by decide⟩ cnt_X6_strikesAt sh_38 rfl rfl (Nat.le_of_ble_eq_true rfl) dX6_firstCommonStrike_21 (Nat.zero_add _).symm (Nat.zero_add _).symm hc4 ?_
      refine J_if_eq (tgt := 29) dX6_firstCommonStrike_24 (by decide) (fun hb7 => ?_) (fun hb7 => ?_)
      · replace hw := hw.1 hb7
        refine J_iinc [(3, .int (x3 + 1)), (0, .ref 38), (1, .int x1), (2, .int x2)] (i := 3) (v := (x3 + 1)) rfl rfl (by decide) rfl dX6_firstCommonStrike_29 ?_
        refine J_goto (tgt := 2) dX6_firstCommonStrike_32 (by decide) ?_
        exact J_sub [1, 2, 3, 0] rfl hw
      · replace hw := hw.2 hb7
        refine J_iload_n rfl (i := 3) rfl dX6_firstCommonStrike_27 ?_
        exact J_fini (ty := .int) rfl rfl dX6_firstCommonStrike_28 hw
theorem dX6_strikesAt_0 : decode cX6_strikesAt 0 = .ok (.aload_n 0, 1) := by decide +kernel
theorem dX6_strikesAt_1 : decode cX6_strikesAt 1 = .ok (.getfield 21, 3) := by decide +kernel
theorem dX6_strikesAt_4 : decode cX6_strikesAt 4 = .ok (.getfield 40, 3) := by decide +kernel
theorem dX6_strikesAt_7 : decode cX6_strikesAt 7 = .ok (.iload_n 1, 1) := by decide +kernel
theorem dX6_strikesAt_8 : decode cX6_strikesAt 8 = .ok (.iaload, 1) := by decide +kernel
theorem dX6_strikesAt_9 : decode cX6_strikesAt 9 = .ok (.istore_n 3, 1) := by decide +kernel
theorem dX6_strikesAt_10 : decode cX6_strikesAt 10 = .ok (.iload_n 2, 1) := by decide +kernel
theorem dX6_strikesAt_11 : decode cX6_strikesAt 11 = .ok (.aload_n 0, 1) := by decide +kernel
theorem dX6_strikesAt_12 : decode cX6_strikesAt 12 = .ok (.getfield 25, 3) := by decide +kernel
theorem dX6_strikesAt_15 : decode cX6_strikesAt 15 = .ok (.iload_n 1, 1) := by decide +kernel
theorem dX6_strikesAt_16 : decode cX6_strikesAt 16 = .ok (.aaload, 1) := by decide +kernel
theorem dX6_strikesAt_17 : decode cX6_strikesAt 17 = .ok (.getfield 43, 3) := by decide +kernel
theorem dX6_strikesAt_20 : decode cX6_strikesAt 20 = .ok (.isub, 1) := by decide +kernel
theorem dX6_strikesAt_21 : decode cX6_strikesAt 21 = .ok (.istore 4, 2) := by decide +kernel
theorem dX6_strikesAt_23 : decode cX6_strikesAt 23 = .ok (.iload 4, 2) := by decide +kernel
theorem dX6_strikesAt_25 : decode cX6_strikesAt 25 = .ok (.ifCond .lt 7, 3) := by decide +kernel
theorem dX6_strikesAt_28 : decode cX6_strikesAt 28 = .ok (.iload_n 3, 1) := by decide +kernel
theorem dX6_strikesAt_29 : decode cX6_strikesAt 29 = .ok (.ifCond .gt 5, 3) := by decide +kernel
theorem dX6_strikesAt_32 : decode cX6_strikesAt 32 = .ok (.iconst 0, 1) := by decide +kernel
theorem dX6_strikesAt_33 : decode cX6_strikesAt 33 = .ok (.ireturn, 1) := by decide +kernel
theorem dX6_strikesAt_34 : decode cX6_strikesAt 34 = .ok (.iload 4, 2) := by decide +kernel
theorem dX6_strikesAt_36 : decode cX6_strikesAt 36 = .ok (.iload_n 3, 1) := by decide +kernel
theorem dX6_strikesAt_37 : decode cX6_strikesAt 37 = .ok (.irem, 1) := by decide +kernel
theorem dX6_strikesAt_38 : decode cX6_strikesAt 38 = .ok (.istore 5, 2) := by decide +kernel
theorem dX6_strikesAt_40 : decode cX6_strikesAt 40 = .ok (.iload 5, 2) := by decide +kernel
theorem dX6_strikesAt_42 : decode cX6_strikesAt 42 = .ok (.iload_n 3, 1) := by decide +kernel
theorem dX6_strikesAt_43 : decode cX6_strikesAt 43 = .ok (.iconst 4, 1) := by decide +kernel
theorem dX6_strikesAt_44 : decode cX6_strikesAt 44 = .ok (.idiv, 1) := by decide +kernel
theorem dX6_strikesAt_45 : decode cX6_strikesAt 45 = .ok (.if_icmp .eq 13, 3) := by decide +kernel
theorem dX6_strikesAt_48 : decode cX6_strikesAt 48 = .ok (.iload 5, 2) := by decide +kernel
theorem dX6_strikesAt_50 : decode cX6_strikesAt 50 = .ok (.iconst 3, 1) := by decide +kernel
theorem dX6_strikesAt_51 : decode cX6_strikesAt 51 = .ok (.iload_n 3, 1) := by decide +kernel
theorem dX6_strikesAt_52 : decode cX6_strikesAt 52 = .ok (.imul, 1) := by decide +kernel
theorem dX6_strikesAt_53 : decode cX6_strikesAt 53 = .ok (.iconst 4, 1) := by decide +kernel
theorem dX6_strikesAt_54 : decode cX6_strikesAt 54 = .ok (.idiv, 1) := by decide +kernel
theorem dX6_strikesAt_55 : decode cX6_strikesAt 55 = .ok (.if_icmp .ne 7, 3) := by decide +kernel
theorem dX6_strikesAt_58 : decode cX6_strikesAt 58 = .ok (.iconst 1, 1) := by decide +kernel
theorem dX6_strikesAt_59 : decode cX6_strikesAt 59 = .ok (.goto 4, 3) := by decide +kernel
theorem dX6_strikesAt_62 : decode cX6_strikesAt 62 = .ok (.iconst 0, 1) := by decide +kernel
theorem dX6_strikesAt_63 : decode cX6_strikesAt 63 = .ok (.ireturn, 1) := by decide +kernel
set_option maxRecDepth 20000 in
theorem bX6_strikesAt_0 {G : Gx} {mm : Nat → Nat → Int32} {lm : Nat → Int64} {x1 : Int32} {x2 : Int32} {o : Ou} {z : Wd} {a b : Nat} (hw : ∃ j1 : Nat, x1 = nI j1 ∧ j1 < 8 ∧ ∃ j2 : Nat, x1 = nI j2 ∧ j2 < 8 ∧ (((x2 - (mm (23 + j2) 4)) < 0) → o = .inl (some (.int 0)) ∧ z = (SH, mm, lm)) ∧ ((¬ (x2 - (mm (23 + j2) 4)) < 0) → ((0 < (mm 9 j1)) → ¬ (mm 9 j1) = 0 ∧ ((((x2 - (mm (23 + j2) 4)) - (x2 - (mm (23 + j2) 4)) / (mm 9 j1) * (mm 9 j1)) = ((mm 9 j1) / 4)) → o = .inl (some (.int 1)) ∧ z = (SH, mm, lm)) ∧ ((¬ ((x2 - (mm (23 + j2) 4)) - (x2 - (mm (23 + j2) 4)) / (mm 9 j1) * (mm 9 j1)) = ((mm 9 j1) / 4)) → ((¬ ((x2 - (mm (23 + j2) 4)) - (x2 - (mm (23 + j2) 4)) / (mm 9 j1) * (mm 9 j1)) = ((3 * (mm 9 j1)) / 4)) → o = .inl (some (.int 0)) ∧ z = (SH, mm, lm)) ∧ ((((x2 - (mm (23 + j2) 4)) - (x2 - (mm (23 + j2) 4)) / (mm 9 j1) * (mm 9 j1)) = ((3 * (mm 9 j1)) / 4)) → o = .inl (some (.int 1)) ∧ z = (SH, mm, lm)))) ∧ ((¬ 0 < (mm 9 j1)) → o = .inl (some (.int 0)) ∧ z = (SH, mm, lm)))) :
    J G M_X6_strikesAt 0 [(0, .ref 38), (1, .int x1), (2, .int x2)] [] (SH, mm, lm) false o z false a b := by
  refine J_aload_n rfl (i := 0) rfl dX6_strikesAt_0 ?_
  refine J_getr kls_6 (q := 38) (k := 0) sh_38 (by decide) rfl gw_348 dX6_strikesAt_1 ?_
  refine J_getr kls_7 (q := 4) (k := 4) sh_4 (by decide) rfl gw_193 dX6_strikesAt_4 ?_
  refine J_iload_n rfl (i := 1) rfl dX6_strikesAt_7 ?_
  obtain ⟨j1, ej1, hj1, hw⟩ := hw
  refine J_iald sh_9 ej1 hj1 (by decide) dX6_strikesAt_8 ?_
  refine J_istore_n [(3, .int (mm 9 j1)), (0, .ref 38), (1, .int x1), (2, .int x2)] rfl (i := 3) (by decide) rfl dX6_strikesAt_9 ?_
  refine J_iload_n rfl (i := 2) rfl dX6_strikesAt_10 ?_
  refine J_aload_n rfl (i := 0) rfl dX6_strikesAt_11 ?_
  refine J_getr kls_6 (q := 38) (k := 1) sh_38 (by decide) rfl gw_349 dX6_strikesAt_12 ?_
  refine J_iload_n rfl (i := 1) rfl dX6_strikesAt_15 ?_
  obtain ⟨j2, ej2, hj2, hw⟩ := hw
  refine J_aald (r := 23 + j2) sh_22 ej2 hj2 (by decide) (if_pos hj2) dX6_strikesAt_16 ?_
  refine J_geti kls_0 (q := (23 + j2)) (k := 4) (sh_b23 hj2) (by decide) rfl gw_267 dX6_strikesAt_17 ?_
  refine J_isub dX6_strikesAt_20 ?_
  refine J_istore [(4, .int (x2 - (mm (23 + j2) 4))), (3, .int (mm 9 j1)), (0, .ref 38), (1, .int x1), (2, .int x2)] (i := 4) (by decide) rfl dX6_strikesAt_21 ?_
  refine J_iload (i := 4) rfl dX6_strikesAt_23 ?_
  refine J_if_lt (tgt := 32) dX6_strikesAt_25 (by decide) (fun hb7 => ?_) (fun hb7 => ?_)
  · replace hw := hw.1 hb7
    refine J_iconst (v := 0) (by decide) dX6_strikesAt_32 ?_
    exact J_fini (ty := .boolean) rfl rfl dX6_strikesAt_33 hw
  · replace hw := hw.2 hb7
    refine J_iload_n rfl (i := 3) rfl dX6_strikesAt_28 ?_
    refine J_if_gt (tgt := 34) dX6_strikesAt_29 (by decide) (fun hb6 => ?_) (fun hb6 => ?_)
    · replace hw := hw.1 hb6
      refine J_iload (i := 4) rfl dX6_strikesAt_34 ?_
      refine J_iload_n rfl (i := 3) rfl dX6_strikesAt_36 ?_
      obtain ⟨hz5, hw⟩ := hw
      refine J_irem hz5 dX6_strikesAt_37 ?_
      refine J_istore [(5, .int ((x2 - (mm (23 + j2) 4)) - (x2 - (mm (23 + j2) 4)) / (mm 9 j1) * (mm 9 j1))), (4, .int (x2 - (mm (23 + j2) 4))), (3, .int (mm 9 j1)), (0, .ref 38), (1, .int x1), (2, .int x2)] (i := 5) (by decide) rfl dX6_strikesAt_38 ?_
      refine J_iload (i := 5) rfl dX6_strikesAt_40 ?_
      refine J_iload_n rfl (i := 3) rfl dX6_strikesAt_42 ?_
      refine J_iconst (v := 4) (by decide) dX6_strikesAt_43 ?_
      refine J_idiv (by decide) dX6_strikesAt_44 ?_
      refine J_icmp_eq (tgt := 58) dX6_strikesAt_45 (by decide) (fun hb4 => ?_) (fun hb4 => ?_)
      · replace hw := hw.1 hb4
        refine J_iconst (v := 1) (by decide) dX6_strikesAt_58 ?_
        refine J_goto (tgt := 63) dX6_strikesAt_59 (by decide) ?_
        exact J_fini (ty := .boolean) rfl rfl dX6_strikesAt_63 hw
      · replace hw := hw.2 hb4
        refine J_iload (i := 5) rfl dX6_strikesAt_48 ?_
        refine J_iconst (v := 3) (by decide) dX6_strikesAt_50 ?_
        refine J_iload_n rfl (i := 3) rfl dX6_strikesAt_51 ?_
        refine J_imul dX6_strikesAt_52 ?_
        refine J_iconst (v := 4) (by decide) dX6_strikesAt_53 ?_
        refine J_idiv (by decide) dX6_strikesAt_54 ?_
        refine J_icmp_ne (tgt := 62) dX6_strikesAt_55 (by decide) (fun hb3 => ?_) (fun hb3 => ?_)
        · replace hw := hw.1 hb3
          refine J_iconst (v := 0) (by decide) dX6_strikesAt_62 ?_
          exact J_fini (ty := .boolean) rfl rfl dX6_strikesAt_63 hw
        · replace hw := hw.2 hb3
          refine J_iconst (v := 1) (by decide) dX6_strikesAt_58 ?_
          refine J_goto (tgt := 63) dX6_strikesAt_59 (by decide) ?_
          exact J_fini (ty := .boolean) rfl rfl dX6_strikesAt_63 hw
    · replace hw := hw.2 hb6
      refine J_iconst (v := 0) (by decide) dX6_strikesAt_32 ?_
      exact J_fini (ty := .boolean) rfl rfl dX6_strikesAt_33 hw
