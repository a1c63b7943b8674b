/-! ===== decode rows and walks between cut points, by program (wip/gen/mk10.py) ===== -/
theorem dX2_countOn_0 : decode cX2_countOn 0 = .ok (.iconst 0, 1) := by decide +kernel
theorem dX2_countOn_1 : decode cX2_countOn 1 = .ok (.istore_n 2, 1) := by decide +kernel
theorem dX2_countOn_2 : decode cX2_countOn 2 = .ok (.iconst 0, 1) := by decide +kernel
theorem dX2_countOn_3 : decode cX2_countOn 3 = .ok (.istore_n 3, 1) := by decide +kernel
theorem dX2_countOn_4 : decode cX2_countOn 4 = .ok (.iload_n 3, 1) := by decide +kernel
theorem dX2_countOn_5 : decode cX2_countOn 5 = .ok (.aload_n 0, 1) := by decide +kernel
theorem dX2_countOn_6 : decode cX2_countOn 6 = .ok (.getfield 9, 3) := by decide +kernel
theorem dX2_countOn_9 : decode cX2_countOn 9 = .ok (.getfield 19, 3) := by decide +kernel
theorem dX2_countOn_12 : decode cX2_countOn 12 = .ok (.if_icmp .ge 25, 3) := by decide +kernel
theorem dX2_countOn_15 : decode cX2_countOn 15 = .ok (.aload_n 0, 1) := by decide +kernel
theorem dX2_countOn_16 : decode cX2_countOn 16 = .ok (.getfield 15, 3) := by decide +kernel
theorem dX2_countOn_19 : decode cX2_countOn 19 = .ok (.iload_n 3, 1) := by decide +kernel
theorem dX2_countOn_20 : decode cX2_countOn 20 = .ok (.aaload, 1) := by decide +kernel
theorem dX2_countOn_21 : decode cX2_countOn 21 = .ok (.getfield 24, 3) := by decide +kernel
theorem dX2_countOn_24 : decode cX2_countOn 24 = .ok (.iload_n 1, 1) := by decide +kernel
theorem dX2_countOn_25 : decode cX2_countOn 25 = .ok (.if_icmp .ne 6, 3) := by decide +kernel
theorem dX2_countOn_28 : decode cX2_countOn 28 = .ok (.iinc 2 1, 3) := by decide +kernel
theorem dX2_countOn_31 : decode cX2_countOn 31 = .ok (.iinc 3 1, 3) := by decide +kernel
theorem dX2_countOn_34 : decode cX2_countOn 34 = .ok (.goto (-30), 3) := by decide +kernel
theorem dX2_countOn_37 : decode cX2_countOn 37 = .ok (.iload_n 2, 1) := by decide +kernel
theorem dX2_countOn_38 : decode cX2_countOn 38 = .ok (.ireturn, 1) := by decide +kernel
set_option maxRecDepth 20000 in
theorem bX2_countOn_0 {G : Gx} {mm : Nat → Nat → Int32} {lm : Nat → Int64} {x1 : Int32} {o : Ou} {z : Wd} {a b : Nat} (hw : J G M_X2_countOn 4 [(0, .ref 31), (1, .int x1), (2, .int 0), (3, .int 0)] [] (SH, mm, lm) false o z false a b) :
    J G M_X2_countOn 0 [(0, .ref 31), (1, .int x1)] [] (SH, mm, lm) false o z false a b := by
  refine J_iconst (v := 0) (by decide) dX2_countOn_0 ?_
  refine J_istore_n [(2, .int 0), (0, .ref 31), (1, .int x1)] rfl (i := 2) (by decide) rfl dX2_countOn_1 ?_
  refine J_iconst (v := 0) (by decide) dX2_countOn_2 ?_
  refine J_istore_n [(3, .int 0), (2, .int 0), (0, .ref 31), (1, .int x1)] rfl (i := 3) (by decide) rfl dX2_countOn_3 ?_
  exact J_sub [2, 3, 1, 0] rfl hw
set_option maxRecDepth 20000 in
theorem bX2_countOn_4 {G : Gx} {mm : Nat → Nat → Int32} {lm : Nat → Int64} {x1 : Int32} {x2 : Int32} {x3 : Int32} {o : Ou} {z : Wd} {a b : Nat} (hw : (((mm 4 9) ≤ x3) → o = .inl (some (.int x2)) ∧ z = (SH, mm, lm)) ∧ ((¬ (mm 4 9) ≤ x3) → ∃ j1 : Nat, x3 = nI j1 ∧ j1 < 8 ∧ ((¬ (mm (23 + j1) 0) = x1) → J G M_X2_countOn 4 [(0, .ref 31), (1, .int x1), (2, .int x2), (3, .int (x3 + 1))] [] (SH, mm, lm) false o z false a b) ∧ (((mm (23 + j1) 0) = x1) → J G M_X2_countOn 4 [(0, .ref 31), (1, .int x1), (2, .int (x2 + 1)), (3, .int (x3 + 1))] [] (SH, mm, lm) false o z false a b))) :
    J G M_X2_countOn 4 [(0, .ref 31), (1, .int x1), (2, .int x2), (3, .int x3)] [] (SH, mm, lm) false o z false a b := by
  refine J_iload_n rfl (i := 3) rfl dX2_countOn_4 ?_
  refine J_aload_n rfl (i := 0) rfl dX2_countOn_5 ?_
  refine J_getr kls_2 (q := 31) (k := 0) sh_31 (by decide) rfl gw_301 dX2_countOn_6 ?_
  refine J_geti kls_7 (q := 4) (k := 9) sh_4 (by decide) rfl gw_206 dX2_countOn_9 ?_
  refine J_icmp_ge (tgt := 37) dX2_countOn_12 (by decide) (fun hb3 => ?_) (fun hb3 => ?_)
  · replace hw := hw.1 hb3
    refine J_iload_n rfl (i := 2) rfl dX2_countOn_37 ?_
    exact J_fini (ty := .int) rfl rfl dX2_countOn_38 hw
  · replace hw := hw.2 hb3
    refine J_aload_n rfl (i := 0) rfl dX2_countOn_15 ?_
    refine J_getr kls_2 (q := 31) (k := 1) sh_31 (by decide) rfl gw_302 dX2_countOn_16 ?_
    refine J_iload_n rfl (i := 3) rfl dX2_countOn_19 ?_
    obtain ⟨j1, ej1, hj1, hw⟩ := hw
    refine J_aald (r := 23 + j1) sh_22 ej1 hj1 (by decide) (if_pos hj1) dX2_countOn_20 ?_
    refine J_geti kls_0 (q := (23 + j1)) (k := 0) (sh_b23 hj1) (by decide) rfl gw_251 dX2_countOn_21 ?_
    refine J_iload_n rfl (i := 1) rfl dX2_countOn_24 ?_
    refine J_icmp_ne (tgt := 31) dX2_countOn_25 (by decide) (fun hb2 => ?_) (fun hb2 => ?_)
    · replace hw := hw.1 hb2
      refine J_iinc [(3, .int (x3 + 1)), (0, .ref 31), (1, .int x1), (2, .int x2)] (i := 3) (v := (x3 + 1)) rfl rfl (by decide) rfl dX2_countOn_31 ?_
      refine J_goto (tgt := 4) dX2_countOn_34 (by decide) ?_
      exact J_sub [1, 2, 3, 0] rfl hw
    · replace hw := hw.2 hb2
      refine J_iinc [(2, .int (x2 + 1)), (0, .ref 31), (1, .int x1), (3, .int x3)] (i := 2) (v := (x2 + 1)) rfl rfl (by decide) rfl dX2_countOn_28 ?_
      refine J_iinc [(3, .int (x3 + 1)), (2, .int (x2 + 1)), (0, .ref 31), (1, .int x1)] (i := 3) (v := (x3 + 1)) rfl rfl (by decide) rfl dX2_countOn_31 ?_
      refine J_goto (tgt := 4) dX2_countOn_34 (by decide) ?_
      exact J_sub [2, 3, 1, 0] rfl hw
theorem dX2_momentWithout_0 : decode cX2_momentWithout 0 = .ok (.iconst 0, 1) := by decide +kernel
theorem dX2_momentWithout_1 : decode cX2_momentWithout 1 = .ok (.istore_n 3, 1) := by decide +kernel
theorem dX2_momentWithout_2 : decode cX2_momentWithout 2 = .ok (.iconst 0, 1) := by decide +kernel
theorem dX2_momentWithout_3 : decode cX2_momentWithout 3 = .ok (.istore 4, 2) := by decide +kernel
theorem dX2_momentWithout_5 : decode cX2_momentWithout 5 = .ok (.iload 4, 2) := by decide +kernel
theorem dX2_momentWithout_7 : decode cX2_momentWithout 7 = .ok (.aload_n 0, 1) := by decide +kernel
theorem dX2_momentWithout_8 : decode cX2_momentWithout 8 = .ok (.getfield 9, 3) := by decide +kernel
theorem dX2_momentWithout_11 : decode cX2_momentWithout 11 = .ok (.getfield 19, 3) := by decide +kernel
theorem dX2_momentWithout_14 : decode cX2_momentWithout 14 = .ok (.if_icmp .ge 53, 3) := by decide +kernel
theorem dX2_momentWithout_17 : decode cX2_momentWithout 17 = .ok (.iload 4, 2) := by decide +kernel
theorem dX2_momentWithout_19 : decode cX2_momentWithout 19 = .ok (.iload_n 2, 1) := by decide +kernel
theorem dX2_momentWithout_20 : decode cX2_momentWithout 20 = .ok (.if_icmp .eq 41, 3) := by decide +kernel
theorem dX2_momentWithout_23 : decode cX2_momentWithout 23 = .ok (.aload_n 0, 1) := by decide +kernel
theorem dX2_momentWithout_24 : decode cX2_momentWithout 24 = .ok (.getfield 15, 3) := by decide +kernel
theorem dX2_momentWithout_27 : decode cX2_momentWithout 27 = .ok (.iload 4, 2) := by decide +kernel
theorem dX2_momentWithout_29 : decode cX2_momentWithout 29 = .ok (.aaload, 1) := by decide +kernel
theorem dX2_momentWithout_30 : decode cX2_momentWithout 30 = .ok (.getfield 24, 3) := by decide +kernel
theorem dX2_momentWithout_33 : decode cX2_momentWithout 33 = .ok (.iload_n 1, 1) := by decide +kernel
theorem dX2_momentWithout_34 : decode cX2_momentWithout 34 = .ok (.if_icmp .ne 27, 3) := by decide +kernel
theorem dX2_momentWithout_37 : decode cX2_momentWithout 37 = .ok (.iload_n 3, 1) := by decide +kernel
theorem dX2_momentWithout_38 : decode cX2_momentWithout 38 = .ok (.aload_n 0, 1) := by decide +kernel
theorem dX2_momentWithout_39 : decode cX2_momentWithout 39 = .ok (.getfield 9, 3) := by decide +kernel
theorem dX2_momentWithout_42 : decode cX2_momentWithout 42 = .ok (.getfield 29, 3) := by decide +kernel
theorem dX2_momentWithout_45 : decode cX2_momentWithout 45 = .ok (.iload 4, 2) := by decide +kernel
theorem dX2_momentWithout_47 : decode cX2_momentWithout 47 = .ok (.iaload, 1) := by decide +kernel
theorem dX2_momentWithout_48 : decode cX2_momentWithout 48 = .ok (.aload_n 0, 1) := by decide +kernel
theorem dX2_momentWithout_49 : decode cX2_momentWithout 49 = .ok (.getfield 15, 3) := by decide +kernel
theorem dX2_momentWithout_52 : decode cX2_momentWithout 52 = .ok (.iload 4, 2) := by decide +kernel
theorem dX2_momentWithout_54 : decode cX2_momentWithout 54 = .ok (.aaload, 1) := by decide +kernel
theorem dX2_momentWithout_55 : decode cX2_momentWithout 55 = .ok (.getfield 33, 3) := by decide +kernel
theorem dX2_momentWithout_58 : decode cX2_momentWithout 58 = .ok (.imul, 1) := by decide +kernel
theorem dX2_momentWithout_59 : decode cX2_momentWithout 59 = .ok (.iadd, 1) := by decide +kernel
theorem dX2_momentWithout_60 : decode cX2_momentWithout 60 = .ok (.istore_n 3, 1) := by decide +kernel
theorem dX2_momentWithout_61 : decode cX2_momentWithout 61 = .ok (.iinc 4 1, 3) := by decide +kernel
theorem dX2_momentWithout_64 : decode cX2_momentWithout 64 = .ok (.goto (-59), 3) := by decide +kernel
theorem dX2_momentWithout_67 : decode cX2_momentWithout 67 = .ok (.iload_n 3, 1) := by decide +kernel
theorem dX2_momentWithout_68 : decode cX2_momentWithout 68 = .ok (.ireturn, 1) := by decide +kernel
set_option maxRecDepth 20000 in
theorem bX2_momentWithout_0 {G : Gx} {mm : Nat → Nat → Int32} {lm : Nat → Int64} {x1 : Int32} {x2 : Int32} {o : Ou} {z : Wd} {a b : Nat} (hw : J G M_X2_momentWithout 5 [(0, .ref 31), (1, .int x1), (2, .int x2), (3, .int 0), (4, .int 0)] [] (SH, mm, lm) false o z false a b) :
    J G M_X2_momentWithout 0 [(0, .ref 31), (1, .int x1), (2, .int x2)] [] (SH, mm, lm) false o z false a b := by
  refine J_iconst (v := 0) (by decide) dX2_momentWithout_0 ?_
  refine J_istore_n [(3, .int 0), (0, .ref 31), (1, .int x1), (2, .int x2)] rfl (i := 3) (by decide) rfl dX2_momentWithout_1 ?_
  refine J_iconst (v := 0) (by decide) dX2_momentWithout_2 ?_
  refine J_istore [(4, .int 0), (3, .int 0), (0, .ref 31), (1, .int x1), (2, .int x2)] (i := 4) (by decide) rfl dX2_momentWithout_3 ?_
  exact J_sub [2, 3, 4, 1, 0] rfl hw
set_option maxRecDepth 20000 in
theorem bX2_momentWithout_5 {G : Gx} {mm : Nat → Nat → Int32} {lm : Nat → Int64} {x1 : Int32} {x2 : Int32} {x3 : Int32} {x4 : Int32} {o : Ou} {z : Wd} {a b : Nat} (hw : (((mm 4 9) ≤ x4) → o = .inl (some (.int x3)) ∧ z = (SH, mm, lm)) ∧ ((¬ (mm 4 9) ≤ x4) → ((x4 = x2) → J G M_X2_momentWithout 5 [(0, .ref 31), (1, .int x1), (2, .int x2), (3, .int x3), (4, .int (x4 + 1))] [] (SH, mm, lm) false o z false a b) ∧ ((¬ x4 = x2) → ∃ j1 : Nat, x4 = nI j1 ∧ j1 < 8 ∧ ((¬ (mm (23 + j1) 0) = x1) → J G M_X2_momentWithout 5 [(0, .ref 31), (1, .int x1), (2, .int x2), (3, .int x3), (4, .int (x4 + 1))] [] (SH, mm, lm) false o z false a b) ∧ (((mm (23 + j1) 0) = x1) → ∃ j2 : Nat, x4 = nI j2 ∧ j2 < 8 ∧ ∃ j3 : Nat, x4 = nI j3 ∧ j3 < 8 ∧ J G M_X2_momentWithout 5 [(0, .ref 31), (1, .int x1), (2, .int x2), (3, .int (x3 + ((mm 7 j2) * (mm (23 + j3) 1)))), (4, .int (x4 + 1))] [] (SH, mm, lm) false o z false a b)))) :
    J G M_X2_momentWithout 5 [(0, .ref 31), (1, .int x1), (2, .int x2), (3, .int x3), (4, .int x4)] [] (SH, mm, lm) false o z false a b := by
  refine J_iload (i := 4) rfl dX2_momentWithout_5 ?_
  refine J_aload_n rfl (i := 0) rfl dX2_momentWithout_7 ?_
  refine J_getr kls_2 (q := 31) (k := 0) sh_31 (by decide) rfl gw_301 dX2_momentWithout_8 ?_
  refine J_geti kls_7 (q := 4) (k := 9) sh_4 (by decide) rfl gw_206 dX2_momentWithout_11 ?_
  refine J_icmp_ge (tgt := 67) dX2_momentWithout_14 (by decide) (fun hb6 => ?_) (fun hb6 => ?_)
  · replace hw := hw.1 hb6
    refine J_iload_n rfl (i := 3) rfl dX2_momentWithout_67 ?_
    exact J_fini (ty := .int) rfl rfl dX2_momentWithout_68 hw
  · replace hw := hw.2 hb6
    refine J_iload (i := 4) rfl dX2_momentWithout_17 ?_
    refine J_iload_n rfl (i := 2) rfl dX2_momentWithout_19 ?_
    refine J_icmp_eq (tgt := 61) dX2_momentWithout_20 (by decide) (fun hb5 => ?_) (fun hb5 => ?_)
    · replace hw := hw.1 hb5
      refine J_iinc [(4, .int (x4 + 1)), (0, .ref 31), (1, .int x1), (2, .int x2), (3, .int x3)] (i := 4) (v := (x4 + 1)) rfl rfl (by decide) rfl dX2_momentWithout_61 ?_
      refine J_goto (tgt := 5) dX2_momentWithout_64 (by decide) ?_
      exact J_sub [1, 2, 3, 4, 0] rfl hw
    · replace hw := hw.2 hb5
      refine J_aload_n rfl (i := 0) rfl dX2_momentWithout_23 ?_
      refine J_getr kls_2 (q := 31) (k := 1) sh_31 (by decide) rfl gw_302 dX2_momentWithout_24 ?_
      refine J_iload (i := 4) rfl dX2_momentWithout_27 ?_
      obtain ⟨j1, ej1, hj1, hw⟩ := hw
      refine J_aald (r := 23 + j1) sh_22 ej1 hj1 (by decide) (if_pos hj1) dX2_momentWithout_29 ?_
      refine J_geti kls_0 (q := (23 + j1)) (k := 0) (sh_b23 hj1) (by decide) rfl gw_251 dX2_momentWithout_30 ?_
      refine J_iload_n rfl (i := 1) rfl dX2_momentWithout_33 ?_
      refine J_icmp_ne (tgt := 61) dX2_momentWithout_34 (by decide) (fun hb4 => ?_) (fun hb4 => ?_)
      · replace hw := hw.1 hb4
        refine J_iinc [(4, .int (x4 + 1)), (0, .ref 31), (1, .int x1), (2, .int x2), (3, .int x3)] (i := 4) (v := (x4 + 1)) rfl rfl (by decide) rfl dX2_momentWithout_61 ?_
        refine J_goto (tgt := 5) dX2_momentWithout_64 (by decide) ?_
        exact J_sub [1, 2, 3, 4, 0] rfl hw
      · replace hw := hw.2 hb4
        refine J_iload_n rfl (i := 3) rfl dX2_momentWithout_37 ?_
        refine J_aload_n rfl (i := 0) rfl dX2_momentWithout_38 ?_
        refine J_getr kls_2 (q := 31) (k := 0) sh_31 (by decide) rfl gw_301 dX2_momentWithout_39 ?_
        refine J_getr kls_7 (q := 4) (k := 2) sh_4 (by decide) rfl gw_188 dX2_momentWithout_42 ?_
        refine J_iload (i := 4) rfl dX2_momentWithout_45 ?_
        obtain ⟨j2, ej2, hj2, hw⟩ := hw
        refine J_iald sh_7 ej2 hj2 (by decide) dX2_momentWithout_47 ?_
        refine J_aload_n rfl (i := 0) rfl dX2_momentWithout_48 ?_
        refine J_getr kls_2 (q := 31) (k := 1) sh_31 (by decide) rfl gw_302 dX2_momentWithout_49 ?_
        refine J_iload (i := 4) rfl dX2_momentWithout_52 ?_
        obtain ⟨j3, ej3, hj3, hw⟩ := hw
        refine J_aald (r := 23 + j3) sh_22 ej3 hj3 (by decide) (if_pos hj3) dX2_momentWithout_54 ?_
        refine J_geti kls_0 (q := (23 + j3)) (k := 1) (sh_b23 hj3) (by decide) rfl gw_256 dX2_momentWithout_55 ?_
        refine J_imul dX2_momentWithout_58 ?_
        refine J_iadd dX2_momentWithout_59 ?_
        refine J_istore_n [(3, .int (x3 + ((mm 7 j2) * (mm (23 + j3) 1)))), (0, .ref 31), (1, .int x1), (2, .int x2), (4, .int x4)] rfl (i := 3) (by decide) rfl dX2_momentWithout_60 ?_
        refine J_iinc [(4, .int (x4 + 1)), (3, .int (x3 + ((mm 7 j2) * (mm (23 + j3) 1)))), (0, .ref 31), (1, .int x1), (2, .int x2)] (i := 4) (v := (x4 + 1)) rfl rfl (by decide) rfl dX2_momentWithout_61 ?_
        refine J_goto (tgt := 5) dX2_momentWithout_64 (by decide) ?_
        exact J_sub [2, 3, 4, 1, 0] rfl hw
theorem dX2_momentWith_0 : decode cX2_momentWith 0 = .ok (.aload_n 0, 1) := by decide +kernel
theorem dX2_momentWith_1 : decode cX2_momentWith 1 = .ok (.iload_n 2, 1) := by decide +kernel
theorem dX2_momentWith_2 : decode cX2_momentWith 2 = .ok (.iload_n 1, 1) := by decide +kernel
theorem dX2_momentWith_3 : decode cX2_momentWith 3 = .ok (.invokevirtual 36, 3) := by decide +kernel
theorem dX2_momentWith_6 : decode cX2_momentWith 6 = .ok (.aload_n 0, 1) := by decide +kernel
theorem dX2_momentWith_7 : decode cX2_momentWith 7 = .ok (.getfield 9, 3) := by decide +kernel
theorem dX2_momentWith_10 : decode cX2_momentWith 10 = .ok (.getfield 29, 3) := by decide +kernel
theorem dX2_momentWith_13 : decode cX2_momentWith 13 = .ok (.iload_n 1, 1) := by decide +kernel
theorem dX2_momentWith_14 : decode cX2_momentWith 14 = .ok (.iaload, 1) := by decide +kernel
theorem dX2_momentWith_15 : decode cX2_momentWith 15 = .ok (.iload_n 3, 1) := by decide +kernel
theorem dX2_momentWith_16 : decode cX2_momentWith 16 = .ok (.imul, 1) := by decide +kernel
theorem dX2_momentWith_17 : decode cX2_momentWith 17 = .ok (.iadd, 1) := by decide +kernel
theorem dX2_momentWith_18 : decode cX2_momentWith 18 = .ok (.ireturn, 1) := by decide +kernel
set_option maxRecDepth 20000 in
theorem bX2_momentWith_0 {G : Gx} {mm : Nat → Nat → Int32} {lm : Nat → Int64} {x1 : Int32} {x2 : Int32} {x3 : Int32} {o : Ou} {z : Wd} {a b : Nat} (hw : ∃ (v2 : Int32), Ct G M_X2_momentWithout [.ref 31, .int x2, .int x1] (SH, mm, lm) false (.inl (some (.int v2))) (SH, mm, lm) false 0 0 ∧ ∃ j4 : Nat, x1 = nI j4 ∧ j4 < 8 ∧ o = .inl (some (.int (v2 + ((mm 7 j4) * x3)))) ∧ z = (SH, mm, lm)) :
    J G M_X2_momentWith 0 [(0, .ref 31), (1, .int x1), (2, .int x2), (3, .int x3)] [] (SH, mm, lm) false o z false a b := by
  refine J_aload_n rfl (i := 0) rfl dX2_momentWith_0 ?_
  refine J_iload_n rfl (i := 2) rfl dX2_momentWith_1 ?_
  refine J_iload_n rfl (i := 1) rfl dX2_momentWith_2 ?_
  obtain ⟨v2, hc1, hw⟩ := hw
  refine J_callV (as := [.int x2, .int x1]) (k := 31) (st := []) cal_X2_momentWithout cai_X2_momentWithout gw_769 ⟨by decide, by decide⟩ cnt_X2_momentWithout sh_31 rfl rfl (Nat.le_of_ble_eq_true rfl) dX2_momentWith_3 (Nat.zero_add _).symm (Nat.zero_add _).symm hc1 ?_
  refine J_aload_n rfl (i := 0) rfl dX2_momentWith_6 ?_
  refine J_getr kls_2 (q := 31) (k := 0) sh_31 (by decide) rfl gw_301 dX2_momentWith_7 ?_
  refine J_getr kls_7 (q := 4) (k := 2) sh_4 (by decide) rfl gw_188 dX2_momentWith_10 ?_
  refine J_iload_n rfl (i := 1) rfl dX2_momentWith_13 ?_
  obtain ⟨j4, ej4, hj4, hw⟩ := hw
  refine J_iald sh_7 ej4 hj4 (by decide) dX2_momentWith_14 ?_
  refine J_iload_n rfl (i := 3) rfl dX2_momentWith_15 ?_
  refine J_imul dX2_momentWith_16 ?_
  refine J_iadd dX2_momentWith_17 ?_
  exact J_fini (ty := .int) rfl rfl dX2_momentWith_18 hw
theorem dX2_fits_0 : decode cX2_fits 0 = .ok (.iconst 0, 1) := by decide +kernel
theorem dX2_fits_1 : decode cX2_fits 1 = .ok (.istore 4, 2) := by decide +kernel
theorem dX2_fits_3 : decode cX2_fits 3 = .ok (.iload 4, 2) := by decide +kernel
theorem dX2_fits_5 : decode cX2_fits 5 = .ok (.aload_n 0, 1) := by decide +kernel
theorem dX2_fits_6 : decode cX2_fits 6 = .ok (.getfield 9, 3) := by decide +kernel
theorem dX2_fits_9 : decode cX2_fits 9 = .ok (.getfield 19, 3) := by decide +kernel
theorem dX2_fits_12 : decode cX2_fits 12 = .ok (.if_icmp .ge 56, 3) := by decide +kernel
theorem dX2_fits_15 : decode cX2_fits 15 = .ok (.iload 4, 2) := by decide +kernel
theorem dX2_fits_17 : decode cX2_fits 17 = .ok (.iload_n 1, 1) := by decide +kernel
theorem dX2_fits_18 : decode cX2_fits 18 = .ok (.if_icmp .eq 44, 3) := by decide +kernel
theorem dX2_fits_21 : decode cX2_fits 21 = .ok (.aload_n 0, 1) := by decide +kernel
theorem dX2_fits_22 : decode cX2_fits 22 = .ok (.getfield 15, 3) := by decide +kernel
theorem dX2_fits_25 : decode cX2_fits 25 = .ok (.iload 4, 2) := by decide +kernel
theorem dX2_fits_27 : decode cX2_fits 27 = .ok (.aaload, 1) := by decide +kernel
theorem dX2_fits_28 : decode cX2_fits 28 = .ok (.getfield 24, 3) := by decide +kernel
theorem dX2_fits_31 : decode cX2_fits 31 = .ok (.iload_n 2, 1) := by decide +kernel
theorem dX2_fits_32 : decode cX2_fits 32 = .ok (.if_icmp .ne 30, 3) := by decide +kernel
theorem dX2_fits_35 : decode cX2_fits 35 = .ok (.aload_n 0, 1) := by decide +kernel
theorem dX2_fits_36 : decode cX2_fits 36 = .ok (.getfield 9, 3) := by decide +kernel
theorem dX2_fits_39 : decode cX2_fits 39 = .ok (.iload_n 1, 1) := by decide +kernel
theorem dX2_fits_40 : decode cX2_fits 40 = .ok (.iload 4, 2) := by decide +kernel
theorem dX2_fits_42 : decode cX2_fits 42 = .ok (.iload_n 3, 1) := by decide +kernel
theorem dX2_fits_43 : decode cX2_fits 43 = .ok (.aload_n 0, 1) := by decide +kernel
theorem dX2_fits_44 : decode cX2_fits 44 = .ok (.getfield 15, 3) := by decide +kernel
theorem dX2_fits_47 : decode cX2_fits 47 = .ok (.iload 4, 2) := by decide +kernel
theorem dX2_fits_49 : decode cX2_fits 49 = .ok (.aaload, 1) := by decide +kernel
theorem dX2_fits_50 : decode cX2_fits 50 = .ok (.getfield 33, 3) := by decide +kernel
theorem dX2_fits_53 : decode cX2_fits 53 = .ok (.isub, 1) := by decide +kernel
theorem dX2_fits_54 : decode cX2_fits 54 = .ok (.invokevirtual 40, 3) := by decide +kernel
theorem dX2_fits_57 : decode cX2_fits 57 = .ok (.ifCond .ne 5, 3) := by decide +kernel
theorem dX2_fits_60 : decode cX2_fits 60 = .ok (.iconst 0, 1) := by decide +kernel
theorem dX2_fits_61 : decode cX2_fits 61 = .ok (.ireturn, 1) := by decide +kernel
theorem dX2_fits_62 : decode cX2_fits 62 = .ok (.iinc 4 1, 3) := by decide +kernel
theorem dX2_fits_65 : decode cX2_fits 65 = .ok (.goto (-62), 3) := by decide +kernel
theorem dX2_fits_68 : decode cX2_fits 68 = .ok (.iconst 1, 1) := by decide +kernel
theorem dX2_fits_69 : decode cX2_fits 69 = .ok (.ireturn, 1) := by decide +kernel
set_option maxRecDepth 20000 in
theorem bX2_fits_0 {G : Gx} {mm : Nat → Nat → Int32} {lm : Nat → Int64} {x1 : Int32} {x2 : Int32} {x3 : Int32} {o : Ou} {z : Wd} {a b : Nat} (hw : J G M_X2_fits 3 [(0, .ref 31), (1, .int x1), (2, .int x2), (3, .int x3), (4, .int 0)] [] (SH, mm, lm) false o z false a b) :
    J G M_X2_fits 0 [(0, .ref 31), (1, .int x1), (2, .int x2), (3, .int x3)] [] (SH, mm, lm) false o z false a b := by
  refine J_iconst (v := 0) (by decide) dX2_fits_0 ?_
  refine J_istore [(4, .int 0), (0, .ref 31), (1, .int x1), (2, .int x2), (3, .int x3)] (i := 4) (by decide) rfl dX2_fits_1 ?_
  exact J_sub [1, 2, 3, 4, 0] rfl hw
set_option maxRecDepth 20000 in
theorem bX2_fits_3 {G : Gx} {mm : Nat → Nat → Int32} {lm : Nat → Int64} {x1 : Int32} {x2 : Int32} {x3 : Int32} {x4 : Int32} {o : Ou} {z : Wd} {a b : Nat} (hw : (((mm 4 9) ≤ x4) → o = .inl (some (.int 1)) ∧ z = (SH, mm, lm)) ∧ ((¬ (mm 4 9) ≤ x4) → ((x4 = x1) → J G M_X2_fits 3 [(0, .ref 31), (1, .int x1), (2, .int x2), (3, .int x3), (4, .int (x4 + 1))] [] (SH, mm, lm) false o z false a b) ∧ ((¬ x4 = x1) → ∃ j1 : Nat, x4 = nI j1 ∧ j1 < 8 ∧ ((¬ (mm (23 + j1) 0) = x2) → J G M_X2_fits 3 [(0, .ref 31), (1, .int x1), (2, .int x2), (3, .int x3), (4, .int (x4 + 1))] [] (SH, mm, lm) false o z false a b) ∧ (((mm (23 + j1) 0) = x2) → ∃ j2 : Nat, x4 = nI j2 ∧ j2 < 8 ∧ ∃ (v4 : Int32), Ct G M_X7_keepsClear [.ref 4, .int x1, .int x4, .int (x3 - (mm (23 + j2) 1))] (SH, mm, lm) false (.inl (some (.int v4))) (SH, mm, lm) false 0 0 ∧ ((¬ v4 = 0) → J G M_X2_fits 3 [(0, .ref 31), (1, .int x1), (2, .int x2), (3, .int x3), (4, .int (x4 + 1))] [] (SH, mm, lm) false o z false a b) ∧ ((v4 = 0) → o = .inl (some (.int 0)) ∧ z = (SH, mm, lm)))))) :
    J G M_X2_fits 3 [(0, .ref 31), (1, .int x1), (2, .int x2), (3, .int x3), (4, .int x4)] [] (SH, mm, lm) false o z false a b := by
  refine J_iload (i := 4) rfl dX2_fits_3 ?_
  refine J_aload_n rfl (i := 0) rfl dX2_fits_5 ?_
  refine J_getr kls_2 (q := 31) (k := 0) sh_31 (by decide) rfl gw_301 dX2_fits_6 ?_
  refine J_geti kls_7 (q := 4) (k := 9) sh_4 (by decide) rfl gw_206 dX2_fits_9 ?_
  refine J_icmp_ge (tgt := 68) dX2_fits_12 (by decide) (fun hb9 => ?_) (fun hb9 => ?_)
  · replace hw := hw.1 hb9
    refine J_iconst (v := 1) (by decide) dX2_fits_68 ?_
    exact J_fini (ty := .boolean) rfl rfl dX2_fits_69 hw
  · replace hw := hw.2 hb9
    refine J_iload (i := 4) rfl dX2_fits_15 ?_
    refine J_iload_n rfl (i := 1) rfl dX2_fits_17 ?_
    refine J_icmp_eq (tgt := 62) dX2_fits_18 (by decide) (fun hb8 => ?_) (fun hb8 => ?_)
    · replace hw := hw.1 hb8
      refine J_iinc [(4, .int (x4 + 1)), (0, .ref 31), (1, .int x1), (2, .int x2), (3, .int x3)] (i := 4) (v := (x4 + 1)) rfl rfl (by decide) rfl dX2_fits_62 ?_
      refine J_goto (tgt := 3) dX2_fits_65 (by decide) ?_
      exact J_sub [1, 2, 3, 4, 0] rfl hw
    · replace hw := hw.2 hb8
      refine J_aload_n rfl (i := 0) rfl dX2_fits_21 ?_
      refine J_getr kls_2 (q := 31) (k := 1) sh_31 (by decide) rfl gw_302 dX2_fits_22 ?_
      refine J_iload (i := 4) rfl dX2_fits_25 ?_
      obtain ⟨j1, ej1, hj1, hw⟩ := hw
      refine J_aald (r := 23 + j1) sh_22 ej1 hj1 (by decide) (if_pos hj1) dX2_fits_27 ?_
      refine J_geti kls_0 (q := (23 + j1)) (k := 0) (sh_b23 hj1) (by decide) rfl gw_251 dX2_fits_28 ?_
      refine J_iload_n rfl (i := 2) rfl dX2_fits_31 ?_
      refine J_icmp_ne (tgt := 62) dX2_fits_32 (by decide) (fun hb7 => ?_) (fun hb7 => ?_)
      · replace hw := hw.1 hb7
        refine J_iinc [(4, .int (x4 + 1)), (0, .ref 31), (1, .int x1), (2, .int x2), (3, .int x3)] (i := 4) (v := (x4 + 1)) rfl rfl (by decide) rfl dX2_fits_62 ?_
        refine J_goto (tgt := 3) dX2_fits_65 (by decide) ?_
        exact J_sub [1, 2, 3, 4, 0] rfl hw
      · replace hw := hw.2 hb7
        refine J_aload_n rfl (i := 0) rfl dX2_fits_35 ?_
        refine J_getr kls_2 (q := 31) (k := 0) sh_31 (by decide) rfl gw_301 dX2_fits_36 ?_
        refine J_iload_n rfl (i := 1) rfl dX2_fits_39 ?_
        refine J_iload (i := 4) rfl dX2_fits_40 ?_
        refine J_iload_n rfl (i := 3) rfl dX2_fits_42 ?_
        refine J_aload_n rfl (i := 0) rfl dX2_fits_43 ?_
        refine J_getr kls_2 (q := 31) (k := 1) sh_31 (by decide) rfl gw_302 dX2_fits_44 ?_
        refine J_iload (i := 4) rfl dX2_fits_47 ?_
        obtain ⟨j2, ej2, hj2, hw⟩ := hw
        refine J_aald (r := 23 + j2) sh_22 ej2 hj2 (by decide) (if_pos hj2) dX2_fits_49 ?_
        refine J_geti kls_0 (q := (23 + j2)) (k := 1) (sh_b23 hj2) (by decide) rfl gw_256 dX2_fits_50 ?_
        refine J_isub dX2_fits_53 ?_
        obtain ⟨v4, hc3, hw⟩ := hw
        refine J_callV (as := [.int x1, .int x4, .int (x3 - (mm (23 + j2) 1))]) (k := 4) (st := []) cal_X7_keepsClear cai_X7_keepsClear gw_758 ⟨by decide, by decide⟩ cnt_X7_keepsClear sh_4 rfl rfl (Nat.le_of_ble_eq_true rfl) dX2_fits_54 (Nat.zero_add _).symm (Nat.zero_add _).symm hc3 ?_
        refine J_if_ne (tgt := 62) dX2_fits_57 (by decide) (fun hb6 => ?_) (fun hb6 => ?_)
        · replace hw := hw.1 hb6
          refine J_iinc [(4, .int (x4 + 1)), (0, .ref 31), (1, .int x1), (2, .int x2), (3, .int x3)] (i := 4) (v := (x4 + 1)) rfl rfl (by decide) rfl dX2_fits_62 ?_
          refine J_goto (tgt := 3) dX2_fits_65 (by decide) ?_
          exact J_sub [1, 2, 3, 4, 0] rfl hw
        · replace hw := hw.2 hb6
          refine J_iconst (v := 0) (by decide) dX2_fits_60 ?_
          exact J_fini (ty := .boolean) rfl rfl dX2_fits_61 hw
theorem dX2_errorOfPlace_0 : decode cX2_errorOfPlace 0 = .ok (.aload_n 0, 1) := by decide +kernel
theorem dX2_errorOfPlace_1 : decode cX2_errorOfPlace 1 = .ok (.iload_n 1, 1) := by decide +kernel
theorem dX2_errorOfPlace_2 : decode cX2_errorOfPlace 2 = .ok (.iload_n 2, 1) := by decide +kernel
theorem dX2_errorOfPlace_3 : decode cX2_errorOfPlace 3 = .ok (.iload_n 3, 1) := by decide +kernel
theorem dX2_errorOfPlace_4 : decode cX2_errorOfPlace 4 = .ok (.invokevirtual 44, 3) := by decide +kernel
theorem dX2_errorOfPlace_7 : decode cX2_errorOfPlace 7 = .ok (.ifCond .ne 6, 3) := by decide +kernel
theorem dX2_errorOfPlace_10 : decode cX2_errorOfPlace 10 = .ok (.bipush (-3), 2) := by decide +kernel
theorem dX2_errorOfPlace_12 : decode cX2_errorOfPlace 12 = .ok (.ireturn, 1) := by decide +kernel
theorem dX2_errorOfPlace_13 : decode cX2_errorOfPlace 13 = .ok (.aload_n 0, 1) := by decide +kernel
theorem dX2_errorOfPlace_14 : decode cX2_errorOfPlace 14 = .ok (.getfield 9, 3) := by decide +kernel
theorem dX2_errorOfPlace_17 : decode cX2_errorOfPlace 17 = .ok (.iload_n 2, 1) := by decide +kernel
theorem dX2_errorOfPlace_18 : decode cX2_errorOfPlace 18 = .ok (.aload_n 0, 1) := by decide +kernel
theorem dX2_errorOfPlace_19 : decode cX2_errorOfPlace 19 = .ok (.iload_n 1, 1) := by decide +kernel
theorem dX2_errorOfPlace_20 : decode cX2_errorOfPlace 20 = .ok (.iload_n 2, 1) := by decide +kernel
theorem dX2_errorOfPlace_21 : decode cX2_errorOfPlace 21 = .ok (.iload_n 3, 1) := by decide +kernel
theorem dX2_errorOfPlace_22 : decode cX2_errorOfPlace 22 = .ok (.invokevirtual 47, 3) := by decide +kernel
theorem dX2_errorOfPlace_25 : decode cX2_errorOfPlace 25 = .ok (.invokevirtual 51, 3) := by decide +kernel
theorem dX2_errorOfPlace_28 : decode cX2_errorOfPlace 28 = .ok (.ifCond .eq 7, 3) := by decide +kernel
theorem dX2_errorOfPlace_31 : decode cX2_errorOfPlace 31 = .ok (.iconst 0, 1) := by decide +kernel
theorem dX2_errorOfPlace_32 : decode cX2_errorOfPlace 32 = .ok (.goto 5, 3) := by decide +kernel
theorem dX2_errorOfPlace_35 : decode cX2_errorOfPlace 35 = .ok (.bipush (-4), 2) := by decide +kernel
theorem dX2_errorOfPlace_37 : decode cX2_errorOfPlace 37 = .ok (.ireturn, 1) := by decide +kernel
set_option maxRecDepth 20000 in
theorem bX2_errorOfPlace_0 {G : Gx} {mm : Nat → Nat → Int32} {lm : Nat → Int64} {x1 : Int32} {x2 : Int32} {x3 : Int32} {o : Ou} {z : Wd} {a b : Nat} (hw : ∃ (v2 : Int32), Ct G M_X2_fits [.ref 31, .int x1, .int x2, .int x3] (SH, mm, lm) false (.inl (some (.int v2))) (SH, mm, lm) false 0 0 ∧ ((¬ v2 = 0) → ∃ (v5 : Int32), Ct G M_X2_momentWith [.ref 31, .int x1, .int x2, .int x3] (SH, mm, lm) false (.inl (some (.int v5))) (SH, mm, lm) false 0 0 ∧ ∃ (v8 : Int32), Ct G M_X7_bears [.ref 4, .int x2, .int v5] (SH, mm, lm) false (.inl (some (.int v8))) (SH, mm, lm) false 0 0 ∧ ((v8 = 0) → o = .inl (some (.int (-4))) ∧ z = (SH, mm, lm)) ∧ ((¬ v8 = 0) → o = .inl (some (.int 0)) ∧ z = (SH, mm, lm))) ∧ ((v2 = 0) → o = .inl (some (.int (-3))) ∧ z = (SH, mm, lm))) :
    J G M_X2_errorOfPlace 0 [(0, .ref 31), (1, .int x1), (2, .int x2), (3, .int x3)] [] (SH, mm, lm) false o z false a b := by
  refine J_aload_n rfl (i := 0) rfl dX2_errorOfPlace_0 ?_
  refine J_iload_n rfl (i := 1) rfl dX2_errorOfPlace_1 ?_
  refine J_iload_n rfl (i := 2) rfl dX2_errorOfPlace_2 ?_
  refine J_iload_n rfl (i := 3) rfl dX2_errorOfPlace_3 ?_
  obtain ⟨v2, hc1, hw⟩ := hw
  refine J_callV (as := [.int x1, .int x2, .int x3]) (k := 31) (st := []) cal_X2_fits cai_X2_fits gw_754 ⟨by decide, by decide⟩ cnt_X2_fits sh_31 rfl rfl (Nat.le_of_ble_eq_true rfl) dX2_errorOfPlace_4 (Nat.zero_add _).symm (Nat.zero_add _).symm hc1 ?_
  refine J_if_ne (tgt := 13) dX2_errorOfPlace_7 (by decide) (fun hb11 => ?_) (fun hb11 => ?_)
  · replace hw := hw.1 hb11
    refine J_aload_n rfl (i := 0) rfl dX2_errorOfPlace_13 ?_
    refine J_getr kls_2 (q := 31) (k := 0) sh_31 (by decide) rfl gw_301 dX2_errorOfPlace_14 ?_
    refine J_iload_n rfl (i := 2) rfl dX2_errorOfPlace_17 ?_
    refine J_aload_n rfl (i := 0) rfl dX2_errorOfPlace_18 ?_
    refine J_iload_n rfl (i := 1) rfl dX2_errorOfPlace_19 ?_
    refine J_iload_n rfl (i := 2) rfl dX2_errorOfPlace_20 ?_
    refine J_iload_n rfl (i := 3) rfl dX2_errorOfPlace_21 ?_
    obtain ⟨v5, hc4, hw⟩ := hw
    refine J_callV (as := [.int x1, .int x2, .int x3]) (k := 31) (st := [.int x2, .ref 4]) cal_X2_momentWith cai_X2_momentWith gw_765 ⟨by decide, by decide⟩ cnt_X2_momentWith sh_31 rfl rfl (Nat.le_of_ble_eq_true rfl) dX2_errorOfPlace_22 (Nat.zero_add _).symm (Nat.zero_add _).symm hc4 ?_
    obtain ⟨v8, hc7, hw⟩ := hw
    refine J_callV (as := [.int x2, .int v5]) (k := 4) (st := []) cal_X7_bears cai_X7_bears gw_773 ⟨by decide, by decide⟩ cnt_X7_bears sh_4 rfl rfl (Nat.le_of_ble_eq_true rfl) dX2_errorOfPlace_25 (Nat.zero_add _).symm (Nat.zero_add _).symm hc7 ?_
    refine J_if_eq (tgt := 35) dX2_errorOfPlace_28 (by decide) (fun hb10 => ?_) (fun hb10 => ?_)
    · replace hw := hw.1 hb10
      refine J_bipush (v := (-4)) (by decide) dX2_errorOfPlace_35 ?_
      exact J_fini (ty := .int) rfl rfl dX2_errorOfPlace_37 hw
    · replace hw := hw.2 hb10
      refine J_iconst (v := 0) (by decide) dX2_errorOfPlace_31 ?_
      refine J_goto (tgt := 37) dX2_errorOfPlace_32 (by decide) ?_
      exact J_fini (ty := .int) rfl rfl dX2_errorOfPlace_37 hw
  · replace hw := hw.2 hb11
    refine J_bipush (v := (-3)) (by decide) dX2_errorOfPlace_10 ?_
    exact J_fini (ty := .int) rfl rfl dX2_errorOfPlace_12 hw
theorem dX2_countPlaces_0 : decode cX2_countPlaces 0 = .ok (.iconst 0, 1) := by decide +kernel
theorem dX2_countPlaces_1 : decode cX2_countPlaces 1 = .ok (.istore_n 3, 1) := by decide +kernel
theorem dX2_countPlaces_2 : decode cX2_countPlaces 2 = .ok (.bipush (-15), 2) := by decide +kernel
theorem dX2_countPlaces_4 : decode cX2_countPlaces 4 = .ok (.istore 4, 2) := by decide +kernel
theorem dX2_countPlaces_6 : decode cX2_countPlaces 6 = .ok (.iload 4, 2) := by decide +kernel
theorem dX2_countPlaces_8 : decode cX2_countPlaces 8 = .ok (.bipush 15, 2) := by decide +kernel
theorem dX2_countPlaces_10 : decode cX2_countPlaces 10 = .ok (.if_icmp .gt 23, 3) := by decide +kernel
theorem dX2_countPlaces_13 : decode cX2_countPlaces 13 = .ok (.aload_n 0, 1) := by decide +kernel
theorem dX2_countPlaces_14 : decode cX2_countPlaces 14 = .ok (.iload_n 1, 1) := by decide +kernel
theorem dX2_countPlaces_15 : decode cX2_countPlaces 15 = .ok (.iload_n 2, 1) := by decide +kernel
theorem dX2_countPlaces_16 : decode cX2_countPlaces 16 = .ok (.iload 4, 2) := by decide +kernel
theorem dX2_countPlaces_18 : decode cX2_countPlaces 18 = .ok (.invokevirtual 55, 3) := by decide +kernel
theorem dX2_countPlaces_21 : decode cX2_countPlaces 21 = .ok (.ifCond .ne 6, 3) := by decide +kernel
theorem dX2_countPlaces_24 : decode cX2_countPlaces 24 = .ok (.iinc 3 1, 3) := by decide +kernel
theorem dX2_countPlaces_27 : decode cX2_countPlaces 27 = .ok (.iinc 4 1, 3) := by decide +kernel
theorem dX2_countPlaces_30 : decode cX2_countPlaces 30 = .ok (.goto (-24), 3) := by decide +kernel
theorem dX2_countPlaces_33 : decode cX2_countPlaces 33 = .ok (.iload_n 3, 1) := by decide +kernel
theorem dX2_countPlaces_34 : decode cX2_countPlaces 34 = .ok (.ireturn, 1) := by decide +kernel
set_option maxRecDepth 20000 in
theorem bX2_countPlaces_0 {G : Gx} {mm : Nat → Nat → Int32} {lm : Nat → Int64} {x1 : Int32} {x2 : Int32} {o : Ou} {z : Wd} {a b : Nat} (hw : J G M_X2_countPlaces 6 [(0, .ref 31), (1, .int x1), (2, .int x2), (3, .int 0), (4, .int (-15))] [] (SH, mm, lm) false o z false a b) :
    J G M_X2_countPlaces 0 [(0, .ref 31), (1, .int x1), (2, .int x2)] [] (SH, mm, lm) false o z false a b := by
  refine J_iconst (v := 0) (by decide) dX2_countPlaces_0 ?_
  refine J_istore_n [(3, .int 0), (0, .ref 31), (1, .int x1), (2, .int x2)] rfl (i := 3) (by decide) rfl dX2_countPlaces_1 ?_
  refine J_bipush (v := (-15)) (by decide) dX2_countPlaces_2 ?_
  refine J_istore [(4, .int (-15)), (3, .int 0), (0, .ref 31), (1, .int x1), (2, .int x2)] (i := 4) (by decide) rfl dX2_countPlaces_4 ?_
  exact J_sub [2, 3, 4, 1, 0] rfl hw
set_option maxRecDepth 20000 in
theorem bX2_countPlaces_6 {G : Gx} {mm : Nat → Nat → Int32} {lm : Nat → Int64} {x1 : Int32} {x2 : Int32} {x3 : Int32} {x4 : Int32} {o : Ou} {z : Wd} {a b : Nat} (hw : ((15 < x4) → o = .inl (some (.int x3)) ∧ z = (SH, mm, lm)) ∧ ((¬ 15 < x4) → ∃ (v2 : Int32), Ct G M_X2_errorOfPlace [.ref 31, .int x1, .int x2, .int x4] (SH, mm, lm) false (.inl (some (.int v2))) (SH, mm, lm) false 0 0 ∧ ((¬ v2 = 0) → J G M_X2_countPlaces 6 [(0, .ref 31), (1, .int x1), (2, .int x2), (3, .int x3), (4, .int (x4 + 1))] [] (SH, mm, lm) false o z false a b) ∧ ((v2 = 0) → J G M_X2_countPlaces 6 [(0, .ref 31), (1, .int x1), (2, .int x2), (3, .int (x3 + 1)), (4, .int (x4 + 1))] [] (SH, mm, lm) false o z false a b))) :
    J G M_X2_countPlaces 6 [(0, .ref 31), (1, .int x1), (2, .int x2), (3, .int x3), (4, .int x4)] [] (SH, mm, lm) false o z false a b := by
  refine J_iload (i := 4) rfl dX2_countPlaces_6 ?_
  refine J_bipush (v := 15) (by decide) dX2_countPlaces_8 ?_
  refine J_icmp_gt (tgt := 33) dX2_countPlaces_10 (by decide) (fun hb5 => ?_) (fun hb5 => ?_)
  · replace hw := hw.1 hb5
    refine J_iload_n rfl (i := 3) rfl dX2_countPlaces_33 ?_
    exact J_fini (ty := .int) rfl rfl dX2_countPlaces_34 hw
  · replace hw := hw.2 hb5
    refine J_aload_n rfl (i := 0) rfl dX2_countPlaces_13 ?_
    refine J_iload_n rfl (i := 1) rfl dX2_countPlaces_14 ?_
    refine J_iload_n rfl (i := 2) rfl dX2_countPlaces_15 ?_
    refine J_iload (i := 4) rfl dX2_countPlaces_16 ?_
    obtain ⟨v2, hc1, hw⟩ := hw
    refine J_callV (as := [.int x1, .int x2, .int x4]) (k := 31) (st := []) cal_X2_errorOfPlace cai_X2_errorOfPlace gw_883 ⟨by decide, by decide⟩ cnt_X2_errorOfPlace sh_31 rfl rfl (Nat.le_of_ble_eq_true rfl) dX2_countPlaces_18 (Nat.zero_add _).symm (Nat.zero_add _).symm hc1 ?_
    refine J_if_ne (tgt := 27) dX2_countPlaces_21 (by decide) (fun hb4 => ?_) (fun hb4 => ?_)
    · replace hw := hw.1 hb4
      refine J_iinc [(4, .int (x4 + 1)), (0, .ref 31), (1, .int x1), (2, .int x2), (3, .int x3)] (i := 4) (v := (x4 + 1)) rfl rfl (by decide) rfl dX2_countPlaces_27 ?_
      refine J_goto (tgt := 6) dX2_countPlaces_30 (by decide) ?_
      exact J_sub [1, 2, 3, 4, 0] rfl hw
    · replace hw := hw.2 hb4
      refine J_iinc [(3, .int (x3 + 1)), (0, .ref 31), (1, .int x1), (2, .int x2), (4, .int x4)] (i := 3) (v := (x3 + 1)) rfl rfl (by decide) rfl dX2_countPlaces_24 ?_
      refine J_iinc [(4, .int (x4 + 1)), (3, .int (x3 + 1)), (0, .ref 31), (1, .int x1), (2, .int x2)] (i := 4) (v := (x4 + 1)) rfl rfl (by decide) rfl dX2_countPlaces_27 ?_
      refine J_goto (tgt := 6) dX2_countPlaces_30 (by decide) ?_
      exact J_sub [2, 3, 4, 1, 0] rfl hw
theorem dX2_calmestPlace_0 : decode cX2_calmestPlace 0 = .ok (.bipush (-3), 2) := by decide +kernel
theorem dX2_calmestPlace_2 : decode cX2_calmestPlace 2 = .ok (.istore_n 3, 1) := by decide +kernel
theorem dX2_calmestPlace_3 : decode cX2_calmestPlace 3 = .ok (.ldc 58, 2) := by decide +kernel
theorem dX2_calmestPlace_5 : decode cX2_calmestPlace 5 = .ok (.istore 4, 2) := by decide +kernel
theorem dX2_calmestPlace_7 : decode cX2_calmestPlace 7 = .ok (.bipush (-15), 2) := by decide +kernel
theorem dX2_calmestPlace_9 : decode cX2_calmestPlace 9 = .ok (.istore 5, 2) := by decide +kernel
theorem dX2_calmestPlace_11 : decode cX2_calmestPlace 11 = .ok (.iload 5, 2) := by decide +kernel
theorem dX2_calmestPlace_13 : decode cX2_calmestPlace 13 = .ok (.bipush 15, 2) := by decide +kernel
theorem dX2_calmestPlace_15 : decode cX2_calmestPlace 15 = .ok (.if_icmp .gt 50, 3) := by decide +kernel
theorem dX2_calmestPlace_18 : decode cX2_calmestPlace 18 = .ok (.aload_n 0, 1) := by decide +kernel
theorem dX2_calmestPlace_19 : decode cX2_calmestPlace 19 = .ok (.iload_n 1, 1) := by decide +kernel
theorem dX2_calmestPlace_20 : decode cX2_calmestPlace 20 = .ok (.iload_n 2, 1) := by decide +kernel
theorem dX2_calmestPlace_21 : decode cX2_calmestPlace 21 = .ok (.iload 5, 2) := by decide +kernel
theorem dX2_calmestPlace_23 : decode cX2_calmestPlace 23 = .ok (.invokevirtual 47, 3) := by decide +kernel
theorem dX2_calmestPlace_26 : decode cX2_calmestPlace 26 = .ok (.invokestatic 59, 3) := by decide +kernel
theorem dX2_calmestPlace_29 : decode cX2_calmestPlace 29 = .ok (.istore 6, 2) := by decide +kernel
theorem dX2_calmestPlace_31 : decode cX2_calmestPlace 31 = .ok (.iload 6, 2) := by decide +kernel
theorem dX2_calmestPlace_33 : decode cX2_calmestPlace 33 = .ok (.iload 4, 2) := by decide +kernel
theorem dX2_calmestPlace_35 : decode cX2_calmestPlace 35 = .ok (.if_icmp .ge 24, 3) := by decide +kernel
theorem dX2_calmestPlace_38 : decode cX2_calmestPlace 38 = .ok (.aload_n 0, 1) := by decide +kernel
theorem dX2_calmestPlace_39 : decode cX2_calmestPlace 39 = .ok (.iload_n 1, 1) := by decide +kernel
theorem dX2_calmestPlace_40 : decode cX2_calmestPlace 40 = .ok (.iload_n 2, 1) := by decide +kernel
theorem dX2_calmestPlace_41 : decode cX2_calmestPlace 41 = .ok (.iload 5, 2) := by decide +kernel
theorem dX2_calmestPlace_43 : decode cX2_calmestPlace 43 = .ok (.invokevirtual 55, 3) := by decide +kernel
theorem dX2_calmestPlace_46 : decode cX2_calmestPlace 46 = .ok (.ifCond .ne 13, 3) := by decide +kernel
theorem dX2_calmestPlace_49 : decode cX2_calmestPlace 49 = .ok (.iload 6, 2) := by decide +kernel
theorem dX2_calmestPlace_51 : decode cX2_calmestPlace 51 = .ok (.istore 4, 2) := by decide +kernel
theorem dX2_calmestPlace_53 : decode cX2_calmestPlace 53 = .ok (.bipush 100, 2) := by decide +kernel
theorem dX2_calmestPlace_55 : decode cX2_calmestPlace 55 = .ok (.iload 5, 2) := by decide +kernel
theorem dX2_calmestPlace_57 : decode cX2_calmestPlace 57 = .ok (.iadd, 1) := by decide +kernel
theorem dX2_calmestPlace_58 : decode cX2_calmestPlace 58 = .ok (.istore_n 3, 1) := by decide +kernel
theorem dX2_calmestPlace_59 : decode cX2_calmestPlace 59 = .ok (.iinc 5 1, 3) := by decide +kernel
theorem dX2_calmestPlace_62 : decode cX2_calmestPlace 62 = .ok (.goto (-51), 3) := by decide +kernel
theorem dX2_calmestPlace_65 : decode cX2_calmestPlace 65 = .ok (.iload_n 3, 1) := by decide +kernel
theorem dX2_calmestPlace_66 : decode cX2_calmestPlace 66 = .ok (.ireturn, 1) := by decide +kernel
set_option maxRecDepth 20000 in
theorem bX2_calmestPlace_0 {G : Gx} {mm : Nat → Nat → Int32} {lm : Nat → Int64} {x1 : Int32} {x2 : Int32} {o : Ou} {z : Wd} {a b : Nat} (hw : J G M_X2_calmestPlace 11 [(0, .ref 31), (1, .int x1), (2, .int x2), (3, .int (-3)), (4, .int 2147483647), (5, .int (-15))] [] (SH, mm, lm) false o z false a b) :
    J G M_X2_calmestPlace 0 [(0, .ref 31), (1, .int x1), (2, .int x2)] [] (SH, mm, lm) false o z false a b := by
  refine J_bipush (v := (-3)) (by decide) dX2_calmestPlace_0 ?_
  refine J_istore_n [(3, .int (-3)), (0, .ref 31), (1, .int x1), (2, .int x2)] rfl (i := 3) (by decide) rfl dX2_calmestPlace_2 ?_
  refine J_ldc gw_895 dX2_calmestPlace_3 ?_
  refine J_istore [(4, .int 2147483647), (3, .int (-3)), (0, .ref 31), (1, .int x1), (2, .int x2)] (i := 4) (by decide) rfl dX2_calmestPlace_5 ?_
  refine J_bipush (v := (-15)) (by decide) dX2_calmestPlace_7 ?_
  refine J_istore [(5, .int (-15)), (4, .int 2147483647), (3, .int (-3)), (0, .ref 31), (1, .int x1), (2, .int x2)] (i := 5) (by decide) rfl dX2_calmestPlace_9 ?_
  exact J_sub [3, 4, 5, 2, 1, 0] rfl hw
set_option maxRecDepth 20000 in
theorem bX2_calmestPlace_11 {G : Gx} {mm : Nat → Nat → Int32} {lm : Nat → Int64} {x1 : Int32} {x2 : Int32} {x3 : Int32} {x4 : Int32} {x5 : Int32} {o : Ou} {z : Wd} {a b : Nat} (hw : ((15 < x5) → o = .inl (some (.int x3)) ∧ z = (SH, mm, lm)) ∧ ((¬ 15 < x5) → ∃ (v2 : Int32), Ct G M_X2_momentWith [.ref 31, .int x1, .int x2, .int x5] (SH, mm, lm) false (.inl (some (.int v2))) (SH, mm, lm) false 0 0 ∧ ∃ (v5 : Int32), Ct G M_J9_abs_0f7a4 [.int v2] (SH, mm, lm) false (.inl (some (.int v5))) (SH, mm, lm) false 0 0 ∧ ((x4 ≤ v5) → J G M_X2_calmestPlace 11 [(0, .ref 31), (1, .int x1), (2, .int x2), (3, .int x3), (4, .int x4), (5, .int (x5 + 1))] [] (SH, mm, lm) false o z false a b) ∧ ((¬ x4 ≤ v5) → ∃ (v8 : Int32), Ct G M_X2_errorOfPlace [.ref 31, .int x1, .int x2, .int x5] (SH, mm, lm) false (.inl (some (.int v8))) (SH, mm, lm) false 0 0 ∧ ((¬ v8 = 0) → J G M_X2_calmestPlace 11 [(0, .ref 31), (1, .int x1), (2, .int x2), (3, .int x3), (4, .int x4), (5, .int (x5 + 1))] [] (SH, mm, lm) false o z false a b) ∧ ((v8 = 0) → J G M_X2_calmestPlace 11 [(0, .ref 31), (1, .int x1), (2, .int x2), (3, .int (100 + x5)), (4, .int v5), (5, .int (x5 + 1))] [] (SH, mm, lm) false o z false a b)))) :
    J G M_X2_calmestPlace 11 [(0, .ref 31), (1, .int x1), (2, .int x2), (3, .int x3), (4, .int x4), (5, .int x5)] [] (SH, mm, lm) false o z false a b := by
  refine J_iload (i := 5) rfl dX2_calmestPlace_11 ?_
  refine J_bipush (v := 15) (by decide) dX2_calmestPlace_13 ?_
  refine J_icmp_gt (tgt := 65) dX2_calmestPlace_15 (by decide) (fun hb12 => ?_) (fun hb12 => ?_)
  · replace hw := hw.1 hb12
    refine J_iload_n rfl (i := 3) rfl dX2_calmestPlace_65 ?_
    exact J_fini (ty := .int) rfl rfl dX2_calmestPlace_66 hw
  · replace hw := hw.2 hb12
    refine J_aload_n rfl (i := 0) rfl dX2_calmestPlace_18 ?_
    refine J_iload_n rfl (i := 1) rfl dX2_calmestPlace_19 ?_
    refine J_iload_n rfl (i := 2) rfl dX2_calmestPlace_20 ?_
    refine J_iload (i := 5) rfl dX2_calmestPlace_21 ?_
    obtain ⟨v2, hc1, hw⟩ := hw
    refine J_callV (as := [.int x1, .int x2, .int x5]) (k := 31) (st := []) cal_X2_momentWith cai_X2_momentWith gw_765 ⟨by decide, by decide⟩ cnt_X2_momentWith sh_31 rfl rfl (Nat.le_of_ble_eq_true rfl) dX2_calmestPlace_23 (Nat.zero_add _).symm (Nat.zero_add _).symm hc1 ?_
    obtain ⟨v5, hc4, hw⟩ := hw
    refine J_callS (as := [.int v2]) (st := []) cal_J9_abs_0f7a4 cas_J9_abs_0f7a4 gw_896 ⟨by decide, by decide⟩ cnt_J9_abs_0f7a4 rfl (Nat.le_of_ble_eq_true rfl) dX2_calmestPlace_26 (Nat.zero_add _).symm (Nat.zero_add _).symm hc4 ?_
    refine J_istore [(6, .int v5), (0, .ref 31), (1, .int x1), (2, .int x2), (3, .int x3), (4, .int x4), (5, .int x5)] (i := 6) (by decide) rfl dX2_calmestPlace_29 ?_
    refine J_iload (i := 6) rfl dX2_calmestPlace_31 ?_
    refine J_iload (i := 4) rfl dX2_calmestPlace_33 ?_
    refine J_icmp_ge (tgt := 59) dX2_calmestPlace_35 (by decide) (fun hb11 => ?_) (fun hb11 => ?_)
    · replace hw := hw.1 hb11
      refine J_iinc [(5, .int (x5 + 1)), (6, .int v5), (0, .ref 31), (1, .int x1), (2, .int x2), (3, .int x3), (4, .int x4)] (i := 5) (v := (x5 + 1)) rfl rfl (by decide) rfl dX2_calmestPlace_59 ?_
      refine J_goto (tgt := 11) dX2_calmestPlace_62 (by decide) ?_
      exact J_sub [2, 3, 4, 5, 6, 0] rfl hw
    · replace hw := hw.2 hb11
      refine J_aload_n rfl (i := 0) rfl dX2_calmestPlace_38 ?_
      refine J_iload_n rfl (i := 1) rfl dX2_calmestPlace_39 ?_
      refine J_iload_n rfl (i := 2) rfl dX2_calmestPlace_40 ?_
      refine J_iload (i := 5) rfl dX2_calmestPlace_41 ?_
      obtain ⟨v8, hc7, hw⟩ := hw
      refine J_callV (as := [.int x1, .int x2, .int x5]) (k := 31) (st := []) cal_X2_errorOfPlace cai_X2_errorOfPlace gw_883 ⟨by decide, by decide⟩ cnt_X2_errorOfPlace sh_31 rfl rfl (Nat.le_of_ble_eq_true rfl) dX2_calmestPlace_43 (Nat.zero_add _).symm (Nat.zero_add _).symm hc7 ?_
      refine J_if_ne (tgt := 59) dX2_calmestPlace_46 (by decide) (fun hb10 => ?_) (fun hb10 => ?_)
      · replace hw := hw.1 hb10
        refine J_iinc [(5, .int (x5 + 1)), (6, .int v5), (0, .ref 31), (1, .int x1), (2, .int x2), (3, .int x3), (4, .int x4)] (i := 5) (v := (x5 + 1)) rfl rfl (by decide) rfl dX2_calmestPlace_59 ?_
        refine J_goto (tgt := 11) dX2_calmestPlace_62 (by decide) ?_
        exact J_sub [2, 3, 4, 5, 6, 0] rfl hw
      · replace hw := hw.2 hb10
        refine J_iload (i := 6) rfl dX2_calmestPlace_49 ?_
        refine J_istore [(4, .int v5), (6, .int v5), (0, .ref 31), (1, .int x1), (2, .int x2), (3, .int x3), (5, .int x5)] (i := 4) (by decide) rfl dX2_calmestPlace_51 ?_
        refine J_bipush (v := 100) (by decide) dX2_calmestPlace_53 ?_
        refine J_iload (i := 5) rfl dX2_calmestPlace_55 ?_
        refine J_iadd dX2_calmestPlace_57 ?_
        refine J_istore_n [(3, .int (100 + x5)), (4, .int v5), (6, .int v5), (0, .ref 31), (1, .int x1), (2, .int x2), (5, .int x5)] rfl (i := 3) (by decide) rfl dX2_calmestPlace_58 ?_
        refine J_iinc [(5, .int (x5 + 1)), (3, .int (100 + x5)), (4, .int v5), (6, .int v5), (0, .ref 31), (1, .int x1), (2, .int x2)] (i := 5) (v := (x5 + 1)) rfl rfl (by decide) rfl dX2_calmestPlace_59 ?_
        refine J_goto (tgt := 11) dX2_calmestPlace_62 (by decide) ?_
        exact J_sub [4, 5, 6, 1, 2, 0] rfl hw
theorem dX2_bellInPlace_0 : decode cX2_bellInPlace 0 = .ok (.iconst 0, 1) := by decide +kernel
theorem dX2_bellInPlace_1 : decode cX2_bellInPlace 1 = .ok (.istore_n 3, 1) := by decide +kernel
theorem dX2_bellInPlace_2 : decode cX2_bellInPlace 2 = .ok (.iload_n 3, 1) := by decide +kernel
theorem dX2_bellInPlace_3 : decode cX2_bellInPlace 3 = .ok (.aload_n 0, 1) := by decide +kernel
theorem dX2_bellInPlace_4 : decode cX2_bellInPlace 4 = .ok (.getfield 9, 3) := by decide +kernel
theorem dX2_bellInPlace_7 : decode cX2_bellInPlace 7 = .ok (.getfield 19, 3) := by decide +kernel
theorem dX2_bellInPlace_10 : decode cX2_bellInPlace 10 = .ok (.if_icmp .ge 33, 3) := by decide +kernel
theorem dX2_bellInPlace_13 : decode cX2_bellInPlace 13 = .ok (.aload_n 0, 1) := by decide +kernel
theorem dX2_bellInPlace_14 : decode cX2_bellInPlace 14 = .ok (.getfield 15, 3) := by decide +kernel
theorem dX2_bellInPlace_17 : decode cX2_bellInPlace 17 = .ok (.iload_n 3, 1) := by decide +kernel
theorem dX2_bellInPlace_18 : decode cX2_bellInPlace 18 = .ok (.aaload, 1) := by decide +kernel
theorem dX2_bellInPlace_19 : decode cX2_bellInPlace 19 = .ok (.getfield 24, 3) := by decide +kernel
theorem dX2_bellInPlace_22 : decode cX2_bellInPlace 22 = .ok (.iload_n 1, 1) := by decide +kernel
theorem dX2_bellInPlace_23 : decode cX2_bellInPlace 23 = .ok (.if_icmp .ne 14, 3) := by decide +kernel
theorem dX2_bellInPlace_26 : decode cX2_bellInPlace 26 = .ok (.aload_n 0, 1) := by decide +kernel
theorem dX2_bellInPlace_27 : decode cX2_bellInPlace 27 = .ok (.iload_n 3, 1) := by decide +kernel
theorem dX2_bellInPlace_28 : decode cX2_bellInPlace 28 = .ok (.invokevirtual 65, 3) := by decide +kernel
theorem dX2_bellInPlace_31 : decode cX2_bellInPlace 31 = .ok (.iload_n 2, 1) := by decide +kernel
theorem dX2_bellInPlace_32 : decode cX2_bellInPlace 32 = .ok (.if_icmp .ne 5, 3) := by decide +kernel
theorem dX2_bellInPlace_35 : decode cX2_bellInPlace 35 = .ok (.iload_n 3, 1) := by decide +kernel
theorem dX2_bellInPlace_36 : decode cX2_bellInPlace 36 = .ok (.ireturn, 1) := by decide +kernel
theorem dX2_bellInPlace_37 : decode cX2_bellInPlace 37 = .ok (.iinc 3 1, 3) := by decide +kernel
theorem dX2_bellInPlace_40 : decode cX2_bellInPlace 40 = .ok (.goto (-38), 3) := by decide +kernel
theorem dX2_bellInPlace_43 : decode cX2_bellInPlace 43 = .ok (.bipush (-2), 2) := by decide +kernel
theorem dX2_bellInPlace_45 : decode cX2_bellInPlace 45 = .ok (.ireturn, 1) := by decide +kernel
set_option maxRecDepth 20000 in
theorem bX2_bellInPlace_0 {G : Gx} {mm : Nat → Nat → Int32} {lm : Nat → Int64} {x1 : Int32} {x2 : Int32} {o : Ou} {z : Wd} {a b : Nat} (hw : J G M_X2_bellInPlace 2 [(0, .ref 31), (1, .int x1), (2, .int x2), (3, .int 0)] [] (SH, mm, lm) false o z false a b) :
    J G M_X2_bellInPlace 0 [(0, .ref 31), (1, .int x1), (2, .int x2)] [] (SH, mm, lm) false o z false a b := by
  refine J_iconst (v := 0) (by decide) dX2_bellInPlace_0 ?_
  refine J_istore_n [(3, .int 0), (0, .ref 31), (1, .int x1), (2, .int x2)] rfl (i := 3) (by decide) rfl dX2_bellInPlace_1 ?_
  exact J_sub [1, 2, 3, 0] rfl hw
set_option maxRecDepth 20000 in
theorem bX2_bellInPlace_2 {G : Gx} {mm : Nat → Nat → Int32} {lm : Nat → Int64} {x1 : Int32} {x2 : Int32} {x3 : Int32} {o : Ou} {z : Wd} {a b : Nat} (hw : (((mm 4 9) ≤ x3) → o = .inl (some (.int (-2))) ∧ z = (SH, mm, lm)) ∧ ((¬ (mm 4 9) ≤ x3) → ∃ j1 : Nat, x3 = nI j1 ∧ j1 < 8 ∧ ((¬ (mm (23 + j1) 0) = x1) → J G M_X2_bellInPlace 2 [(0, .ref 31), (1, .int x1), (2, .int x2), (3, .int (x3 + 1))] [] (SH, mm, lm) false o z false a b) ∧ (((mm (23 + j1) 0) = x1) → ∃ (v3 : Int32), Ct G M_X2_countBefore [.ref 31, .int x3] (SH, mm, lm) false (.inl (some (.int v3))) (SH, mm, lm) false 0 0 ∧ ((¬ v3 = x2) → J G M_X2_bellInPlace 2 [(0, .ref 31), (1, .int x1), (2, .int x2), (3, .int (x3 + 1))] [] (SH, mm, lm) false o z false a b) ∧ ((v3 = x2) → o = .inl (some (.int x3)) ∧ z = (SH, mm, lm))))) :
    J G M_X2_bellInPlace 2 [(0, .ref 31), (1, .int x1), (2, .int x2), (3, .int x3)] [] (SH, mm, lm) false o z false a b := by
  refine J_iload_n rfl (i := 3) rfl dX2_bellInPlace_2 ?_
  refine J_aload_n rfl (i := 0) rfl dX2_bellInPlace_3 ?_
  refine J_getr kls_2 (q := 31) (k := 0) sh_31 (by decide) rfl gw_301 dX2_bellInPlace_4 ?_
  refine J_geti kls_7 (q := 4) (k := 9) sh_4 (by decide) rfl gw_206 dX2_bellInPlace_7 ?_
  refine J_icmp_ge (tgt := 43) dX2_bellInPlace_10 (by decide) (fun hb7 => ?_) (fun hb7 => ?_)
  · replace hw := hw.1 hb7
    refine J_bipush (v := (-2)) (by decide) dX2_bellInPlace_43 ?_
    exact J_fini (ty := .int) rfl rfl dX2_bellInPlace_45 hw
  · replace hw := hw.2 hb7
    refine J_aload_n rfl (i := 0) rfl dX2_bellInPlace_13 ?_
    refine J_getr kls_2 (q := 31) (k := 1) sh_31 (by decide) rfl gw_302 dX2_bellInPlace_14 ?_
    refine J_iload_n rfl (i := 3) rfl dX2_bellInPlace_17 ?_
    obtain ⟨j1, ej1, hj1, hw⟩ := hw
    refine J_aald (r := 23 + j1) sh_22 ej1 hj1 (by decide) (if_pos hj1) dX2_bellInPlace_18 ?_
    refine J_geti kls_0 (q := (23 + j1)) (k := 0) (sh_b23 hj1) (by decide) rfl gw_251 dX2_bellInPlace_19 ?_
    refine J_iload_n rfl (i := 1) rfl dX2_bellInPlace_22 ?_
    refine J_icmp_ne (tgt := 37) dX2_bellInPlace_23 (by decide) (fun hb6 => ?_) (fun hb6 => ?_)
    · replace hw := hw.1 hb6
      refine J_iinc [(3, .int (x3 + 1)), (0, .ref 31), (1, .int x1), (2, .int x2)] (i := 3) (v := (x3 + 1)) rfl rfl (by decide) rfl dX2_bellInPlace_37 ?_
      refine J_goto (tgt := 2) dX2_bellInPlace_40 (by decide) ?_
      exact J_sub [1, 2, 3, 0] rfl hw
    · replace hw := hw.2 hb6
      refine J_aload_n rfl (i := 0) rfl dX2_bellInPlace_26 ?_
      refine J_iload_n rfl (i := 3) rfl dX2_bellInPlace_27 ?_
      obtain ⟨v3, hc2, hw⟩ := hw
      refine J_callV (as := [.int x3]) (k := 31) (st := []) cal_X2_countBefore cai_X2_countBefore gw_863 ⟨by decide, by decide⟩ cnt_X2_countBefore sh_31 rfl rfl (Nat.le_of_ble_eq_true rfl) dX2_bellInPlace_28 (Nat.zero_add _).symm (Nat.zero_add _).symm hc2 ?_
      refine J_iload_n rfl (i := 2) rfl dX2_bellInPlace_31 ?_
      refine J_icmp_ne (tgt := 37) dX2_bellInPlace_32 (by decide) (fun hb5 => ?_) (fun hb5 => ?_)
      · replace hw := hw.1 hb5
        refine J_iinc [(3, .int (x3 + 1)), (0, .ref 31), (1, .int x1), (2, .int x2)] (i := 3) (v := (x3 + 1)) rfl rfl (by decide) rfl dX2_bellInPlace_37 ?_
        refine J_goto (tgt := 2) dX2_bellInPlace_40 (by decide) ?_
        exact J_sub [1, 2, 3, 0] rfl hw
      · replace hw := hw.2 hb5
        refine J_iload_n rfl (i := 3) rfl dX2_bellInPlace_35 ?_
        exact J_fini (ty := .int) rfl rfl dX2_bellInPlace_36 hw
theorem dX2_countBefore_0 : decode cX2_countBefore 0 = .ok (.iconst 0, 1) := by decide +kernel
theorem dX2_countBefore_1 : decode cX2_countBefore 1 = .ok (.istore_n 2, 1) := by decide +kernel
theorem dX2_countBefore_2 : decode cX2_countBefore 2 = .ok (.iconst 0, 1) := by decide +kernel
theorem dX2_countBefore_3 : decode cX2_countBefore 3 = .ok (.istore_n 3, 1) := by decide +kernel
theorem dX2_countBefore_4 : decode cX2_countBefore 4 = .ok (.iload_n 3, 1) := by decide +kernel
theorem dX2_countBefore_5 : decode cX2_countBefore 5 = .ok (.aload_n 0, 1) := by decide +kernel
theorem dX2_countBefore_6 : decode cX2_countBefore 6 = .ok (.getfield 9, 3) := by decide +kernel
theorem dX2_countBefore_9 : decode cX2_countBefore 9 = .ok (.getfield 19, 3) := by decide +kernel
theorem dX2_countBefore_12 : decode cX2_countBefore 12 = .ok (.if_icmp .ge 51, 3) := by decide +kernel
theorem dX2_countBefore_15 : decode cX2_countBefore 15 = .ok (.aload_n 0, 1) := by decide +kernel
theorem dX2_countBefore_16 : decode cX2_countBefore 16 = .ok (.getfield 15, 3) := by decide +kernel
theorem dX2_countBefore_19 : decode cX2_countBefore 19 = .ok (.iload_n 3, 1) := by decide +kernel
theorem dX2_countBefore_20 : decode cX2_countBefore 20 = .ok (.aaload, 1) := by decide +kernel
theorem dX2_countBefore_21 : decode cX2_countBefore 21 = .ok (.aload_n 0, 1) := by decide +kernel
theorem dX2_countBefore_22 : decode cX2_countBefore 22 = .ok (.getfield 15, 3) := by decide +kernel
theorem dX2_countBefore_25 : decode cX2_countBefore 25 = .ok (.iload_n 1, 1) := by decide +kernel
theorem dX2_countBefore_26 : decode cX2_countBefore 26 = .ok (.aaload, 1) := by decide +kernel
theorem dX2_countBefore_27 : decode cX2_countBefore 27 = .ok (.invokevirtual 68, 3) := by decide +kernel
theorem dX2_countBefore_30 : decode cX2_countBefore 30 = .ok (.ifCond .eq 27, 3) := by decide +kernel
theorem dX2_countBefore_33 : decode cX2_countBefore 33 = .ok (.aload_n 0, 1) := by decide +kernel
theorem dX2_countBefore_34 : decode cX2_countBefore 34 = .ok (.getfield 15, 3) := by decide +kernel
theorem dX2_countBefore_37 : decode cX2_countBefore 37 = .ok (.iload_n 3, 1) := by decide +kernel
theorem dX2_countBefore_38 : decode cX2_countBefore 38 = .ok (.aaload, 1) := by decide +kernel
theorem dX2_countBefore_39 : decode cX2_countBefore 39 = .ok (.getfield 33, 3) := by decide +kernel
theorem dX2_countBefore_42 : decode cX2_countBefore 42 = .ok (.aload_n 0, 1) := by decide +kernel
theorem dX2_countBefore_43 : decode cX2_countBefore 43 = .ok (.getfield 15, 3) := by decide +kernel
theorem dX2_countBefore_46 : decode cX2_countBefore 46 = .ok (.iload_n 1, 1) := by decide +kernel
theorem dX2_countBefore_47 : decode cX2_countBefore 47 = .ok (.aaload, 1) := by decide +kernel
theorem dX2_countBefore_48 : decode cX2_countBefore 48 = .ok (.getfield 33, 3) := by decide +kernel
theorem dX2_countBefore_51 : decode cX2_countBefore 51 = .ok (.if_icmp .ge 6, 3) := by decide +kernel
theorem dX2_countBefore_54 : decode cX2_countBefore 54 = .ok (.iinc 2 1, 3) := by decide +kernel
theorem dX2_countBefore_57 : decode cX2_countBefore 57 = .ok (.iinc 3 1, 3) := by decide +kernel
theorem dX2_countBefore_60 : decode cX2_countBefore 60 = .ok (.goto (-56), 3) := by decide +kernel
theorem dX2_countBefore_63 : decode cX2_countBefore 63 = .ok (.iload_n 2, 1) := by decide +kernel
theorem dX2_countBefore_64 : decode cX2_countBefore 64 = .ok (.ireturn, 1) := by decide +kernel
set_option maxRecDepth 20000 in
theorem bX2_countBefore_0 {G : Gx} {mm : Nat → Nat → Int32} {lm : Nat → Int64} {x1 : Int32} {o : Ou} {z : Wd} {a b : Nat} (hw : J G M_X2_countBefore 4 [(0, .ref 31), (1, .int x1), (2, .int 0), (3, .int 0)] [] (SH, mm, lm) false o z false a b) :
    J G M_X2_countBefore 0 [(0, .ref 31), (1, .int x1)] [] (SH, mm, lm) false o z false a b := by
  refine J_iconst (v := 0) (by decide) dX2_countBefore_0 ?_
  refine J_istore_n [(2, .int 0), (0, .ref 31), (1, .int x1)] rfl (i := 2) (by decide) rfl dX2_countBefore_1 ?_
  refine J_iconst (v := 0) (by decide) dX2_countBefore_2 ?_
  refine J_istore_n [(3, .int 0), (2, .int 0), (0, .ref 31), (1, .int x1)] rfl (i := 3) (by decide) rfl dX2_countBefore_3 ?_
  exact J_sub [2, 3, 1, 0] rfl hw
set_option maxRecDepth 20000 in
theorem bX2_countBefore_4 {G : Gx} {mm : Nat → Nat → Int32} {lm : Nat → Int64} {x1 : Int32} {x2 : Int32} {x3 : Int32} {o : Ou} {z : Wd} {a b : Nat} (hw : (((mm 4 9) ≤ x3) → o = .inl (some (.int x2)) ∧ z = (SH, mm, lm)) ∧ ((¬ (mm 4 9) ≤ x3) → ∃ j1 : Nat, x3 = nI j1 ∧ j1 < 8 ∧ ∃ j2 : Nat, x1 = nI j2 ∧ j2 < 8 ∧ ∃ (v4 : Int32), Ct G M_X0_sharesBeamWith [.ref (23 + j1), .ref (23 + j2)] (SH, mm, lm) false (.inl (some (.int v4))) (SH, mm, lm) false 0 0 ∧ ((v4 = 0) → J G M_X2_countBefore 4 [(0, .ref 31), (1, .int x1), (2, .int x2), (3, .int (x3 + 1))] [] (SH, mm, lm) false o z false a b) ∧ ((¬ v4 = 0) → ∃ j6 : Nat, x3 = nI j6 ∧ j6 < 8 ∧ ∃ j7 : Nat, x1 = nI j7 ∧ j7 < 8 ∧ (((mm (23 + j7) 1) ≤ (mm (23 + j6) 1)) → J G M_X2_countBefore 4 [(0, .ref 31), (1, .int x1), (2, .int x2), (3, .int (x3 + 1))] [] (SH, mm, lm) false o z false a b) ∧ ((¬ (mm (23 + j7) 1) ≤ (mm (23 + j6) 1)) → J G M_X2_countBefore 4 [(0, .ref 31), (1, .int x1), (2, .int (x2 + 1)), (3, .int (x3 + 1))] [] (SH, mm, lm) false o z false a b)))) :
    J G M_X2_countBefore 4 [(0, .ref 31), (1, .int x1), (2, .int x2), (3, .int x3)] [] (SH, mm, lm) false o z false a b := by
  refine J_iload_n rfl (i := 3) rfl dX2_countBefore_4 ?_
  refine J_aload_n rfl (i := 0) rfl dX2_countBefore_5 ?_
  refine J_getr kls_2 (q := 31) (k := 0) sh_31 (by decide) rfl gw_301 dX2_countBefore_6 ?_
  refine J_geti kls_7 (q := 4) (k := 9) sh_4 (by decide) rfl gw_206 dX2_countBefore_9 ?_
  refine J_icmp_ge (tgt := 63) dX2_countBefore_12 (by decide) (fun hb10 => ?_) (fun hb10 => ?_)
  · replace hw := hw.1 hb10
    refine J_iload_n rfl (i := 2) rfl dX2_countBefore_63 ?_
    exact J_fini (ty := .int) rfl rfl dX2_countBefore_64 hw
  · replace hw := hw.2 hb10
    refine J_aload_n rfl (i := 0) rfl dX2_countBefore_15 ?_
    refine J_getr kls_2 (q := 31) (k := 1) sh_31 (by decide) rfl gw_302 dX2_countBefore_16 ?_
    refine J_iload_n rfl (i := 3) rfl dX2_countBefore_19 ?_
    obtain ⟨j1, ej1, hj1, hw⟩ := hw
    refine J_aald (r := 23 + j1) sh_22 ej1 hj1 (by decide) (if_pos hj1) dX2_countBefore_20 ?_
    refine J_aload_n rfl (i := 0) rfl dX2_countBefore_21 ?_
    refine J_getr kls_2 (q := 31) (k := 1) sh_31 (by decide) rfl gw_302 dX2_countBefore_22 ?_
    refine J_iload_n rfl (i := 1) rfl dX2_countBefore_25 ?_
    obtain ⟨j2, ej2, hj2, hw⟩ := hw
    refine J_aald (r := 23 + j2) sh_22 ej2 hj2 (by decide) (if_pos hj2) dX2_countBefore_26 ?_
    obtain ⟨v4, hc3, hw⟩ := hw
    refine J_callV (as := [.ref (23 + j2)]) (k := (23 + j1)) (st := []) cal_X0_sharesBeamWith cai_X0_sharesBeamWith gw_867 ⟨by decide, by decide⟩ cnt_X0_sharesBeamWith (sh_b23 hj1) rfl rfl (Nat.le_of_ble_eq_true rfl) dX2_countBefore_27 (Nat.zero_add _).symm (Nat.zero_add _).symm hc3 ?_
    refine J_if_eq (tgt := 57) dX2_countBefore_30 (by decide) (fun hb9 => ?_) (fun hb9 => ?_)
    · replace hw := hw.1 hb9
      refine J_iinc [(3, .int (x3 + 1)), (0, .ref 31), (1, .int x1), (2, .int x2)] (i := 3) (v := (x3 + 1)) rfl rfl (by decide) rfl dX2_countBefore_57 ?_
      refine J_goto (tgt := 4) dX2_countBefore_60 (by decide) ?_
      exact J_sub [1, 2, 3, 0] rfl hw
    · replace hw := hw.2 hb9
      refine J_aload_n rfl (i := 0) rfl dX2_countBefore_33 ?_
      refine J_getr kls_2 (q := 31) (k := 1) sh_31 (by decide) rfl gw_302 dX2_countBefore_34 ?_
      refine J_iload_n rfl (i := 3) rfl dX2_countBefore_37 ?_
      obtain ⟨j6, ej6, hj6, hw⟩ := hw
      refine J_aald (r := 23 + j6) sh_22 ej6 hj6 (by decide) (if_pos hj6) dX2_countBefore_38 ?_
      refine J_geti kls_0 (q := (23 + j6)) (k := 1) (sh_b23 hj6) (by decide) rfl gw_256 dX2_countBefore_39 ?_
      refine J_aload_n rfl (i := 0) rfl dX2_countBefore_42 ?_
      refine J_getr kls_2 (q := 31) (k := 1) sh_31 (by decide) rfl gw_302 dX2_countBefore_43 ?_
      refine J_iload_n rfl (i := 1) rfl dX2_countBefore_46 ?_
      obtain ⟨j7, ej7, hj7, hw⟩ := hw
      refine J_aald (r := 23 + j7) sh_22 ej7 hj7 (by decide) (if_pos hj7) dX2_countBefore_47 ?_
      refine J_geti kls_0 (q := (23 + j7)) (k := 1) (sh_b23 hj7) (by decide) rfl gw_256 dX2_countBefore_48 ?_
      refine J_icmp_ge (tgt := 57) dX2_countBefore_51 (by decide) (fun hb8 => ?_) (fun hb8 => ?_)
      · replace hw := hw.1 hb8
        refine J_iinc [(3, .int (x3 + 1)), (0, .ref 31), (1, .int x1), (2, .int x2)] (i := 3) (v := (x3 + 1)) rfl rfl (by decide) rfl dX2_countBefore_57 ?_
        refine J_goto (tgt := 4) dX2_countBefore_60 (by decide) ?_
        exact J_sub [1, 2, 3, 0] rfl hw
      · replace hw := hw.2 hb8
        refine J_iinc [(2, .int (x2 + 1)), (0, .ref 31), (1, .int x1), (3, .int x3)] (i := 2) (v := (x2 + 1)) rfl rfl (by decide) rfl dX2_countBefore_54 ?_
        refine J_iinc [(3, .int (x3 + 1)), (2, .int (x2 + 1)), (0, .ref 31), (1, .int x1)] (i := 3) (v := (x3 + 1)) rfl rfl (by decide) rfl dX2_countBefore_57 ?_
        refine J_goto (tgt := 4) dX2_countBefore_60 (by decide) ?_
        exact J_sub [2, 3, 1, 0] rfl hw
theorem dX2_bestMirror_0 : decode cX2_bestMirror 0 = .ok (.aload_n 0, 1) := by decide +kernel
theorem dX2_bestMirror_1 : decode cX2_bestMirror 1 = .ok (.iload_n 1, 1) := by decide +kernel
theorem dX2_bestMirror_2 : decode cX2_bestMirror 2 = .ok (.invokevirtual 72, 3) := by decide +kernel
theorem dX2_bestMirror_5 : decode cX2_bestMirror 5 = .ok (.istore_n 2, 1) := by decide +kernel
theorem dX2_bestMirror_6 : decode cX2_bestMirror 6 = .ok (.iconst 0, 1) := by decide +kernel
theorem dX2_bestMirror_7 : decode cX2_bestMirror 7 = .ok (.istore_n 3, 1) := by decide +kernel
theorem dX2_bestMirror_8 : decode cX2_bestMirror 8 = .ok (.aload_n 0, 1) := by decide +kernel
theorem dX2_bestMirror_9 : decode cX2_bestMirror 9 = .ok (.iload_n 1, 1) := by decide +kernel
theorem dX2_bestMirror_10 : decode cX2_bestMirror 10 = .ok (.iconst 0, 1) := by decide +kernel
theorem dX2_bestMirror_11 : decode cX2_bestMirror 11 = .ok (.invokevirtual 75, 3) := by decide +kernel
theorem dX2_bestMirror_14 : decode cX2_bestMirror 14 = .ok (.invokestatic 59, 3) := by decide +kernel
theorem dX2_bestMirror_17 : decode cX2_bestMirror 17 = .ok (.istore 4, 2) := by decide +kernel
theorem dX2_bestMirror_19 : decode cX2_bestMirror 19 = .ok (.iconst 1, 1) := by decide +kernel
theorem dX2_bestMirror_20 : decode cX2_bestMirror 20 = .ok (.istore 5, 2) := by decide +kernel
theorem dX2_bestMirror_22 : decode cX2_bestMirror 22 = .ok (.iload 5, 2) := by decide +kernel
theorem dX2_bestMirror_24 : decode cX2_bestMirror 24 = .ok (.iload_n 2, 1) := by decide +kernel
theorem dX2_bestMirror_25 : decode cX2_bestMirror 25 = .ok (.if_icmp .gt 88, 3) := by decide +kernel
theorem dX2_bestMirror_28 : decode cX2_bestMirror 28 = .ok (.iload 5, 2) := by decide +kernel
theorem dX2_bestMirror_30 : decode cX2_bestMirror 30 = .ok (.iload_n 2, 1) := by decide +kernel
theorem dX2_bestMirror_31 : decode cX2_bestMirror 31 = .ok (.iconst (-1), 1) := by decide +kernel
theorem dX2_bestMirror_32 : decode cX2_bestMirror 32 = .ok (.ixor, 1) := by decide +kernel
theorem dX2_bestMirror_33 : decode cX2_bestMirror 33 = .ok (.iand, 1) := by decide +kernel
theorem dX2_bestMirror_34 : decode cX2_bestMirror 34 = .ok (.ifCond .eq 6, 3) := by decide +kernel
theorem dX2_bestMirror_37 : decode cX2_bestMirror 37 = .ok (.goto 70, 3) := by decide +kernel
theorem dX2_bestMirror_40 : decode cX2_bestMirror 40 = .ok (.aload_n 0, 1) := by decide +kernel
theorem dX2_bestMirror_41 : decode cX2_bestMirror 41 = .ok (.iload_n 1, 1) := by decide +kernel
theorem dX2_bestMirror_42 : decode cX2_bestMirror 42 = .ok (.iload 5, 2) := by decide +kernel
theorem dX2_bestMirror_44 : decode cX2_bestMirror 44 = .ok (.invokevirtual 75, 3) := by decide +kernel
theorem dX2_bestMirror_47 : decode cX2_bestMirror 47 = .ok (.invokestatic 59, 3) := by decide +kernel
theorem dX2_bestMirror_50 : decode cX2_bestMirror 50 = .ok (.istore 6, 2) := by decide +kernel
theorem dX2_bestMirror_52 : decode cX2_bestMirror 52 = .ok (.iload 6, 2) := by decide +kernel
theorem dX2_bestMirror_54 : decode cX2_bestMirror 54 = .ok (.iload 4, 2) := by decide +kernel
theorem dX2_bestMirror_56 : decode cX2_bestMirror 56 = .ok (.if_icmp .lt 22, 3) := by decide +kernel
theorem dX2_bestMirror_59 : decode cX2_bestMirror 59 = .ok (.iload 6, 2) := by decide +kernel
theorem dX2_bestMirror_61 : decode cX2_bestMirror 61 = .ok (.iload 4, 2) := by decide +kernel
theorem dX2_bestMirror_63 : decode cX2_bestMirror 63 = .ok (.if_icmp .ne 19, 3) := by decide +kernel
theorem dX2_bestMirror_66 : decode cX2_bestMirror 66 = .ok (.iload 5, 2) := by decide +kernel
theorem dX2_bestMirror_68 : decode cX2_bestMirror 68 = .ok (.invokestatic 78, 3) := by decide +kernel
theorem dX2_bestMirror_71 : decode cX2_bestMirror 71 = .ok (.iload_n 3, 1) := by decide +kernel
theorem dX2_bestMirror_72 : decode cX2_bestMirror 72 = .ok (.invokestatic 78, 3) := by decide +kernel
theorem dX2_bestMirror_75 : decode cX2_bestMirror 75 = .ok (.if_icmp .ge 7, 3) := by decide +kernel
theorem dX2_bestMirror_78 : decode cX2_bestMirror 78 = .ok (.iconst 1, 1) := by decide +kernel
theorem dX2_bestMirror_79 : decode cX2_bestMirror 79 = .ok (.goto 4, 3) := by decide +kernel
theorem dX2_bestMirror_82 : decode cX2_bestMirror 82 = .ok (.iconst 0, 1) := by decide +kernel
theorem dX2_bestMirror_83 : decode cX2_bestMirror 83 = .ok (.istore 7, 2) := by decide +kernel
theorem dX2_bestMirror_85 : decode cX2_bestMirror 85 = .ok (.iload 7, 2) := by decide +kernel
theorem dX2_bestMirror_87 : decode cX2_bestMirror 87 = .ok (.ifCond .eq 20, 3) := by decide +kernel
theorem dX2_bestMirror_90 : decode cX2_bestMirror 90 = .ok (.aload_n 0, 1) := by decide +kernel
theorem dX2_bestMirror_91 : decode cX2_bestMirror 91 = .ok (.iload_n 1, 1) := by decide +kernel
theorem dX2_bestMirror_92 : decode cX2_bestMirror 92 = .ok (.iload 5, 2) := by decide +kernel
theorem dX2_bestMirror_94 : decode cX2_bestMirror 94 = .ok (.invokevirtual 83, 3) := by decide +kernel
theorem dX2_bestMirror_97 : decode cX2_bestMirror 97 = .ok (.ifCond .eq 10, 3) := by decide +kernel
theorem dX2_bestMirror_100 : decode cX2_bestMirror 100 = .ok (.iload 6, 2) := by decide +kernel
theorem dX2_bestMirror_102 : decode cX2_bestMirror 102 = .ok (.istore 4, 2) := by decide +kernel
theorem dX2_bestMirror_104 : decode cX2_bestMirror 104 = .ok (.iload 5, 2) := by decide +kernel
theorem dX2_bestMirror_106 : decode cX2_bestMirror 106 = .ok (.istore_n 3, 1) := by decide +kernel
theorem dX2_bestMirror_107 : decode cX2_bestMirror 107 = .ok (.iinc 5 1, 3) := by decide +kernel
theorem dX2_bestMirror_110 : decode cX2_bestMirror 110 = .ok (.goto (-88), 3) := by decide +kernel
theorem dX2_bestMirror_113 : decode cX2_bestMirror 113 = .ok (.iload_n 3, 1) := by decide +kernel
theorem dX2_bestMirror_114 : decode cX2_bestMirror 114 = .ok (.ireturn, 1) := by decide +kernel
set_option maxRecDepth 20000 in
theorem bX2_bestMirror_0 {G : Gx} {mm : Nat → Nat → Int32} {lm : Nat → Int64} {x1 : Int32} {o : Ou} {z : Wd} {a b : Nat} (hw : ∃ (v2 : Int32), Ct G M_X2_bellsOn [.ref 31, .int x1] (SH, mm, lm) false (.inl (some (.int v2))) (SH, mm, lm) false 0 0 ∧ ∃ (v5 : Int32), Ct G M_X2_momentMirrored [.ref 31, .int x1, .int 0] (SH, mm, lm) false (.inl (some (.int v5))) (SH, mm, lm) false 0 0 ∧ ∃ (v8 : Int32), Ct G M_J9_abs_0f7a4 [.int v5] (SH, mm, lm) false (.inl (some (.int v8))) (SH, mm, lm) false 0 0 ∧ J G M_X2_bestMirror 22 [(0, .ref 31), (1, .int x1), (2, .int v2), (3, .int 0), (4, .int v8), (5, .int 1)] [] (SH, mm, lm) false o z false a b) :
    J G M_X2_bestMirror 0 [(0, .ref 31), (1, .int x1)] [] (SH, mm, lm) false o z false a b := by
  refine J_aload_n rfl (i := 0) rfl dX2_bestMirror_0 ?_
  refine J_iload_n rfl (i := 1) rfl dX2_bestMirror_1 ?_
  obtain ⟨v2, hc1, hw⟩ := hw
  refine J_callV (as := [.int x1]) (k := 31) (st := []) cal_X2_bellsOn cai_X2_bellsOn gw_908 ⟨by decide, by decide⟩ cnt_X2_bellsOn sh_31 rfl rfl (Nat.le_of_ble_eq_true rfl) dX2_bestMirror_2 (Nat.zero_add _).symm (Nat.zero_add _).symm hc1 ?_
  refine J_istore_n [(2, .int v2), (0, .ref 31), (1, .int x1)] rfl (i := 2) (by decide) rfl dX2_bestMirror_5 ?_
  refine J_iconst (v := 0) (by decide) dX2_bestMirror_6 ?_
  refine J_istore_n [(3, .int 0), (2, .int v2), (0, .ref 31), (1, .int x1)] rfl (i := 3) (by decide) rfl dX2_bestMirror_7 ?_
  refine J_aload_n rfl (i := 0) rfl dX2_bestMirror_8 ?_
  refine J_iload_n rfl (i := 1) rfl dX2_bestMirror_9 ?_
  refine J_iconst (v := 0) (by decide) dX2_bestMirror_10 ?_
  obtain ⟨v5, hc4, hw⟩ := hw
  refine J_callV (as := [.int x1, .int 0]) (k := 31) (st := []) cal_X2_momentMirrored cai_X2_momentMirrored gw_912 ⟨by decide, by decide⟩ cnt_X2_momentMirrored sh_31 rfl rfl (Nat.le_of_ble_eq_true rfl) dX2_bestMirror_11 (Nat.zero_add _).symm (Nat.zero_add _).symm hc4 ?_
  obtain ⟨v8, hc7, hw⟩ := hw
  refine J_callS (as := [.int v5]) (st := []) cal_J9_abs_0f7a4 cas_J9_abs_0f7a4 gw_896 ⟨by decide, by decide⟩ cnt_J9_abs_0f7a4 rfl (Nat.le_of_ble_eq_true rfl) dX2_bestMirror_14 (Nat.zero_add _).symm (Nat.zero_add _).symm hc7 ?_
  refine J_istore [(4, .int v8), (3, .int 0), (2, .int v2), (0, .ref 31), (1, .int x1)] (i := 4) (by decide) rfl dX2_bestMirror_17 ?_
  refine J_iconst (v := 1) (by decide) dX2_bestMirror_19 ?_
  refine J_istore [(5, .int 1), (4, .int v8), (3, .int 0), (2, .int v2), (0, .ref 31), (1, .int x1)] (i := 5) (by decide) rfl dX2_bestMirror_20 ?_
  exact J_sub [4, 5, 3, 2, 1, 0] rfl hw
set_option maxRecDepth 20000 in
theorem bX2_bestMirror_22 {G : Gx} {mm : Nat → Nat → Int32} {lm : Nat → Int64} {x1 : Int32} {x2 : Int32} {x3 : Int32} {x4 : Int32} {x5 : Int32} {o : Ou} {z : Wd} {a b : Nat} (hw : ((x2 < x5) → o = .inl (some (.int x3)) ∧ z = (SH, mm, lm)) ∧ ((¬ x2 < x5) → (((x5 &&& (x2 ^^^ (-1))) = 0) → ∃ (v2 : Int32), Ct G M_X2_momentMirrored [.ref 31, .int x1, .int x5] (SH, mm, lm) false (.inl (some (.int v2))) (SH, mm, lm) false 0 0 ∧ ∃ (v5 : Int32), Ct G M_J9_abs_0f7a4 [.int v2] (SH, mm, lm) false (.inl (some (.int v5))) (SH, mm, lm) false 0 0 ∧ ((v5 < x4) → ∃ (v9 : Int32), Ct G M_X2_clearMirrored [.ref 31, .int x1, .int x5] (SH, mm, lm) false (.inl (some (.int v9))) (SH, mm, lm) false 0 0 ∧ ((v9 = 0) → J G M_X2_bestMirror 22 [(0, .ref 31), (1, .int x1), (2, .int x2), (3, .int x3), (4, .int x4), (5, .int (x5 + 1))] [] (SH, mm, lm) false o z false a b) ∧ ((¬ v9 = 0) → J G M_X2_bestMirror 22 [(0, .ref 31), (1, .int x1), (2, .int x2), (3, .int x5), (4, .int v5), (5, .int (x5 + 1))] [] (SH, mm, lm) false o z false a b)) ∧ ((¬ v5 < x4) → ((¬ v5 = x4) → J G M_X2_bestMirror 22 [(0, .ref 31), (1, .int x1), (2, .int x2), (3, .int x3), (4, .int x4), (5, .int (x5 + 1))] [] (SH, mm, lm) false o z false a b) ∧ ((v5 = x4) → ∃ (v14 : Int32), Ct G M_J6_bitCount_0f7a4 [.int x5] (SH, mm, lm) false (.inl (some (.int v14))) (SH, mm, lm) false 0 0 ∧ ∃ (v17 : Int32), Ct G M_J6_bitCount_0f7a4 [.int x3] (SH, mm, lm) false (.inl (some (.int v17))) (SH, mm, lm) false 0 0 ∧ ((v17 ≤ v14) → J G M_X2_bestMirror 22 [(0, .ref 31), (1, .int x1), (2, .int x2), (3, .int x3), (4, .int x4), (5, .int (x5 + 1))] [] (SH, mm, lm) false o z false a b) ∧ ((¬ v17 ≤ v14) → ∃ (v22 : Int32), Ct G M_X2_clearMirrored [.ref 31, .int x1, .int x5] (SH, mm, lm) false (.inl (some (.int v22))) (SH, mm, lm) false 0 0 ∧ ((v22 = 0) → J G M_X2_bestMirror 22 [(0, .ref 31), (1, .int x1), (2, .int x2), (3, .int x3), (4, .int x4), (5, .int (x5 + 1))] [] (SH, mm, lm) false o z false a b) ∧ ((¬ v22 = 0) → J G M_X2_bestMirror 22 [(0, .ref 31), (1, .int x1), (2, .int x2), (3, .int x5), (4, .int v5), (5, .int (x5 + 1))] [] (SH, mm, lm) false o z false a b))))) ∧ ((¬ (x5 &&& (x2 ^^^ (-1))) = 0) → J G M_X2_bestMirror 22 [(0, .ref 31), (1, .int x1), (2, .int x2), (3, .int x3), (4, .int x4), (5, .int (x5 + 1))] [] (SH, mm, lm) false o z false a b))) :
    J G M_X2_bestMirror 22 [(0, .ref 31), (1, .int x1), (2, .int x2), (3, .int x3), (4, .int x4), (5, .int x5)] [] (SH, mm, lm) false o z false a b := by
  refine J_iload (i := 5) rfl dX2_bestMirror_22 ?_
  refine J_iload_n rfl (i := 2) rfl dX2_bestMirror_24 ?_
  refine J_icmp_gt (tgt := 113) dX2_bestMirror_25 (by decide) (fun hb29 => ?_) (fun hb29 => ?_)
  · replace hw := hw.1 hb29
    refine J_iload_n rfl (i := 3) rfl dX2_bestMirror_113 ?_
    exact J_fini (ty := .int) rfl rfl dX2_bestMirror_114 hw
  · replace hw := hw.2 hb29
    refine J_iload (i := 5) rfl dX2_bestMirror_28 ?_
    refine J_iload_n rfl (i := 2) rfl dX2_bestMirror_30 ?_
    refine J_iconst (v := (-1)) (by decide) dX2_bestMirror_31 ?_
    refine J_ixor dX2_bestMirror_32 ?_
    refine J_iand dX2_bestMirror_33 ?_
    refine J_if_eq (tgt := 40) dX2_bestMirror_34 (by decide) (fun hb28 => ?_) (fun hb28 => ?_)
    · replace hw := hw.1 hb28
      refine J_aload_n rfl (i := 0) rfl dX2_bestMirror_40 ?_
      refine J_iload_n rfl (i := 1) rfl dX2_bestMirror_41 ?_
      refine J_iload (i := 5) rfl dX2_bestMirror_42 ?_
      obtain ⟨v2, hc1, hw⟩ := hw
      refine J_callV (as := [.int x1, .int x5]) (k := 31) (st := []) cal_X2_momentMirrored cai_X2_momentMirrored gw_912 ⟨by decide, by decide⟩ cnt_X2_momentMirrored sh_31 rfl rfl (Nat.le_of_ble_eq_true rfl) dX2_bestMirror_44 (Nat.zero_add _).symm (Nat.zero_add _).symm hc1 ?_
      obtain ⟨v5, hc4, hw⟩ := hw
      refine J_callS (as := [.int v2]) (st := []) cal_J9_abs_0f7a4 cas_J9_abs_0f7a4 gw_896 ⟨by decide, by decide⟩ cnt_J9_abs_0f7a4 rfl (Nat.le_of_ble_eq_true rfl) dX2_bestMirror_47 (Nat.zero_add _).symm (Nat.zero_add _).symm hc4 ?_
      refine J_istore [(6, .int v5), (0, .ref 31), (1, .int x1), (2, .int x2), (3, .int x3), (4, .int x4), (5, .int x5)] (i := 6) (by decide) rfl dX2_bestMirror_50 ?_
      refine J_iload (i := 6) rfl dX2_bestMirror_52 ?_
      refine J_iload (i := 4) rfl dX2_bestMirror_54 ?_
      refine J_icmp_lt (tgt := 78) dX2_bestMirror_56 (by decide) (fun hb27 => ?_) (fun hb27 => ?_)
      · replace hw := hw.1 hb27
        refine J_iconst (v := 1) (by decide) dX2_bestMirror_78 ?_
        refine J_goto (tgt := 83) dX2_bestMirror_79 (by decide) ?_
        refine J_istore [(7, .int 1), (6, .int v5), (0, .ref 31), (1, .int x1), (2, .int x2), (3, .int x3), (4, .int x4), (5, .int x5)] (i := 7) (by decide) rfl dX2_bestMirror_83 ?_
        refine J_iload (i := 7) rfl dX2_bestMirror_85 ?_
        refine J_if_eq (tgt := 107) dX2_bestMirror_87 (by decide) (fun hb7 => absurd hb7 (by decide)) (fun _ => ?_)
        refine J_aload_n rfl (i := 0) rfl dX2_bestMirror_90 ?_
        refine J_iload_n rfl (i := 1) rfl dX2_bestMirror_91 ?_
        refine J_iload (i := 5) rfl dX2_bestMirror_92 ?_
        obtain ⟨v9, hc8, hw⟩ := hw
        refine J_callV (as := [.int x1, .int x5]) (k := 31) (st := []) cal_X2_clearMirrored cai_X2_clearMirrored gw_926 ⟨by decide, by decide⟩ cnt_X2_clearMirrored sh_31 rfl rfl (Nat.le_of_ble_eq_true rfl) dX2_bestMirror_94 (Nat.zero_add _).symm (Nat.zero_add _).symm hc8 ?_
        refine J_if_eq (tgt := 107) dX2_bestMirror_97 (by decide) (fun hb11 => ?_) (fun hb11 => ?_)
        · replace hw := hw.1 hb11
          refine J_iinc [(5, .int (x5 + 1)), (7, .int 1), (6, .int v5), (0, .ref 31), (1, .int x1), (2, .int x2), (3, .int x3), (4, .int x4)] (i := 5) (v := (x5 + 1)) rfl rfl (by decide) rfl dX2_bestMirror_107 ?_
          refine J_goto (tgt := 22) dX2_bestMirror_110 (by decide) ?_
          exact J_sub [3, 4, 5, 6, 7, 0] rfl hw
        · replace hw := hw.2 hb11
          refine J_iload (i := 6) rfl dX2_bestMirror_100 ?_
          refine J_istore [(4, .int v5), (7, .int 1), (6, .int v5), (0, .ref 31), (1, .int x1), (2, .int x2), (3, .int x3), (5, .int x5)] (i := 4) (by decide) rfl dX2_bestMirror_102 ?_
          refine J_iload (i := 5) rfl dX2_bestMirror_104 ?_
          refine J_istore_n [(3, .int x5), (4, .int v5), (7, .int 1), (6, .int v5), (0, .ref 31), (1, .int x1), (2, .int x2), (5, .int x5)] rfl (i := 3) (by decide) rfl dX2_bestMirror_106 ?_
          refine J_iinc [(5, .int (x5 + 1)), (3, .int x5), (4, .int v5), (7, .int 1), (6, .int v5), (0, .ref 31), (1, .int x1), (2, .int x2)] (i := 5) (v := (x5 + 1)) rfl rfl (by decide) rfl dX2_bestMirror_107 ?_
          refine J_goto (tgt := 22) dX2_bestMirror_110 (by decide) ?_
          exact J_sub [5, 6, 7, 1, 2, 0] rfl hw
      · replace hw := hw.2 hb27
        refine J_iload (i := 6) rfl dX2_bestMirror_59 ?_
        refine J_iload (i := 4) rfl dX2_bestMirror_61 ?_
        refine J_icmp_ne (tgt := 82) dX2_bestMirror_63 (by decide) (fun hb26 => ?_) (fun hb26 => ?_)
        · replace hw := hw.1 hb26
          refine J_iconst (v := 0) (by decide) dX2_bestMirror_82 ?_
          refine J_istore [(7, .int 0), (6, .int v5), (0, .ref 31), (1, .int x1), (2, .int x2), (3, .int x3), (4, .int x4), (5, .int x5)] (i := 7) (by decide) rfl dX2_bestMirror_83 ?_
          refine J_iload (i := 7) rfl dX2_bestMirror_85 ?_
          refine J_if_eq (tgt := 107) dX2_bestMirror_87 (by decide) (fun _ => ?_) (fun hb12 => absurd hb12 (by decide))
          refine J_iinc [(5, .int (x5 + 1)), (7, .int 0), (6, .int v5), (0, .ref 31), (1, .int x1), (2, .int x2), (3, .int x3), (4, .int x4)] (i := 5) (v := (x5 + 1)) rfl rfl (by decide) rfl dX2_bestMirror_107 ?_
          refine J_goto (tgt := 22) dX2_bestMirror_110 (by decide) ?_
          exact J_sub [3, 4, 5, 6, 7, 0] rfl hw
        · replace hw := hw.2 hb26
          refine J_iload (i := 5) rfl dX2_bestMirror_66 ?_
          obtain ⟨v14, hc13, hw⟩ := hw
          refine J_callS (as := [.int x5]) (st := []) cal_J6_bitCount_0f7a4 cas_J6_bitCount_0f7a4 gw_920 ⟨by decide, by decide⟩ cnt_J6_bitCount_0f7a4 rfl (Nat.le_of_ble_eq_true rfl) dX2_bestMirror_68 (Nat.zero_add _).symm (Nat.zero_add _).symm hc13 ?_
          refine J_iload_n rfl (i := 3) rfl dX2_bestMirror_71 ?_
          obtain ⟨v17, hc16, hw⟩ := hw
          refine J_callS (as := [.int x3]) (st := [.int v14]) cal_J6_bitCount_0f7a4 cas_J6_bitCount_0f7a4 gw_920 ⟨by decide, by decide⟩ cnt_J6_bitCount_0f7a4 rfl (Nat.le_of_ble_eq_true rfl) dX2_bestMirror_72 (Nat.zero_add _).symm (Nat.zero_add _).symm hc16 ?_
          refine J_icmp_ge (tgt := 82) dX2_bestMirror_75 (by decide) (fun hb25 => ?_) (fun hb25 => ?_)
          · replace hw := hw.1 hb25
            refine J_iconst (v := 0) (by decide) dX2_bestMirror_82 ?_
            refine J_istore [(7, .int 0), (6, .int v5), (0, .ref 31), (1, .int x1), (2, .int x2), (3, .int x3), (4, .int x4), (5, .int x5)] (i := 7) (by decide) rfl dX2_bestMirror_83 ?_
            refine J_iload (i := 7) rfl dX2_bestMirror_85 ?_
            refine J_if_eq (tgt := 107) dX2_bestMirror_87 (by decide) (fun _ => ?_) (fun hb19 => absurd hb19 (by decide))
            refine J_iinc [(5, .int (x5 + 1)), (7, .int 0), (6, .int v5), (0, .ref 31), (1, .int x1), (2, .int x2), (3, .int x3), (4, .int x4)] (i := 5) (v := (x5 + 1)) rfl rfl (by decide) rfl dX2_bestMirror_107 ?_
            refine J_goto (tgt := 22) dX2_bestMirror_110 (by decide) ?_
            exact J_sub [3, 4, 5, 6, 7, 0] rfl hw
          · replace hw := hw.2 hb25
            refine J_iconst (v := 1) (by decide) dX2_bestMirror_78 ?_
            refine J_goto (tgt := 83) dX2_bestMirror_79 (by decide) ?_
            refine J_istore [(7, .int 1), (6, .int v5), (0, .ref 31), (1, .int x1), (2, .int x2), (3, .int x3), (4, .int x4), (5, .int x5)] (i := 7) (by decide) rfl dX2_bestMirror_83 ?_
            refine J_iload (i := 7) rfl dX2_bestMirror_85 ?_
            refine J_if_eq (tgt := 107) dX2_bestMirror_87 (by decide) (fun hb20 => absurd hb20 (by decide)) (fun _ => ?_)
            refine J_aload_n rfl (i := 0) rfl dX2_bestMirror_90 ?_
            refine J_iload_n rfl (i := 1) rfl dX2_bestMirror_91 ?_
            refine J_iload (i := 5) rfl dX2_bestMirror_92 ?_
            obtain ⟨v22, hc21, hw⟩ := hw
            refine J_callV (as := [.int x1, .int x5]) (k := 31) (st := []) cal_X2_clearMirrored cai_X2_clearMirrored gw_926 ⟨by decide, by decide⟩ cnt_X2_clearMirrored sh_31 rfl rfl (Nat.le_of_ble_eq_true rfl) dX2_bestMirror_94 (Nat.zero_add _).symm (Nat.zero_add _).symm hc21 ?_
            refine J_if_eq (tgt := 107) dX2_bestMirror_97 (by decide) (fun hb24 => ?_) (fun hb24 => ?_)
            · replace hw := hw.1 hb24
              refine J_iinc [(5, .int (x5 + 1)), (7, .int 1), (6, .int v5), (0, .ref 31), (1, .int x1), (2, .int x2), (3, .int x3), (4, .int x4)] (i := 5) (v := (x5 + 1)) rfl rfl (by decide) rfl dX2_bestMirror_107 ?_
              refine J_goto (tgt := 22) dX2_bestMirror_110 (by decide) ?_
              exact J_sub [3, 4, 5, 6, 7, 0] rfl hw
            · replace hw := hw.2 hb24
              refine J_iload (i := 6) rfl dX2_bestMirror_100 ?_
              refine J_istore [(4, .int v5), (7, .int 1), (6, .int v5), (0, .ref 31), (1, .int x1), (2, .int x2), (3, .int x3), (5, .int x5)] (i := 4) (by decide) rfl dX2_bestMirror_102 ?_
              refine J_iload (i := 5) rfl dX2_bestMirror_104 ?_
              refine J_istore_n [(3, .int x5), (4, .int v5), (7, .int 1), (6, .int v5), (0, .ref 31), (1, .int x1), (2, .int x2), (5, .int x5)] rfl (i := 3) (by decide) rfl dX2_bestMirror_106 ?_
              refine J_iinc [(5, .int (x5 + 1)), (3, .int x5), (4, .int v5), (7, .int 1), (6, .int v5), (0, .ref 31), (1, .int x1), (2, .int x2)] (i := 5) (v := (x5 + 1)) rfl rfl (by decide) rfl dX2_bestMirror_107 ?_
              refine J_goto (tgt := 22) dX2_bestMirror_110 (by decide) ?_
              exact J_sub [5, 6, 7, 1, 2, 0] rfl hw
    · replace hw := hw.2 hb28
      refine J_goto (tgt := 107) dX2_bestMirror_37 (by decide) ?_
      refine J_iinc [(5, .int (x5 + 1)), (0, .ref 31), (1, .int x1), (2, .int x2), (3, .int x3), (4, .int x4)] (i := 5) (v := (x5 + 1)) rfl rfl (by decide) rfl dX2_bestMirror_107 ?_
      refine J_goto (tgt := 22) dX2_bestMirror_110 (by decide) ?_
      exact J_sub [1, 2, 3, 4, 5, 0] rfl hw
theorem dX2_momentMirrored_0 : decode cX2_momentMirrored 0 = .ok (.iconst 0, 1) := by decide +kernel
theorem dX2_momentMirrored_1 : decode cX2_momentMirrored 1 = .ok (.istore_n 3, 1) := by decide +kernel
theorem dX2_momentMirrored_2 : decode cX2_momentMirrored 2 = .ok (.iconst 0, 1) := by decide +kernel
theorem dX2_momentMirrored_3 : decode cX2_momentMirrored 3 = .ok (.istore 4, 2) := by decide +kernel
theorem dX2_momentMirrored_5 : decode cX2_momentMirrored 5 = .ok (.iload 4, 2) := by decide +kernel
theorem dX2_momentMirrored_7 : decode cX2_momentMirrored 7 = .ok (.aload_n 0, 1) := by decide +kernel
theorem dX2_momentMirrored_8 : decode cX2_momentMirrored 8 = .ok (.getfield 9, 3) := by decide +kernel
theorem dX2_momentMirrored_11 : decode cX2_momentMirrored 11 = .ok (.getfield 19, 3) := by decide +kernel
theorem dX2_momentMirrored_14 : decode cX2_momentMirrored 14 = .ok (.if_icmp .ge 44, 3) := by decide +kernel
theorem dX2_momentMirrored_17 : decode cX2_momentMirrored 17 = .ok (.aload_n 0, 1) := by decide +kernel
theorem dX2_momentMirrored_18 : decode cX2_momentMirrored 18 = .ok (.getfield 15, 3) := by decide +kernel
theorem dX2_momentMirrored_21 : decode cX2_momentMirrored 21 = .ok (.iload 4, 2) := by decide +kernel
theorem dX2_momentMirrored_23 : decode cX2_momentMirrored 23 = .ok (.aaload, 1) := by decide +kernel
theorem dX2_momentMirrored_24 : decode cX2_momentMirrored 24 = .ok (.getfield 24, 3) := by decide +kernel
theorem dX2_momentMirrored_27 : decode cX2_momentMirrored 27 = .ok (.iload_n 1, 1) := by decide +kernel
theorem dX2_momentMirrored_28 : decode cX2_momentMirrored 28 = .ok (.if_icmp .ne 24, 3) := by decide +kernel
theorem dX2_momentMirrored_31 : decode cX2_momentMirrored 31 = .ok (.iload_n 3, 1) := by decide +kernel
theorem dX2_momentMirrored_32 : decode cX2_momentMirrored 32 = .ok (.aload_n 0, 1) := by decide +kernel
theorem dX2_momentMirrored_33 : decode cX2_momentMirrored 33 = .ok (.getfield 9, 3) := by decide +kernel
theorem dX2_momentMirrored_36 : decode cX2_momentMirrored 36 = .ok (.getfield 29, 3) := by decide +kernel
theorem dX2_momentMirrored_39 : decode cX2_momentMirrored 39 = .ok (.iload 4, 2) := by decide +kernel
theorem dX2_momentMirrored_41 : decode cX2_momentMirrored 41 = .ok (.iaload, 1) := by decide +kernel
theorem dX2_momentMirrored_42 : decode cX2_momentMirrored 42 = .ok (.aload_n 0, 1) := by decide +kernel
theorem dX2_momentMirrored_43 : decode cX2_momentMirrored 43 = .ok (.iload 4, 2) := by decide +kernel
theorem dX2_momentMirrored_45 : decode cX2_momentMirrored 45 = .ok (.iload_n 2, 1) := by decide +kernel
theorem dX2_momentMirrored_46 : decode cX2_momentMirrored 46 = .ok (.invokevirtual 86, 3) := by decide +kernel
theorem dX2_momentMirrored_49 : decode cX2_momentMirrored 49 = .ok (.imul, 1) := by decide +kernel
theorem dX2_momentMirrored_50 : decode cX2_momentMirrored 50 = .ok (.iadd, 1) := by decide +kernel
theorem dX2_momentMirrored_51 : decode cX2_momentMirrored 51 = .ok (.istore_n 3, 1) := by decide +kernel
theorem dX2_momentMirrored_52 : decode cX2_momentMirrored 52 = .ok (.iinc 4 1, 3) := by decide +kernel
theorem dX2_momentMirrored_55 : decode cX2_momentMirrored 55 = .ok (.goto (-50), 3) := by decide +kernel
theorem dX2_momentMirrored_58 : decode cX2_momentMirrored 58 = .ok (.iload_n 3, 1) := by decide +kernel
theorem dX2_momentMirrored_59 : decode cX2_momentMirrored 59 = .ok (.ireturn, 1) := by decide +kernel
set_option maxRecDepth 20000 in
theorem bX2_momentMirrored_0 {G : Gx} {mm : Nat → Nat → Int32} {lm : Nat → Int64} {x1 : Int32} {x2 : Int32} {o : Ou} {z : Wd} {a b : Nat} (hw : J G M_X2_momentMirrored 5 [(0, .ref 31), (1, .int x1), (2, .int x2), (3, .int 0), (4, .int 0)] [] (SH, mm, lm) false o z false a b) :
    J G M_X2_momentMirrored 0 [(0, .ref 31), (1, .int x1), (2, .int x2)] [] (SH, mm, lm) false o z false a b := by
  refine J_iconst (v := 0) (by decide) dX2_momentMirrored_0 ?_
  refine J_istore_n [(3, .int 0), (0, .ref 31), (1, .int x1), (2, .int x2)] rfl (i := 3) (by decide) rfl dX2_momentMirrored_1 ?_
  refine J_iconst (v := 0) (by decide) dX2_momentMirrored_2 ?_
  refine J_istore [(4, .int 0), (3, .int 0), (0, .ref 31), (1, .int x1), (2, .int x2)] (i := 4) (by decide) rfl dX2_momentMirrored_3 ?_
  exact J_sub [2, 3, 4, 1, 0] rfl hw
set_option maxRecDepth 20000 in
theorem bX2_momentMirrored_5 {G : Gx} {mm : Nat → Nat → Int32} {lm : Nat → Int64} {x1 : Int32} {x2 : Int32} {x3 : Int32} {x4 : Int32} {o : Ou} {z : Wd} {a b : Nat} (hw : (((mm 4 9) ≤ x4) → o = .inl (some (.int x3)) ∧ z = (SH, mm, lm)) ∧ ((¬ (mm 4 9) ≤ x4) → ∃ j1 : Nat, x4 = nI j1 ∧ j1 < 8 ∧ ((¬ (mm (23 + j1) 0) = x1) → J G M_X2_momentMirrored 5 [(0, .ref 31), (1, .int x1), (2, .int x2), (3, .int x3), (4, .int (x4 + 1))] [] (SH, mm, lm) false o z false a b) ∧ (((mm (23 + j1) 0) = x1) → ∃ j2 : Nat, x4 = nI j2 ∧ j2 < 8 ∧ ∃ (v4 : Int32), Ct G M_X2_positionMirrored [.ref 31, .int x4, .int x2] (SH, mm, lm) false (.inl (some (.int v4))) (SH, mm, lm) false 0 0 ∧ J G M_X2_momentMirrored 5 [(0, .ref 31), (1, .int x1), (2, .int x2), (3, .int (x3 + ((mm 7 j2) * v4))), (4, .int (x4 + 1))] [] (SH, mm, lm) false o z false a b))) :
    J G M_X2_momentMirrored 5 [(0, .ref 31), (1, .int x1), (2, .int x2), (3, .int x3), (4, .int x4)] [] (SH, mm, lm) false o z false a b := by
  refine J_iload (i := 4) rfl dX2_momentMirrored_5 ?_
  refine J_aload_n rfl (i := 0) rfl dX2_momentMirrored_7 ?_
  refine J_getr kls_2 (q := 31) (k := 0) sh_31 (by decide) rfl gw_301 dX2_momentMirrored_8 ?_
  refine J_geti kls_7 (q := 4) (k := 9) sh_4 (by decide) rfl gw_206 dX2_momentMirrored_11 ?_
  refine J_icmp_ge (tgt := 58) dX2_momentMirrored_14 (by decide) (fun hb7 => ?_) (fun hb7 => ?_)
  · replace hw := hw.1 hb7
    refine J_iload_n rfl (i := 3) rfl dX2_momentMirrored_58 ?_
    exact J_fini (ty := .int) rfl rfl dX2_momentMirrored_59 hw
  · replace hw := hw.2 hb7
    refine J_aload_n rfl (i := 0) rfl dX2_momentMirrored_17 ?_
    refine J_getr kls_2 (q := 31) (k := 1) sh_31 (by decide) rfl gw_302 dX2_momentMirrored_18 ?_
    refine J_iload (i := 4) rfl dX2_momentMirrored_21 ?_
    obtain ⟨j1, ej1, hj1, hw⟩ := hw
    refine J_aald (r := 23 + j1) sh_22 ej1 hj1 (by decide) (if_pos hj1) dX2_momentMirrored_23 ?_
    refine J_geti kls_0 (q := (23 + j1)) (k := 0) (sh_b23 hj1) (by decide) rfl gw_251 dX2_momentMirrored_24 ?_
    refine J_iload_n rfl (i := 1) rfl dX2_momentMirrored_27 ?_
    refine J_icmp_ne (tgt := 52) dX2_momentMirrored_28 (by decide) (fun hb6 => ?_) (fun hb6 => ?_)
    · replace hw := hw.1 hb6
      refine J_iinc [(4, .int (x4 + 1)), (0, .ref 31), (1, .int x1), (2, .int x2), (3, .int x3)] (i := 4) (v := (x4 + 1)) rfl rfl (by decide) rfl dX2_momentMirrored_52 ?_
      refine J_goto (tgt := 5) dX2_momentMirrored_55 (by decide) ?_
      exact J_sub [1, 2, 3, 4, 0] rfl hw
    · replace hw := hw.2 hb6
      refine J_iload_n rfl (i := 3) rfl dX2_momentMirrored_31 ?_
      refine J_aload_n rfl (i := 0) rfl dX2_momentMirrored_32 ?_
      refine J_getr kls_2 (q := 31) (k := 0) sh_31 (by decide) rfl gw_301 dX2_momentMirrored_33 ?_
      refine J_getr kls_7 (q := 4) (k := 2) sh_4 (by decide) rfl gw_188 dX2_momentMirrored_36 ?_
      refine J_iload (i := 4) rfl dX2_momentMirrored_39 ?_
      obtain ⟨j2, ej2, hj2, hw⟩ := hw
      refine J_iald sh_7 ej2 hj2 (by decide) dX2_momentMirrored_41 ?_
      refine J_aload_n rfl (i := 0) rfl dX2_momentMirrored_42 ?_
      refine J_iload (i := 4) rfl dX2_momentMirrored_43 ?_
      refine J_iload_n rfl (i := 2) rfl dX2_momentMirrored_45 ?_
      obtain ⟨v4, hc3, hw⟩ := hw
      refine J_callV (as := [.int x4, .int x2]) (k := 31) (st := [.int (mm 7 j2), .int x3]) cal_X2_positionMirrored cai_X2_positionMirrored gw_916 ⟨by decide, by decide⟩ cnt_X2_positionMirrored sh_31 rfl rfl (Nat.le_of_ble_eq_true rfl) dX2_momentMirrored_46 (Nat.zero_add _).symm (Nat.zero_add _).symm hc3 ?_
      refine J_imul dX2_momentMirrored_49 ?_
      refine J_iadd dX2_momentMirrored_50 ?_
      refine J_istore_n [(3, .int (x3 + ((mm 7 j2) * v4))), (0, .ref 31), (1, .int x1), (2, .int x2), (4, .int x4)] rfl (i := 3) (by decide) rfl dX2_momentMirrored_51 ?_
      refine J_iinc [(4, .int (x4 + 1)), (3, .int (x3 + ((mm 7 j2) * v4))), (0, .ref 31), (1, .int x1), (2, .int x2)] (i := 4) (v := (x4 + 1)) rfl rfl (by decide) rfl dX2_momentMirrored_52 ?_
      refine J_goto (tgt := 5) dX2_momentMirrored_55 (by decide) ?_
      exact J_sub [2, 3, 4, 1, 0] rfl hw
theorem dX2_bellsOn_0 : decode cX2_bellsOn 0 = .ok (.iconst 0, 1) := by decide +kernel
theorem dX2_bellsOn_1 : decode cX2_bellsOn 1 = .ok (.istore_n 2, 1) := by decide +kernel
theorem dX2_bellsOn_2 : decode cX2_bellsOn 2 = .ok (.iconst 0, 1) := by decide +kernel
theorem dX2_bellsOn_3 : decode cX2_bellsOn 3 = .ok (.istore_n 3, 1) := by decide +kernel
theorem dX2_bellsOn_4 : decode cX2_bellsOn 4 = .ok (.iload_n 3, 1) := by decide +kernel
theorem dX2_bellsOn_5 : decode cX2_bellsOn 5 = .ok (.aload_n 0, 1) := by decide +kernel
theorem dX2_bellsOn_6 : decode cX2_bellsOn 6 = .ok (.getfield 9, 3) := by decide +kernel
theorem dX2_bellsOn_9 : decode cX2_bellsOn 9 = .ok (.getfield 19, 3) := by decide +kernel
theorem dX2_bellsOn_12 : decode cX2_bellsOn 12 = .ok (.if_icmp .ge 28, 3) := by decide +kernel
theorem dX2_bellsOn_15 : decode cX2_bellsOn 15 = .ok (.aload_n 0, 1) := by decide +kernel
theorem dX2_bellsOn_16 : decode cX2_bellsOn 16 = .ok (.getfield 15, 3) := by decide +kernel
theorem dX2_bellsOn_19 : decode cX2_bellsOn 19 = .ok (.iload_n 3, 1) := by decide +kernel
theorem dX2_bellsOn_20 : decode cX2_bellsOn 20 = .ok (.aaload, 1) := by decide +kernel
theorem dX2_bellsOn_21 : decode cX2_bellsOn 21 = .ok (.getfield 24, 3) := by decide +kernel
theorem dX2_bellsOn_24 : decode cX2_bellsOn 24 = .ok (.iload_n 1, 1) := by decide +kernel
theorem dX2_bellsOn_25 : decode cX2_bellsOn 25 = .ok (.if_icmp .ne 9, 3) := by decide +kernel
theorem dX2_bellsOn_28 : decode cX2_bellsOn 28 = .ok (.iload_n 2, 1) := by decide +kernel
theorem dX2_bellsOn_29 : decode cX2_bellsOn 29 = .ok (.iconst 1, 1) := by decide +kernel
theorem dX2_bellsOn_30 : decode cX2_bellsOn 30 = .ok (.iload_n 3, 1) := by decide +kernel
theorem dX2_bellsOn_31 : decode cX2_bellsOn 31 = .ok (.ishl, 1) := by decide +kernel
theorem dX2_bellsOn_32 : decode cX2_bellsOn 32 = .ok (.ior, 1) := by decide +kernel
theorem dX2_bellsOn_33 : decode cX2_bellsOn 33 = .ok (.istore_n 2, 1) := by decide +kernel
theorem dX2_bellsOn_34 : decode cX2_bellsOn 34 = .ok (.iinc 3 1, 3) := by decide +kernel
theorem dX2_bellsOn_37 : decode cX2_bellsOn 37 = .ok (.goto (-33), 3) := by decide +kernel
theorem dX2_bellsOn_40 : decode cX2_bellsOn 40 = .ok (.iload_n 2, 1) := by decide +kernel
theorem dX2_bellsOn_41 : decode cX2_bellsOn 41 = .ok (.ireturn, 1) := by decide +kernel
set_option maxRecDepth 20000 in
theorem bX2_bellsOn_0 {G : Gx} {mm : Nat → Nat → Int32} {lm : Nat → Int64} {x1 : Int32} {o : Ou} {z : Wd} {a b : Nat} (hw : J G M_X2_bellsOn 4 [(0, .ref 31), (1, .int x1), (2, .int 0), (3, .int 0)] [] (SH, mm, lm) false o z false a b) :
    J G M_X2_bellsOn 0 [(0, .ref 31), (1, .int x1)] [] (SH, mm, lm) false o z false a b := by
  refine J_iconst (v := 0) (by decide) dX2_bellsOn_0 ?_
  refine J_istore_n [(2, .int 0), (0, .ref 31), (1, .int x1)] rfl (i := 2) (by decide) rfl dX2_bellsOn_1 ?_
  refine J_iconst (v := 0) (by decide) dX2_bellsOn_2 ?_
  refine J_istore_n [(3, .int 0), (2, .int 0), (0, .ref 31), (1, .int x1)] rfl (i := 3) (by decide) rfl dX2_bellsOn_3 ?_
  exact J_sub [2, 3, 1, 0] rfl hw
set_option maxRecDepth 20000 in
theorem bX2_bellsOn_4 {G : Gx} {mm : Nat → Nat → Int32} {lm : Nat → Int64} {x1 : Int32} {x2 : Int32} {x3 : Int32} {o : Ou} {z : Wd} {a b : Nat} (hw : (((mm 4 9) ≤ x3) → o = .inl (some (.int x2)) ∧ z = (SH, mm, lm)) ∧ ((¬ (mm 4 9) ≤ x3) → ∃ j1 : Nat, x3 = nI j1 ∧ j1 < 8 ∧ ((¬ (mm (23 + j1) 0) = x1) → J G M_X2_bellsOn 4 [(0, .ref 31), (1, .int x1), (2, .int x2), (3, .int (x3 + 1))] [] (SH, mm, lm) false o z false a b) ∧ (((mm (23 + j1) 0) = x1) → J G M_X2_bellsOn 4 [(0, .ref 31), (1, .int x1), (2, .int (x2 ||| (1 <<< (x3 &&& 31)))), (3, .int (x3 + 1))] [] (SH, mm, lm) false o z false a b))) :
    J G M_X2_bellsOn 4 [(0, .ref 31), (1, .int x1), (2, .int x2), (3, .int x3)] [] (SH, mm, lm) false o z false a b := by
  refine J_iload_n rfl (i := 3) rfl dX2_bellsOn_4 ?_
  refine J_aload_n rfl (i := 0) rfl dX2_bellsOn_5 ?_
  refine J_getr kls_2 (q := 31) (k := 0) sh_31 (by decide) rfl gw_301 dX2_bellsOn_6 ?_
  refine J_geti kls_7 (q := 4) (k := 9) sh_4 (by decide) rfl gw_206 dX2_bellsOn_9 ?_
  refine J_icmp_ge (tgt := 40) dX2_bellsOn_12 (by decide) (fun hb3 => ?_) (fun hb3 => ?_)
  · replace hw := hw.1 hb3
    refine J_iload_n rfl (i := 2) rfl dX2_bellsOn_40 ?_
    exact J_fini (ty := .int) rfl rfl dX2_bellsOn_41 hw
  · replace hw := hw.2 hb3
    refine J_aload_n rfl (i := 0) rfl dX2_bellsOn_15 ?_
    refine J_getr kls_2 (q := 31) (k := 1) sh_31 (by decide) rfl gw_302 dX2_bellsOn_16 ?_
    refine J_iload_n rfl (i := 3) rfl dX2_bellsOn_19 ?_
    obtain ⟨j1, ej1, hj1, hw⟩ := hw
    refine J_aald (r := 23 + j1) sh_22 ej1 hj1 (by decide) (if_pos hj1) dX2_bellsOn_20 ?_
    refine J_geti kls_0 (q := (23 + j1)) (k := 0) (sh_b23 hj1) (by decide) rfl gw_251 dX2_bellsOn_21 ?_
    refine J_iload_n rfl (i := 1) rfl dX2_bellsOn_24 ?_
    refine J_icmp_ne (tgt := 34) dX2_bellsOn_25 (by decide) (fun hb2 => ?_) (fun hb2 => ?_)
    · replace hw := hw.1 hb2
      refine J_iinc [(3, .int (x3 + 1)), (0, .ref 31), (1, .int x1), (2, .int x2)] (i := 3) (v := (x3 + 1)) rfl rfl (by decide) rfl dX2_bellsOn_34 ?_
      refine J_goto (tgt := 4) dX2_bellsOn_37 (by decide) ?_
      exact J_sub [1, 2, 3, 0] rfl hw
    · replace hw := hw.2 hb2
      refine J_iload_n rfl (i := 2) rfl dX2_bellsOn_28 ?_
      refine J_iconst (v := 1) (by decide) dX2_bellsOn_29 ?_
      refine J_iload_n rfl (i := 3) rfl dX2_bellsOn_30 ?_
      refine J_ishl dX2_bellsOn_31 ?_
      refine J_ior dX2_bellsOn_32 ?_
      refine J_istore_n [(2, .int (x2 ||| (1 <<< (x3 &&& 31)))), (0, .ref 31), (1, .int x1), (3, .int x3)] rfl (i := 2) (by decide) rfl dX2_bellsOn_33 ?_
      refine J_iinc [(3, .int (x3 + 1)), (2, .int (x2 ||| (1 <<< (x3 &&& 31)))), (0, .ref 31), (1, .int x1)] (i := 3) (v := (x3 + 1)) rfl rfl (by decide) rfl dX2_bellsOn_34 ?_
      refine J_goto (tgt := 4) dX2_bellsOn_37 (by decide) ?_
      exact J_sub [2, 3, 1, 0] rfl hw
theorem dX2_clearMirrored_0 : decode cX2_clearMirrored 0 = .ok (.iconst 0, 1) := by decide +kernel
theorem dX2_clearMirrored_1 : decode cX2_clearMirrored 1 = .ok (.istore_n 3, 1) := by decide +kernel
theorem dX2_clearMirrored_2 : decode cX2_clearMirrored 2 = .ok (.iload_n 3, 1) := by decide +kernel
theorem dX2_clearMirrored_3 : decode cX2_clearMirrored 3 = .ok (.aload_n 0, 1) := by decide +kernel
theorem dX2_clearMirrored_4 : decode cX2_clearMirrored 4 = .ok (.getfield 9, 3) := by decide +kernel
theorem dX2_clearMirrored_7 : decode cX2_clearMirrored 7 = .ok (.getfield 19, 3) := by decide +kernel
theorem dX2_clearMirrored_10 : decode cX2_clearMirrored 10 = .ok (.if_icmp .ge 84, 3) := by decide +kernel
theorem dX2_clearMirrored_13 : decode cX2_clearMirrored 13 = .ok (.iconst 0, 1) := by decide +kernel
theorem dX2_clearMirrored_14 : decode cX2_clearMirrored 14 = .ok (.istore 4, 2) := by decide +kernel
theorem dX2_clearMirrored_16 : decode cX2_clearMirrored 16 = .ok (.iload 4, 2) := by decide +kernel
theorem dX2_clearMirrored_18 : decode cX2_clearMirrored 18 = .ok (.iload_n 3, 1) := by decide +kernel
theorem dX2_clearMirrored_19 : decode cX2_clearMirrored 19 = .ok (.if_icmp .ge 69, 3) := by decide +kernel
theorem dX2_clearMirrored_22 : decode cX2_clearMirrored 22 = .ok (.aload_n 0, 1) := by decide +kernel
theorem dX2_clearMirrored_23 : decode cX2_clearMirrored 23 = .ok (.iload_n 3, 1) := by decide +kernel
theorem dX2_clearMirrored_24 : decode cX2_clearMirrored 24 = .ok (.iload_n 2, 1) := by decide +kernel
theorem dX2_clearMirrored_25 : decode cX2_clearMirrored 25 = .ok (.invokevirtual 86, 3) := by decide +kernel
theorem dX2_clearMirrored_28 : decode cX2_clearMirrored 28 = .ok (.aload_n 0, 1) := by decide +kernel
theorem dX2_clearMirrored_29 : decode cX2_clearMirrored 29 = .ok (.iload 4, 2) := by decide +kernel
theorem dX2_clearMirrored_31 : decode cX2_clearMirrored 31 = .ok (.iload_n 2, 1) := by decide +kernel
theorem dX2_clearMirrored_32 : decode cX2_clearMirrored 32 = .ok (.invokevirtual 86, 3) := by decide +kernel
theorem dX2_clearMirrored_35 : decode cX2_clearMirrored 35 = .ok (.isub, 1) := by decide +kernel
theorem dX2_clearMirrored_36 : decode cX2_clearMirrored 36 = .ok (.istore 5, 2) := by decide +kernel
theorem dX2_clearMirrored_38 : decode cX2_clearMirrored 38 = .ok (.aload_n 0, 1) := by decide +kernel
theorem dX2_clearMirrored_39 : decode cX2_clearMirrored 39 = .ok (.getfield 15, 3) := by decide +kernel
theorem dX2_clearMirrored_42 : decode cX2_clearMirrored 42 = .ok (.iload_n 3, 1) := by decide +kernel
theorem dX2_clearMirrored_43 : decode cX2_clearMirrored 43 = .ok (.aaload, 1) := by decide +kernel
theorem dX2_clearMirrored_44 : decode cX2_clearMirrored 44 = .ok (.getfield 24, 3) := by decide +kernel
theorem dX2_clearMirrored_47 : decode cX2_clearMirrored 47 = .ok (.iload_n 1, 1) := by decide +kernel
theorem dX2_clearMirrored_48 : decode cX2_clearMirrored 48 = .ok (.if_icmp .ne 34, 3) := by decide +kernel
theorem dX2_clearMirrored_51 : decode cX2_clearMirrored 51 = .ok (.aload_n 0, 1) := by decide +kernel
theorem dX2_clearMirrored_52 : decode cX2_clearMirrored 52 = .ok (.getfield 15, 3) := by decide +kernel
theorem dX2_clearMirrored_55 : decode cX2_clearMirrored 55 = .ok (.iload 4, 2) := by decide +kernel
theorem dX2_clearMirrored_57 : decode cX2_clearMirrored 57 = .ok (.aaload, 1) := by decide +kernel
theorem dX2_clearMirrored_58 : decode cX2_clearMirrored 58 = .ok (.getfield 24, 3) := by decide +kernel
theorem dX2_clearMirrored_61 : decode cX2_clearMirrored 61 = .ok (.iload_n 1, 1) := by decide +kernel
theorem dX2_clearMirrored_62 : decode cX2_clearMirrored 62 = .ok (.if_icmp .ne 20, 3) := by decide +kernel
theorem dX2_clearMirrored_65 : decode cX2_clearMirrored 65 = .ok (.aload_n 0, 1) := by decide +kernel
theorem dX2_clearMirrored_66 : decode cX2_clearMirrored 66 = .ok (.getfield 9, 3) := by decide +kernel
theorem dX2_clearMirrored_69 : decode cX2_clearMirrored 69 = .ok (.iload_n 3, 1) := by decide +kernel
theorem dX2_clearMirrored_70 : decode cX2_clearMirrored 70 = .ok (.iload 4, 2) := by decide +kernel
theorem dX2_clearMirrored_72 : decode cX2_clearMirrored 72 = .ok (.iload 5, 2) := by decide +kernel
theorem dX2_clearMirrored_74 : decode cX2_clearMirrored 74 = .ok (.invokevirtual 40, 3) := by decide +kernel
theorem dX2_clearMirrored_77 : decode cX2_clearMirrored 77 = .ok (.ifCond .ne 5, 3) := by decide +kernel
theorem dX2_clearMirrored_80 : decode cX2_clearMirrored 80 = .ok (.iconst 0, 1) := by decide +kernel
theorem dX2_clearMirrored_81 : decode cX2_clearMirrored 81 = .ok (.ireturn, 1) := by decide +kernel
theorem dX2_clearMirrored_82 : decode cX2_clearMirrored 82 = .ok (.iinc 4 1, 3) := by decide +kernel
theorem dX2_clearMirrored_85 : decode cX2_clearMirrored 85 = .ok (.goto (-69), 3) := by decide +kernel
theorem dX2_clearMirrored_88 : decode cX2_clearMirrored 88 = .ok (.iinc 3 1, 3) := by decide +kernel
theorem dX2_clearMirrored_91 : decode cX2_clearMirrored 91 = .ok (.goto (-89), 3) := by decide +kernel
theorem dX2_clearMirrored_94 : decode cX2_clearMirrored 94 = .ok (.iconst 1, 1) := by decide +kernel
theorem dX2_clearMirrored_95 : decode cX2_clearMirrored 95 = .ok (.ireturn, 1) := by decide +kernel
set_option maxRecDepth 20000 in
theorem bX2_clearMirrored_0 {G : Gx} {mm : Nat → Nat → Int32} {lm : Nat → Int64} {x1 : Int32} {x2 : Int32} {o : Ou} {z : Wd} {a b : Nat} (hw : J G M_X2_clearMirrored 2 [(0, .ref 31), (1, .int x1), (2, .int x2), (3, .int 0)] [] (SH, mm, lm) false o z false a b) :
    J G M_X2_clearMirrored 0 [(0, .ref 31), (1, .int x1), (2, .int x2)] [] (SH, mm, lm) false o z false a b := by
  refine J_iconst (v := 0) (by decide) dX2_clearMirrored_0 ?_
  refine J_istore_n [(3, .int 0), (0, .ref 31), (1, .int x1), (2, .int x2)] rfl (i := 3) (by decide) rfl dX2_clearMirrored_1 ?_
  exact J_sub [1, 2, 3, 0] rfl hw
set_option maxRecDepth 20000 in
theorem bX2_clearMirrored_2 {G : Gx} {mm : Nat → Nat → Int32} {lm : Nat → Int64} {x1 : Int32} {x2 : Int32} {x3 : Int32} {o : Ou} {z : Wd} {a b : Nat} (hw : (((mm 4 9) ≤ x3) → o = .inl (some (.int 1)) ∧ z = (SH, mm, lm)) ∧ ((¬ (mm 4 9) ≤ x3) → J G M_X2_clearMirrored 16 [(0, .ref 31), (1, .int x1), (2, .int x2), (3, .int x3), (4, .int 0)] [] (SH, mm, lm) false o z false a b)) :
    J G M_X2_clearMirrored 2 [(0, .ref 31), (1, .int x1), (2, .int x2), (3, .int x3)] [] (SH, mm, lm) false o z false a b := by
  refine J_iload_n rfl (i := 3) rfl dX2_clearMirrored_2 ?_
  refine J_aload_n rfl (i := 0) rfl dX2_clearMirrored_3 ?_
  refine J_getr kls_2 (q := 31) (k := 0) sh_31 (by decide) rfl gw_301 dX2_clearMirrored_4 ?_
  refine J_geti kls_7 (q := 4) (k := 9) sh_4 (by decide) rfl gw_206 dX2_clearMirrored_7 ?_
  refine J_icmp_ge (tgt := 94) dX2_clearMirrored_10 (by decide) (fun hb1 => ?_) (fun hb1 => ?_)
  · replace hw := hw.1 hb1
    refine J_iconst (v := 1) (by decide) dX2_clearMirrored_94 ?_
    exact J_fini (ty := .boolean) rfl rfl dX2_clearMirrored_95 hw
  · replace hw := hw.2 hb1
    refine J_iconst (v := 0) (by decide) dX2_clearMirrored_13 ?_
    refine J_istore [(4, .int 0), (0, .ref 31), (1, .int x1), (2, .int x2), (3, .int x3)] (i := 4) (by decide) rfl dX2_clearMirrored_14 ?_
    exact J_sub [1, 2, 3, 4, 0] rfl hw
set_option maxRecDepth 20000 in
theorem bX2_clearMirrored_16 {G : Gx} {mm : Nat → Nat → Int32} {lm : Nat → Int64} {x1 : Int32} {x2 : Int32} {x3 : Int32} {x4 : Int32} {o : Ou} {z : Wd} {a b : Nat} (hw : ((x3 ≤ x4) → J G M_X2_clearMirrored 2 [(0, .ref 31), (1, .int x1), (2, .int x2), (3, .int (x3 + 1))] [] (SH, mm, lm) false o z false a b) ∧ ((¬ x3 ≤ x4) → ∃ (v2 : Int32), Ct G M_X2_positionMirrored [.ref 31, .int x3, .int x2] (SH, mm, lm) false (.inl (some (.int v2))) (SH, mm, lm) false 0 0 ∧ ∃ (v5 : Int32), Ct G M_X2_positionMirrored [.ref 31, .int x4, .int x2] (SH, mm, lm) false (.inl (some (.int v5))) (SH, mm, lm) false 0 0 ∧ ∃ j7 : Nat, x3 = nI j7 ∧ j7 < 8 ∧ ((¬ (mm (23 + j7) 0) = x1) → J G M_X2_clearMirrored 16 [(0, .ref 31), (1, .int x1), (2, .int x2), (3, .int x3), (4, .int (x4 + 1))] [] (SH, mm, lm) false o z false a b) ∧ (((mm (23 + j7) 0) = x1) → ∃ j8 : Nat, x4 = nI j8 ∧ j8 < 8 ∧ ((¬ (mm (23 + j8) 0) = x1) → J G M_X2_clearMirrored 16 [(0, .ref 31), (1, .int x1), (2, .int x2), (3, .int x3), (4, .int (x4 + 1))] [] (SH, mm, lm) false o z false a b) ∧ (((mm (23 + j8) 0) = x1) → ∃ (v10 : Int32), Ct G M_X7_keepsClear [.ref 4, .int x3, .int x4, .int (v2 - v5)] (SH, mm, lm) false (.inl (some (.int v10))) (SH, mm, lm) false 0 0 ∧ ((¬ v10 = 0) → J G M_X2_clearMirrored 16 [(0, .ref 31), (1, .int x1), (2, .int x2), (3, .int x3), (4, .int (x4 + 1))] [] (SH, mm, lm) false o z false a b) ∧ ((v10 = 0) → o = .inl (some (.int 0)) ∧ z = (SH, mm, lm)))))) :
    J G M_X2_clearMirrored 16 [(0, .ref 31), (1, .int x1), (2, .int x2), (3, .int x3), (4, .int x4)] [] (SH, mm, lm) false o z false a b := by
  refine J_iload (i := 4) rfl dX2_clearMirrored_16 ?_
  refine J_iload_n rfl (i := 3) rfl dX2_clearMirrored_18 ?_
  refine J_icmp_ge (tgt := 88) dX2_clearMirrored_19 (by decide) (fun hb15 => ?_) (fun hb15 => ?_)
  · replace hw := hw.1 hb15
    refine J_iinc [(3, .int (x3 + 1)), (0, .ref 31), (1, .int x1), (2, .int x2), (4, .int x4)] (i := 3) (v := (x3 + 1)) rfl rfl (by decide) rfl dX2_clearMirrored_88 ?_
    refine J_goto (tgt := 2) dX2_clearMirrored_91 (by decide) ?_
    exact J_sub [1, 2, 3, 0] rfl hw
  · replace hw := hw.2 hb15
    refine J_aload_n rfl (i := 0) rfl dX2_clearMirrored_22 ?_
    refine J_iload_n rfl (i := 3) rfl dX2_clearMirrored_23 ?_
    refine J_iload_n rfl (i := 2) rfl dX2_clearMirrored_24 ?_
    obtain ⟨v2, hc1, hw⟩ := hw
    refine J_callV (as := [.int x3, .int x2]) (k := 31) (st := []) cal_X2_positionMirrored cai_X2_positionMirrored gw_916 ⟨by decide, by decide⟩ cnt_X2_positionMirrored sh_31 rfl rfl (Nat.le_of_ble_eq_true rfl) dX2_clearMirrored_25 (Nat.zero_add _).symm (Nat.zero_add _).symm hc1 ?_
    refine J_aload_n rfl (i := 0) rfl dX2_clearMirrored_28 ?_
    refine J_iload (i := 4) rfl dX2_clearMirrored_29 ?_
    refine J_iload_n rfl (i := 2) rfl dX2_clearMirrored_31 ?_
    obtain ⟨v5, hc4, hw⟩ := hw
    refine J_callV (as := [.int x4, .int x2]) (k := 31) (st := [.int v2]) cal_X2_positionMirrored cai_X2_positionMirrored gw_916 ⟨by decide, by decide⟩ cnt_X2_positionMirrored sh_31 rfl rfl (Nat.le_of_ble_eq_true rfl) dX2_clearMirrored_32 (Nat.zero_add _).symm (Nat.zero_add _).symm hc4 ?_
    refine J_isub dX2_clearMirrored_35 ?_
    refine J_istore [(5, .int (v2 - v5)), (0, .ref 31), (1, .int x1), (2, .int x2), (3, .int x3), (4, .int x4)] (i := 5) (by decide) rfl dX2_clearMirrored_36 ?_
    refine J_aload_n rfl (i := 0) rfl dX2_clearMirrored_38 ?_
    refine J_getr kls_2 (q := 31) (k := 1) sh_31 (by decide) rfl gw_302 dX2_clearMirrored_39 ?_
    refine J_iload_n rfl (i := 3) rfl dX2_clearMirrored_42 ?_
    obtain ⟨j7, ej7, hj7, hw⟩ := hw
    refine J_aald (r := 23 + j7) sh_22 ej7 hj7 (by decide) (if_pos hj7) dX2_clearMirrored_43 ?_
    refine J_geti kls_0 (q := (23 + j7)) (k := 0) (sh_b23 hj7) (by decide) rfl gw_251 dX2_clearMirrored_44 ?_
    refine J_iload_n rfl (i := 1) rfl dX2_clearMirrored_47 ?_
    refine J_icmp_ne (tgt := 82) dX2_clearMirrored_48 (by decide) (fun hb14 => ?_) (fun hb14 => ?_)
    · replace hw := hw.1 hb14
      refine J_iinc [(4, .int (x4 + 1)), (5, .int (v2 - v5)), (0, .ref 31), (1, .int x1), (2, .int x2), (3, .int x3)] (i := 4) (v := (x4 + 1)) rfl rfl (by decide) rfl dX2_clearMirrored_82 ?_
      refine J_goto (tgt := 16) dX2_clearMirrored_85 (by decide) ?_
      exact J_sub [2, 3, 4, 5, 0] rfl hw
    · replace hw := hw.2 hb14
      refine J_aload_n rfl (i := 0) rfl dX2_clearMirrored_51 ?_
      refine J_getr kls_2 (q := 31) (k := 1) sh_31 (by decide) rfl gw_302 dX2_clearMirrored_52 ?_
      refine J_iload (i := 4) rfl dX2_clearMirrored_55 ?_
      obtain ⟨j8, ej8, hj8, hw⟩ := hw
      refine J_aald (r := 23 + j8) sh_22 ej8 hj8 (by decide) (if_pos hj8) dX2_clearMirrored_57 ?_
      refine J_geti kls_0 (q := (23 + j8)) (k := 0) (sh_b23 hj8) (by decide) rfl gw_251 dX2_clearMirrored_58 ?_
      refine J_iload_n rfl (i := 1) rfl dX2_clearMirrored_61 ?_
      refine J_icmp_ne (tgt := 82) dX2_clearMirrored_62 (by decide) (fun hb13 => ?_) (fun hb13 => ?_)
      · replace hw := hw.1 hb13
        refine J_iinc [(4, .int (x4 + 1)), (5, .int (v2 - v5)), (0, .ref 31), (1, .int x1), (2, .int x2), (3, .int x3)] (i := 4) (v := (x4 + 1)) rfl rfl (by decide) rfl dX2_clearMirrored_82 ?_
        refine J_goto (tgt := 16) dX2_clearMirrored_85 (by decide) ?_
        exact J_sub [2, 3, 4, 5, 0] rfl hw
      · replace hw := hw.2 hb13
        refine J_aload_n rfl (i := 0) rfl dX2_clearMirrored_65 ?_
        refine J_getr kls_2 (q := 31) (k := 0) sh_31 (by decide) rfl gw_301 dX2_clearMirrored_66 ?_
        refine J_iload_n rfl (i := 3) rfl dX2_clearMirrored_69 ?_
        refine J_iload (i := 4) rfl dX2_clearMirrored_70 ?_
        refine J_iload (i := 5) rfl dX2_clearMirrored_72 ?_
        obtain ⟨v10, hc9, hw⟩ := hw
        refine J_callV (as := [.int x3, .int x4, .int (v2 - v5)]) (k := 4) (st := []) cal_X7_keepsClear cai_X7_keepsClear gw_758 ⟨by decide, by decide⟩ cnt_X7_keepsClear sh_4 rfl rfl (Nat.le_of_ble_eq_true rfl) dX2_clearMirrored_74 (Nat.zero_add _).symm (Nat.zero_add _).symm hc9 ?_
        refine J_if_ne (tgt := 82) dX2_clearMirrored_77 (by decide) (fun hb12 => ?_) (fun hb12 => ?_)
        · replace hw := hw.1 hb12
          refine J_iinc [(4, .int (x4 + 1)), (5, .int (v2 - v5)), (0, .ref 31), (1, .int x1), (2, .int x2), (3, .int x3)] (i := 4) (v := (x4 + 1)) rfl rfl (by decide) rfl dX2_clearMirrored_82 ?_
          refine J_goto (tgt := 16) dX2_clearMirrored_85 (by decide) ?_
          exact J_sub [2, 3, 4, 5, 0] rfl hw
        · replace hw := hw.2 hb12
          refine J_iconst (v := 0) (by decide) dX2_clearMirrored_80 ?_
          exact J_fini (ty := .boolean) rfl rfl dX2_clearMirrored_81 hw
theorem dX2_positionMirrored_0 : decode cX2_positionMirrored 0 = .ok (.iload_n 2, 1) := by decide +kernel
theorem dX2_positionMirrored_1 : decode cX2_positionMirrored 1 = .ok (.iload_n 1, 1) := by decide +kernel
theorem dX2_positionMirrored_2 : decode cX2_positionMirrored 2 = .ok (.ishr, 1) := by decide +kernel
theorem dX2_positionMirrored_3 : decode cX2_positionMirrored 3 = .ok (.iconst 1, 1) := by decide +kernel
theorem dX2_positionMirrored_4 : decode cX2_positionMirrored 4 = .ok (.iand, 1) := by decide +kernel
theorem dX2_positionMirrored_5 : decode cX2_positionMirrored 5 = .ok (.ifCond .eq 7, 3) := by decide +kernel
theorem dX2_positionMirrored_8 : decode cX2_positionMirrored 8 = .ok (.iconst 1, 1) := by decide +kernel
theorem dX2_positionMirrored_9 : decode cX2_positionMirrored 9 = .ok (.goto 4, 3) := by decide +kernel
theorem dX2_positionMirrored_12 : decode cX2_positionMirrored 12 = .ok (.iconst 0, 1) := by decide +kernel
theorem dX2_positionMirrored_13 : decode cX2_positionMirrored 13 = .ok (.istore_n 3, 1) := by decide +kernel
theorem dX2_positionMirrored_14 : decode cX2_positionMirrored 14 = .ok (.iload_n 3, 1) := by decide +kernel
theorem dX2_positionMirrored_15 : decode cX2_positionMirrored 15 = .ok (.ifCond .eq 16, 3) := by decide +kernel
theorem dX2_positionMirrored_18 : decode cX2_positionMirrored 18 = .ok (.aload_n 0, 1) := by decide +kernel
theorem dX2_positionMirrored_19 : decode cX2_positionMirrored 19 = .ok (.getfield 15, 3) := by decide +kernel
theorem dX2_positionMirrored_22 : decode cX2_positionMirrored 22 = .ok (.iload_n 1, 1) := by decide +kernel
theorem dX2_positionMirrored_23 : decode cX2_positionMirrored 23 = .ok (.aaload, 1) := by decide +kernel
theorem dX2_positionMirrored_24 : decode cX2_positionMirrored 24 = .ok (.getfield 33, 3) := by decide +kernel
theorem dX2_positionMirrored_27 : decode cX2_positionMirrored 27 = .ok (.ineg, 1) := by decide +kernel
theorem dX2_positionMirrored_28 : decode cX2_positionMirrored 28 = .ok (.goto 12, 3) := by decide +kernel
theorem dX2_positionMirrored_31 : decode cX2_positionMirrored 31 = .ok (.aload_n 0, 1) := by decide +kernel
theorem dX2_positionMirrored_32 : decode cX2_positionMirrored 32 = .ok (.getfield 15, 3) := by decide +kernel
theorem dX2_positionMirrored_35 : decode cX2_positionMirrored 35 = .ok (.iload_n 1, 1) := by decide +kernel
theorem dX2_positionMirrored_36 : decode cX2_positionMirrored 36 = .ok (.aaload, 1) := by decide +kernel
theorem dX2_positionMirrored_37 : decode cX2_positionMirrored 37 = .ok (.getfield 33, 3) := by decide +kernel
theorem dX2_positionMirrored_40 : decode cX2_positionMirrored 40 = .ok (.ireturn, 1) := by decide +kernel
set_option maxRecDepth 20000 in
theorem bX2_positionMirrored_0 {G : Gx} {mm : Nat → Nat → Int32} {lm : Nat → Int64} {x1 : Int32} {x2 : Int32} {o : Ou} {z : Wd} {a b : Nat} (hw : ((((x2 >>> (x1 &&& 31)) &&& 1) = 0) → ∃ j2 : Nat, x1 = nI j2 ∧ j2 < 8 ∧ o = .inl (some (.int (mm (23 + j2) 1))) ∧ z = (SH, mm, lm)) ∧ ((¬ ((x2 >>> (x1 &&& 31)) &&& 1) = 0) → ∃ j4 : Nat, x1 = nI j4 ∧ j4 < 8 ∧ o = .inl (some (.int (-(mm (23 + j4) 1)))) ∧ z = (SH, mm, lm))) :
    J G M_X2_positionMirrored 0 [(0, .ref 31), (1, .int x1), (2, .int x2)] [] (SH, mm, lm) false o z false a b := by
  refine J_iload_n rfl (i := 2) rfl dX2_positionMirrored_0 ?_
  refine J_iload_n rfl (i := 1) rfl dX2_positionMirrored_1 ?_
  refine J_ishr dX2_positionMirrored_2 ?_
  refine J_iconst (v := 1) (by decide) dX2_positionMirrored_3 ?_
  refine J_iand dX2_positionMirrored_4 ?_
  refine J_if_eq (tgt := 12) dX2_positionMirrored_5 (by decide) (fun hb5 => ?_) (fun hb5 => ?_)
  · replace hw := hw.1 hb5
    refine J_iconst (v := 0) (by decide) dX2_positionMirrored_12 ?_
    refine J_istore_n [(3, .int 0), (0, .ref 31), (1, .int x1), (2, .int x2)] rfl (i := 3) (by decide) rfl dX2_positionMirrored_13 ?_
    refine J_iload_n rfl (i := 3) rfl dX2_positionMirrored_14 ?_
    refine J_if_eq (tgt := 31) dX2_positionMirrored_15 (by decide) (fun _ => ?_) (fun hb1 => absurd hb1 (by decide))
    refine J_aload_n rfl (i := 0) rfl dX2_positionMirrored_31 ?_
    refine J_getr kls_2 (q := 31) (k := 1) sh_31 (by decide) rfl gw_302 dX2_positionMirrored_32 ?_
    refine J_iload_n rfl (i := 1) rfl dX2_positionMirrored_35 ?_
    obtain ⟨j2, ej2, hj2, hw⟩ := hw
    refine J_aald (r := 23 + j2) sh_22 ej2 hj2 (by decide) (if_pos hj2) dX2_positionMirrored_36 ?_
    refine J_geti kls_0 (q := (23 + j2)) (k := 1) (sh_b23 hj2) (by decide) rfl gw_256 dX2_positionMirrored_37 ?_
    exact J_fini (ty := .int) rfl rfl dX2_positionMirrored_40 hw
  · replace hw := hw.2 hb5
    refine J_iconst (v := 1) (by decide) dX2_positionMirrored_8 ?_
    refine J_goto (tgt := 13) dX2_positionMirrored_9 (by decide) ?_
    refine J_istore_n [(3, .int 1), (0, .ref 31), (1, .int x1), (2, .int x2)] rfl (i := 3) (by decide) rfl dX2_positionMirrored_13 ?_
    refine J_iload_n rfl (i := 3) rfl dX2_positionMirrored_14 ?_
    refine J_if_eq (tgt := 31) dX2_positionMirrored_15 (by decide) (fun hb3 => absurd hb3 (by decide)) (fun _ => ?_)
    refine J_aload_n rfl (i := 0) rfl dX2_positionMirrored_18 ?_
    refine J_getr kls_2 (q := 31) (k := 1) sh_31 (by decide) rfl gw_302 dX2_positionMirrored_19 ?_
    refine J_iload_n rfl (i := 1) rfl dX2_positionMirrored_22 ?_
    obtain ⟨j4, ej4, hj4, hw⟩ := hw
    refine J_aald (r := 23 + j4) sh_22 ej4 hj4 (by decide) (if_pos hj4) dX2_positionMirrored_23 ?_
    refine J_geti kls_0 (q := (23 + j4)) (k := 1) (sh_b23 hj4) (by decide) rfl gw_256 dX2_positionMirrored_24 ?_
    refine J_ineg dX2_positionMirrored_27 ?_
    refine J_goto (tgt := 40) dX2_positionMirrored_28 (by decide) ?_
    exact J_fini (ty := .int) rfl rfl dX2_positionMirrored_40 hw
