/-! ===== decode rows and walks between cut points, by program (wip/gen/mk10.py) ===== -/
theorem dX10_thrown_0 : decode cX10_thrown 0 = .ok (.aload_n 0, 1) := by decide +kernel
theorem dX10_thrown_1 : decode cX10_thrown 1 = .ok (.getfield 77, 3) := by decide +kernel
theorem dX10_thrown_4 : decode cX10_thrown 4 = .ok (.ireturn, 1) := by decide +kernel
set_option maxRecDepth 20000 in
theorem bX10_thrown_0 {G : Gx} {mm : Nat → Nat → Int32} {lm : Nat → Int64}  {o : Ou} {z : Wd} {a b : Nat} (hw : o = .inl (some (.int (mm 63 4))) ∧ z = (SH, mm, lm)) :
    J G M_X10_thrown 0 [(0, .ref 63)] [] (SH, mm, lm) false o z false a b := by
  refine J_aload_n rfl (i := 0) rfl dX10_thrown_0 ?_
  refine J_geti kls_10 (q := 63) (k := 4) sh_63 (by decide) rfl gw_1437 dX10_thrown_1 ?_
  exact J_fini (ty := .int) rfl rfl dX10_thrown_4 hw
theorem dX10_isIn_0 : decode cX10_isIn 0 = .ok (.lload_n 0, 1) := by decide +kernel
theorem dX10_isIn_1 : decode cX10_isIn 1 = .ok (.lload_n 2, 1) := by decide +kernel
theorem dX10_isIn_2 : decode cX10_isIn 2 = .ok (.lcmp, 1) := by decide +kernel
theorem dX10_isIn_3 : decode cX10_isIn 3 = .ok (.ifCond .lt 14, 3) := by decide +kernel
theorem dX10_isIn_6 : decode cX10_isIn 6 = .ok (.lload_n 0, 1) := by decide +kernel
theorem dX10_isIn_7 : decode cX10_isIn 7 = .ok (.lload 4, 2) := by decide +kernel
theorem dX10_isIn_9 : decode cX10_isIn 9 = .ok (.lcmp, 1) := by decide +kernel
theorem dX10_isIn_10 : decode cX10_isIn 10 = .ok (.ifCond .gt 7, 3) := by decide +kernel
theorem dX10_isIn_13 : decode cX10_isIn 13 = .ok (.iconst 1, 1) := by decide +kernel
theorem dX10_isIn_14 : decode cX10_isIn 14 = .ok (.goto 4, 3) := by decide +kernel
theorem dX10_isIn_17 : decode cX10_isIn 17 = .ok (.iconst 0, 1) := by decide +kernel
theorem dX10_isIn_18 : decode cX10_isIn 18 = .ok (.ireturn, 1) := by decide +kernel
set_option maxRecDepth 20000 in
theorem bX10_isIn_0 {G : Gx} {mm : Nat → Nat → Int32} {lm : Nat → Int64} {x0 : Int64} {x2 : Int64} {x4 : Int64} {o : Ou} {z : Wd} {a b : Nat} (hw : (((lg_cmp x0 x2) < 0) → o = .inl (some (.int 0)) ∧ z = (SH, mm, lm)) ∧ ((¬ (lg_cmp x0 x2) < 0) → ((0 < (lg_cmp x0 x4)) → o = .inl (some (.int 0)) ∧ z = (SH, mm, lm)) ∧ ((¬ 0 < (lg_cmp x0 x4)) → o = .inl (some (.int 1)) ∧ z = (SH, mm, lm)))) :
    J G M_X10_isIn 0 [(0, .long x0), (2, .long x2), (4, .long x4)] [] (SH, mm, lm) false o z false a b := by
  refine J_lload_n rfl (i := 0) rfl dX10_isIn_0 ?_
  refine J_lload_n rfl (i := 2) rfl dX10_isIn_1 ?_
  refine J_lcmp dX10_isIn_2 ?_
  refine J_if_lt (tgt := 17) dX10_isIn_3 (by decide) (fun hb2 => ?_) (fun hb2 => ?_)
  · replace hw := hw.1 hb2
    refine J_iconst (v := 0) (by decide) dX10_isIn_17 ?_
    exact J_fini (ty := .boolean) rfl rfl dX10_isIn_18 hw
  · replace hw := hw.2 hb2
    refine J_lload_n rfl (i := 0) rfl dX10_isIn_6 ?_
    refine J_lload (i := 4) rfl dX10_isIn_7 ?_
    refine J_lcmp dX10_isIn_9 ?_
    refine J_if_gt (tgt := 17) dX10_isIn_10 (by decide) (fun hb1 => ?_) (fun hb1 => ?_)
    · replace hw := hw.1 hb1
      refine J_iconst (v := 0) (by decide) dX10_isIn_17 ?_
      exact J_fini (ty := .boolean) rfl rfl dX10_isIn_18 hw
    · replace hw := hw.2 hb1
      refine J_iconst (v := 1) (by decide) dX10_isIn_13 ?_
      refine J_goto (tgt := 18) dX10_isIn_14 (by decide) ?_
      exact J_fini (ty := .boolean) rfl rfl dX10_isIn_18 hw
theorem dX10_size_0 : decode cX10_size 0 = .ok (.iload_n 0, 1) := by decide +kernel
theorem dX10_size_1 : decode cX10_size 1 = .ok (.ifCond .ge 8, 3) := by decide +kernel
theorem dX10_size_4 : decode cX10_size 4 = .ok (.iload_n 0, 1) := by decide +kernel
theorem dX10_size_5 : decode cX10_size 5 = .ok (.ineg, 1) := by decide +kernel
theorem dX10_size_6 : decode cX10_size 6 = .ok (.goto 4, 3) := by decide +kernel
theorem dX10_size_9 : decode cX10_size 9 = .ok (.iload_n 0, 1) := by decide +kernel
theorem dX10_size_10 : decode cX10_size 10 = .ok (.ireturn, 1) := by decide +kernel
set_option maxRecDepth 20000 in
theorem bX10_size_0 {G : Gx} {mm : Nat → Nat → Int32} {lm : Nat → Int64} {x0 : Int32} {o : Ou} {z : Wd} {a b : Nat} (hw : ((0 ≤ x0) → o = .inl (some (.int x0)) ∧ z = (SH, mm, lm)) ∧ ((¬ 0 ≤ x0) → o = .inl (some (.int (-x0))) ∧ z = (SH, mm, lm))) :
    J G M_X10_size 0 [(0, .int x0)] [] (SH, mm, lm) false o z false a b := by
  refine J_iload_n rfl (i := 0) rfl dX10_size_0 ?_
  refine J_if_ge (tgt := 9) dX10_size_1 (by decide) (fun hb1 => ?_) (fun hb1 => ?_)
  · replace hw := hw.1 hb1
    refine J_iload_n rfl (i := 0) rfl dX10_size_9 ?_
    exact J_fini (ty := .int) rfl rfl dX10_size_10 hw
  · replace hw := hw.2 hb1
    refine J_iload_n rfl (i := 0) rfl dX10_size_4 ?_
    refine J_ineg dX10_size_5 ?_
    refine J_goto (tgt := 10) dX10_size_6 (by decide) ?_
    exact J_fini (ty := .int) rfl rfl dX10_size_10 hw
theorem dX10_has_0 : decode cX10_has 0 = .ok (.iload_n 0, 1) := by decide +kernel
theorem dX10_has_1 : decode cX10_has 1 = .ok (.iload_n 1, 1) := by decide +kernel
theorem dX10_has_2 : decode cX10_has 2 = .ok (.ishr, 1) := by decide +kernel
theorem dX10_has_3 : decode cX10_has 3 = .ok (.iconst 1, 1) := by decide +kernel
theorem dX10_has_4 : decode cX10_has 4 = .ok (.iand, 1) := by decide +kernel
theorem dX10_has_5 : decode cX10_has 5 = .ok (.iconst 1, 1) := by decide +kernel
theorem dX10_has_6 : decode cX10_has 6 = .ok (.if_icmp .ne 7, 3) := by decide +kernel
theorem dX10_has_9 : decode cX10_has 9 = .ok (.iconst 1, 1) := by decide +kernel
theorem dX10_has_10 : decode cX10_has 10 = .ok (.goto 4, 3) := by decide +kernel
theorem dX10_has_13 : decode cX10_has 13 = .ok (.iconst 0, 1) := by decide +kernel
theorem dX10_has_14 : decode cX10_has 14 = .ok (.ireturn, 1) := by decide +kernel
set_option maxRecDepth 20000 in
theorem bX10_has_0 {G : Gx} {mm : Nat → Nat → Int32} {lm : Nat → Int64} {x0 : Int32} {x1 : Int32} {o : Ou} {z : Wd} {a b : Nat} (hw : ((¬ ((x0 >>> (x1 &&& 31)) &&& 1) = 1) → o = .inl (some (.int 0)) ∧ z = (SH, mm, lm)) ∧ ((((x0 >>> (x1 &&& 31)) &&& 1) = 1) → o = .inl (some (.int 1)) ∧ z = (SH, mm, lm))) :
    J G M_X10_has 0 [(0, .int x0), (1, .int x1)] [] (SH, mm, lm) false o z false a b := by
  refine J_iload_n rfl (i := 0) rfl dX10_has_0 ?_
  refine J_iload_n rfl (i := 1) rfl dX10_has_1 ?_
  refine J_ishr dX10_has_2 ?_
  refine J_iconst (v := 1) (by decide) dX10_has_3 ?_
  refine J_iand dX10_has_4 ?_
  refine J_iconst (v := 1) (by decide) dX10_has_5 ?_
  refine J_icmp_ne (tgt := 13) dX10_has_6 (by decide) (fun hb1 => ?_) (fun hb1 => ?_)
  · replace hw := hw.1 hb1
    refine J_iconst (v := 0) (by decide) dX10_has_13 ?_
    exact J_fini (ty := .boolean) rfl rfl dX10_has_14 hw
  · replace hw := hw.2 hb1
    refine J_iconst (v := 1) (by decide) dX10_has_9 ?_
    refine J_goto (tgt := 14) dX10_has_10 (by decide) ?_
    exact J_fini (ty := .boolean) rfl rfl dX10_has_14 hw
theorem dX10_count_0 : decode cX10_count 0 = .ok (.iconst 0, 1) := by decide +kernel
theorem dX10_count_1 : decode cX10_count 1 = .ok (.istore_n 1, 1) := by decide +kernel
theorem dX10_count_2 : decode cX10_count 2 = .ok (.iload_n 0, 1) := by decide +kernel
theorem dX10_count_3 : decode cX10_count 3 = .ok (.istore_n 2, 1) := by decide +kernel
theorem dX10_count_4 : decode cX10_count 4 = .ok (.iload_n 2, 1) := by decide +kernel
theorem dX10_count_5 : decode cX10_count 5 = .ok (.ifCond .eq 15, 3) := by decide +kernel
theorem dX10_count_8 : decode cX10_count 8 = .ok (.iinc 1 1, 3) := by decide +kernel
theorem dX10_count_11 : decode cX10_count 11 = .ok (.iload_n 2, 1) := by decide +kernel
theorem dX10_count_12 : decode cX10_count 12 = .ok (.iload_n 2, 1) := by decide +kernel
theorem dX10_count_13 : decode cX10_count 13 = .ok (.iconst 1, 1) := by decide +kernel
theorem dX10_count_14 : decode cX10_count 14 = .ok (.isub, 1) := by decide +kernel
theorem dX10_count_15 : decode cX10_count 15 = .ok (.iand, 1) := by decide +kernel
theorem dX10_count_16 : decode cX10_count 16 = .ok (.istore_n 2, 1) := by decide +kernel
theorem dX10_count_17 : decode cX10_count 17 = .ok (.goto (-13), 3) := by decide +kernel
theorem dX10_count_20 : decode cX10_count 20 = .ok (.iload_n 1, 1) := by decide +kernel
theorem dX10_count_21 : decode cX10_count 21 = .ok (.ireturn, 1) := by decide +kernel
set_option maxRecDepth 20000 in
theorem bX10_count_0 {G : Gx} {mm : Nat → Nat → Int32} {lm : Nat → Int64} {x0 : Int32} {o : Ou} {z : Wd} {a b : Nat} (hw : J G M_X10_count 4 [(1, .int 0), (2, .int x0)] [] (SH, mm, lm) false o z false a b) :
    J G M_X10_count 0 [(0, .int x0)] [] (SH, mm, lm) false o z false a b := by
  refine J_iconst (v := 0) (by decide) dX10_count_0 ?_
  refine J_istore_n [(1, .int 0), (0, .int x0)] rfl (i := 1) (by decide) rfl dX10_count_1 ?_
  refine J_iload_n rfl (i := 0) rfl dX10_count_2 ?_
  refine J_istore_n [(2, .int x0), (1, .int 0), (0, .int x0)] rfl (i := 2) (by decide) rfl dX10_count_3 ?_
  exact J_sub [1, 0] rfl hw
set_option maxRecDepth 20000 in
theorem bX10_count_4 {G : Gx} {mm : Nat → Nat → Int32} {lm : Nat → Int64} {x1 : Int32} {x2 : Int32} {o : Ou} {z : Wd} {a b : Nat} (hw : ((x2 = 0) → o = .inl (some (.int x1)) ∧ z = (SH, mm, lm)) ∧ ((¬ x2 = 0) → J G M_X10_count 4 [(1, .int (x1 + 1)), (2, .int (x2 &&& (x2 - 1)))] [] (SH, mm, lm) false o z false a b)) :
    J G M_X10_count 4 [(1, .int x1), (2, .int x2)] [] (SH, mm, lm) false o z false a b := by
  refine J_iload_n rfl (i := 2) rfl dX10_count_4 ?_
  refine J_if_eq (tgt := 20) dX10_count_5 (by decide) (fun hb1 => ?_) (fun hb1 => ?_)
  · replace hw := hw.1 hb1
    refine J_iload_n rfl (i := 1) rfl dX10_count_20 ?_
    exact J_fini (ty := .int) rfl rfl dX10_count_21 hw
  · replace hw := hw.2 hb1
    refine J_iinc [(1, .int (x1 + 1)), (2, .int x2)] (i := 1) (v := (x1 + 1)) rfl rfl (by decide) rfl dX10_count_8 ?_
    refine J_iload_n rfl (i := 2) rfl dX10_count_11 ?_
    refine J_iload_n rfl (i := 2) rfl dX10_count_12 ?_
    refine J_iconst (v := 1) (by decide) dX10_count_13 ?_
    refine J_isub dX10_count_14 ?_
    refine J_iand dX10_count_15 ?_
    refine J_istore_n [(2, .int (x2 &&& (x2 - 1))), (1, .int (x1 + 1))] rfl (i := 2) (by decide) rfl dX10_count_16 ?_
    refine J_goto (tgt := 4) dX10_count_17 (by decide) ?_
    exact J_sub [1, 0] rfl hw
theorem dX10_isWrong_0 : decode cX10_isWrong 0 = .ok (.aload_n 0, 1) := by decide +kernel
theorem dX10_isWrong_1 : decode cX10_isWrong 1 = .ok (.aload_n 0, 1) := by decide +kernel
theorem dX10_isWrong_2 : decode cX10_isWrong 2 = .ok (.getfield 80, 3) := by decide +kernel
theorem dX10_isWrong_5 : decode cX10_isWrong 5 = .ok (.ifCond .ne 7, 3) := by decide +kernel
theorem dX10_isWrong_8 : decode cX10_isWrong 8 = .ok (.iconst 1, 1) := by decide +kernel
theorem dX10_isWrong_9 : decode cX10_isWrong 9 = .ok (.goto 12, 3) := by decide +kernel
theorem dX10_isWrong_12 : decode cX10_isWrong 12 = .ok (.iload_n 1, 1) := by decide +kernel
theorem dX10_isWrong_13 : decode cX10_isWrong 13 = .ok (.ifCond .eq 7, 3) := by decide +kernel
theorem dX10_isWrong_16 : decode cX10_isWrong 16 = .ok (.iconst 0, 1) := by decide +kernel
theorem dX10_isWrong_17 : decode cX10_isWrong 17 = .ok (.goto 4, 3) := by decide +kernel
theorem dX10_isWrong_20 : decode cX10_isWrong 20 = .ok (.iconst 2, 1) := by decide +kernel
theorem dX10_isWrong_21 : decode cX10_isWrong 21 = .ok (.putfield 77, 3) := by decide +kernel
theorem dX10_isWrong_24 : decode cX10_isWrong 24 = .ok (.aload_n 0, 1) := by decide +kernel
theorem dX10_isWrong_25 : decode cX10_isWrong 25 = .ok (.getfield 77, 3) := by decide +kernel
theorem dX10_isWrong_28 : decode cX10_isWrong 28 = .ok (.ifCond .le 7, 3) := by decide +kernel
theorem dX10_isWrong_31 : decode cX10_isWrong 31 = .ok (.iconst 1, 1) := by decide +kernel
theorem dX10_isWrong_32 : decode cX10_isWrong 32 = .ok (.goto 4, 3) := by decide +kernel
theorem dX10_isWrong_35 : decode cX10_isWrong 35 = .ok (.iconst 0, 1) := by decide +kernel
theorem dX10_isWrong_36 : decode cX10_isWrong 36 = .ok (.ireturn, 1) := by decide +kernel
set_option maxRecDepth 20000 in
theorem bX10_isWrong_0 {G : Gx} {mm : Nat → Nat → Int32} {lm : Nat → Int64} {x1 : Int32} {o : Ou} {z : Wd} {a b : Nat} (hw : ((¬ (mm 63 3) = 0) → ((x1 = 0) → ((((mset mm 63 4 2) 63 4) ≤ 0) → o = .inl (some (.int 0)) ∧ z = (SH, (mset mm 63 4 2), lm)) ∧ ((¬ ((mset mm 63 4 2) 63 4) ≤ 0) → o = .inl (some (.int 1)) ∧ z = (SH, (mset mm 63 4 2), lm))) ∧ ((¬ x1 = 0) → ((((mset mm 63 4 0) 63 4) ≤ 0) → o = .inl (some (.int 0)) ∧ z = (SH, (mset mm 63 4 0), lm)) ∧ ((¬ ((mset mm 63 4 0) 63 4) ≤ 0) → o = .inl (some (.int 1)) ∧ z = (SH, (mset mm 63 4 0), lm)))) ∧ (((mm 63 3) = 0) → ((((mset mm 63 4 1) 63 4) ≤ 0) → o = .inl (some (.int 0)) ∧ z = (SH, (mset mm 63 4 1), lm)) ∧ ((¬ ((mset mm 63 4 1) 63 4) ≤ 0) → o = .inl (some (.int 1)) ∧ z = (SH, (mset mm 63 4 1), lm)))) :
    J G M_X10_isWrong 0 [(0, .ref 63), (1, .int x1)] [] (SH, mm, lm) false o z false a b := by
  refine J_aload_n rfl (i := 0) rfl dX10_isWrong_0 ?_
  refine J_aload_n rfl (i := 0) rfl dX10_isWrong_1 ?_
  refine J_geti kls_10 (q := 63) (k := 3) sh_63 (by decide) rfl gw_1436 dX10_isWrong_2 ?_
  refine J_if_ne (tgt := 12) dX10_isWrong_5 (by decide) (fun hb5 => ?_) (fun hb5 => ?_)
  · replace hw := hw.1 hb5
    refine J_iload_n rfl (i := 1) rfl dX10_isWrong_12 ?_
    refine J_if_eq (tgt := 20) dX10_isWrong_13 (by decide) (fun hb3 => ?_) (fun hb3 => ?_)
    · replace hw := hw.1 hb3
      refine J_iconst (v := 2) (by decide) dX10_isWrong_20 ?_
      refine J_puti kls_10 (q := 63) (k := 4) sh_63 (by decide) rfl rfl (fun _ => rfl) (fun _ => rfl) gw_1437 dX10_isWrong_21 ?_
      refine J_aload_n rfl (i := 0) rfl dX10_isWrong_24 ?_
      refine J_geti kls_10 (q := 63) (k := 4) sh_63 (by decide) rfl gw_1437 dX10_isWrong_25 ?_
      refine J_if_le (tgt := 35) dX10_isWrong_28 (by decide) (fun hb1 => ?_) (fun hb1 => ?_)
      · replace hw := hw.1 hb1
        refine J_iconst (v := 0) (by decide) dX10_isWrong_35 ?_
        exact J_fini (ty := .boolean) rfl rfl dX10_isWrong_36 hw
      · replace hw := hw.2 hb1
        refine J_iconst (v := 1) (by decide) dX10_isWrong_31 ?_
        refine J_goto (tgt := 36) dX10_isWrong_32 (by decide) ?_
        exact J_fini (ty := .boolean) rfl rfl dX10_isWrong_36 hw
    · replace hw := hw.2 hb3
      refine J_iconst (v := 0) (by decide) dX10_isWrong_16 ?_
      refine J_goto (tgt := 21) dX10_isWrong_17 (by decide) ?_
      refine J_puti kls_10 (q := 63) (k := 4) sh_63 (by decide) rfl rfl (fun _ => rfl) (fun _ => rfl) gw_1437 dX10_isWrong_21 ?_
      refine J_aload_n rfl (i := 0) rfl dX10_isWrong_24 ?_
      refine J_geti kls_10 (q := 63) (k := 4) sh_63 (by decide) rfl gw_1437 dX10_isWrong_25 ?_
      refine J_if_le (tgt := 35) dX10_isWrong_28 (by decide) (fun hb2 => ?_) (fun hb2 => ?_)
      · replace hw := hw.1 hb2
        refine J_iconst (v := 0) (by decide) dX10_isWrong_35 ?_
        exact J_fini (ty := .boolean) rfl rfl dX10_isWrong_36 hw
      · replace hw := hw.2 hb2
        refine J_iconst (v := 1) (by decide) dX10_isWrong_31 ?_
        refine J_goto (tgt := 36) dX10_isWrong_32 (by decide) ?_
        exact J_fini (ty := .boolean) rfl rfl dX10_isWrong_36 hw
  · replace hw := hw.2 hb5
    refine J_iconst (v := 1) (by decide) dX10_isWrong_8 ?_
    refine J_goto (tgt := 21) dX10_isWrong_9 (by decide) ?_
    refine J_puti kls_10 (q := 63) (k := 4) sh_63 (by decide) rfl rfl (fun _ => rfl) (fun _ => rfl) gw_1437 dX10_isWrong_21 ?_
    refine J_aload_n rfl (i := 0) rfl dX10_isWrong_24 ?_
    refine J_geti kls_10 (q := 63) (k := 4) sh_63 (by decide) rfl gw_1437 dX10_isWrong_25 ?_
    refine J_if_le (tgt := 35) dX10_isWrong_28 (by decide) (fun hb4 => ?_) (fun hb4 => ?_)
    · replace hw := hw.1 hb4
      refine J_iconst (v := 0) (by decide) dX10_isWrong_35 ?_
      exact J_fini (ty := .boolean) rfl rfl dX10_isWrong_36 hw
    · replace hw := hw.2 hb4
      refine J_iconst (v := 1) (by decide) dX10_isWrong_31 ?_
      refine J_goto (tgt := 36) dX10_isWrong_32 (by decide) ?_
      exact J_fini (ty := .boolean) rfl rfl dX10_isWrong_36 hw
theorem dX10_put_0 : decode cX10_put 0 = .ok (.bipush 24, 2) := by decide +kernel
theorem dX10_put_2 : decode cX10_put 2 = .ok (.istore_n 2, 1) := by decide +kernel
theorem dX10_put_3 : decode cX10_put 3 = .ok (.iload_n 2, 1) := by decide +kernel
theorem dX10_put_4 : decode cX10_put 4 = .ok (.ifCond .lt 35, 3) := by decide +kernel
theorem dX10_put_7 : decode cX10_put 7 = .ok (.aload_n 0, 1) := by decide +kernel
theorem dX10_put_8 : decode cX10_put 8 = .ok (.getfield 40, 3) := by decide +kernel
theorem dX10_put_11 : decode cX10_put 11 = .ok (.aload_n 0, 1) := by decide +kernel
theorem dX10_put_12 : decode cX10_put 12 = .ok (.getfield 84, 3) := by decide +kernel
theorem dX10_put_15 : decode cX10_put 15 = .ok (.iload_n 1, 1) := by decide +kernel
theorem dX10_put_16 : decode cX10_put 16 = .ok (.iload_n 2, 1) := by decide +kernel
theorem dX10_put_17 : decode cX10_put 17 = .ok (.ishr, 1) := by decide +kernel
theorem dX10_put_18 : decode cX10_put 18 = .ok (.sipush 255, 3) := by decide +kernel
theorem dX10_put_21 : decode cX10_put 21 = .ok (.iand, 1) := by decide +kernel
theorem dX10_put_22 : decode cX10_put 22 = .ok (.iastore, 1) := by decide +kernel
theorem dX10_put_23 : decode cX10_put 23 = .ok (.aload_n 0, 1) := by decide +kernel
theorem dX10_put_24 : decode cX10_put 24 = .ok (.dup, 1) := by decide +kernel
theorem dX10_put_25 : decode cX10_put 25 = .ok (.getfield 84, 3) := by decide +kernel
theorem dX10_put_28 : decode cX10_put 28 = .ok (.iconst 1, 1) := by decide +kernel
theorem dX10_put_29 : decode cX10_put 29 = .ok (.iadd, 1) := by decide +kernel
theorem dX10_put_30 : decode cX10_put 30 = .ok (.putfield 84, 3) := by decide +kernel
theorem dX10_put_33 : decode cX10_put 33 = .ok (.iinc 2 (-8), 3) := by decide +kernel
theorem dX10_put_36 : decode cX10_put 36 = .ok (.goto (-33), 3) := by decide +kernel
theorem dX10_put_39 : decode cX10_put 39 = .ok (.return_, 1) := by decide +kernel
set_option maxRecDepth 20000 in
theorem bX10_put_0 {G : Gx} {mm : Nat → Nat → Int32} {lm : Nat → Int64} {x1 : Int32} {o : Ou} {z : Wd} {a b : Nat} (hw : J G M_X10_put 3 [(0, .ref 63), (1, .int x1), (2, .int 24)] [] (SH, mm, lm) false o z false a b) :
    J G M_X10_put 0 [(0, .ref 63), (1, .int x1)] [] (SH, mm, lm) false o z false a b := by
  refine J_bipush (v := 24) (by decide) dX10_put_0 ?_
  refine J_istore_n [(2, .int 24), (0, .ref 63), (1, .int x1)] rfl (i := 2) (by decide) rfl dX10_put_2 ?_
  exact J_sub [1, 2, 0] rfl hw
set_option maxRecDepth 20000 in
theorem bX10_put_3 {G : Gx} {mm : Nat → Nat → Int32} {lm : Nat → Int64} {x1 : Int32} {x2 : Int32} {o : Ou} {z : Wd} {a b : Nat} (hw : ((x2 < 0) → o = .inl none ∧ z = (SH, mm, lm)) ∧ ((¬ x2 < 0) → ∃ j1 : Nat, (mm 63 18) = nI j1 ∧ j1 < 400 ∧ J G M_X10_put 3 [(0, .ref 63), (1, .int x1), (2, .int (x2 + (-8)))] [] (SH, (mset (mset mm 74 j1 ((x1 >>> (x2 &&& 31)) &&& 255)) 63 18 (((mset mm 74 j1 ((x1 >>> (x2 &&& 31)) &&& 255)) 63 18) + 1)), lm) false o z false a b)) :
    J G M_X10_put 3 [(0, .ref 63), (1, .int x1), (2, .int x2)] [] (SH, mm, lm) false o z false a b := by
  refine J_iload_n rfl (i := 2) rfl dX10_put_3 ?_
  refine J_if_lt (tgt := 39) dX10_put_4 (by decide) (fun hb2 => ?_) (fun hb2 => ?_)
  · replace hw := hw.1 hb2
    exact J_finv rfl dX10_put_39 hw
  · replace hw := hw.2 hb2
    refine J_aload_n rfl (i := 0) rfl dX10_put_7 ?_
    refine J_getr kls_10 (q := 63) (k := 17) sh_63 (by decide) rfl gw_1450 dX10_put_8 ?_
    refine J_aload_n rfl (i := 0) rfl dX10_put_11 ?_
    refine J_geti kls_10 (q := 63) (k := 18) sh_63 (by decide) rfl gw_1451 dX10_put_12 ?_
    refine J_iload_n rfl (i := 1) rfl dX10_put_15 ?_
    refine J_iload_n rfl (i := 2) rfl dX10_put_16 ?_
    refine J_ishr dX10_put_17 ?_
    refine J_sipush (v := 255) (by decide) dX10_put_18 ?_
    refine J_iand dX10_put_21 ?_
    obtain ⟨j1, ej1, hj1, hw⟩ := hw
    refine J_iast sh_74 ej1 hj1 (by decide) dX10_put_22 ?_
    refine J_aload_n rfl (i := 0) rfl dX10_put_23 ?_
    refine J_dupr dX10_put_24 ?_
    refine J_geti kls_10 (q := 63) (k := 18) sh_63 (by decide) rfl gw_1451 dX10_put_25 ?_
    refine J_iconst (v := 1) (by decide) dX10_put_28 ?_
    refine J_iadd dX10_put_29 ?_
    refine J_puti kls_10 (q := 63) (k := 18) sh_63 (by decide) rfl rfl (fun _ => rfl) (fun _ => rfl) gw_1451 dX10_put_30 ?_
    refine J_iinc [(2, .int (x2 + (-8))), (0, .ref 63), (1, .int x1)] (i := 2) (v := (x2 + (-8))) rfl (congrArg (fun y => x2 + y) (by decide : Int32.ofInt (-8) = (-8))) (by decide) rfl dX10_put_33 ?_
    refine J_goto (tgt := 3) dX10_put_36 (by decide) ?_
    exact J_sub [1, 2, 0] rfl hw
theorem dX10_append_0 : decode cX10_append 0 = .ok (.aload_n 0, 1) := by decide +kernel
theorem dX10_append_1 : decode cX10_append 1 = .ok (.aload_n 0, 1) := by decide +kernel
theorem dX10_append_2 : decode cX10_append 2 = .ok (.getfield 84, 3) := by decide +kernel
theorem dX10_append_5 : decode cX10_append 5 = .ok (.bipush 20, 2) := by decide +kernel
theorem dX10_append_7 : decode cX10_append 7 = .ok (.iadd, 1) := by decide +kernel
theorem dX10_append_8 : decode cX10_append 8 = .ok (.sipush 400, 3) := by decide +kernel
theorem dX10_append_11 : decode cX10_append 11 = .ok (.if_icmp .le 7, 3) := by decide +kernel
theorem dX10_append_14 : decode cX10_append 14 = .ok (.iconst 1, 1) := by decide +kernel
theorem dX10_append_15 : decode cX10_append 15 = .ok (.goto 4, 3) := by decide +kernel
theorem dX10_append_18 : decode cX10_append 18 = .ok (.iconst 0, 1) := by decide +kernel
theorem dX10_append_19 : decode cX10_append 19 = .ok (.putfield 77, 3) := by decide +kernel
theorem dX10_append_22 : decode cX10_append 22 = .ok (.aload_n 0, 1) := by decide +kernel
theorem dX10_append_23 : decode cX10_append 23 = .ok (.getfield 77, 3) := by decide +kernel
theorem dX10_append_26 : decode cX10_append 26 = .ok (.ifCond .le 5, 3) := by decide +kernel
theorem dX10_append_29 : decode cX10_append 29 = .ok (.iconst 0, 1) := by decide +kernel
theorem dX10_append_30 : decode cX10_append 30 = .ok (.ireturn, 1) := by decide +kernel
theorem dX10_append_31 : decode cX10_append 31 = .ok (.aload_n 0, 1) := by decide +kernel
theorem dX10_append_32 : decode cX10_append 32 = .ok (.iload_n 1, 1) := by decide +kernel
theorem dX10_append_33 : decode cX10_append 33 = .ok (.invokevirtual 87, 3) := by decide +kernel
theorem dX10_append_36 : decode cX10_append 36 = .ok (.aload_n 0, 1) := by decide +kernel
theorem dX10_append_37 : decode cX10_append 37 = .ok (.iload_n 2, 1) := by decide +kernel
theorem dX10_append_38 : decode cX10_append 38 = .ok (.invokevirtual 87, 3) := by decide +kernel
theorem dX10_append_41 : decode cX10_append 41 = .ok (.aload_n 0, 1) := by decide +kernel
theorem dX10_append_42 : decode cX10_append 42 = .ok (.iload_n 3, 1) := by decide +kernel
theorem dX10_append_43 : decode cX10_append 43 = .ok (.invokevirtual 87, 3) := by decide +kernel
theorem dX10_append_46 : decode cX10_append 46 = .ok (.aload_n 0, 1) := by decide +kernel
theorem dX10_append_47 : decode cX10_append 47 = .ok (.iload 4, 2) := by decide +kernel
theorem dX10_append_49 : decode cX10_append 49 = .ok (.invokevirtual 87, 3) := by decide +kernel
theorem dX10_append_52 : decode cX10_append 52 = .ok (.aload_n 0, 1) := by decide +kernel
theorem dX10_append_53 : decode cX10_append 53 = .ok (.iload 5, 2) := by decide +kernel
theorem dX10_append_55 : decode cX10_append 55 = .ok (.invokevirtual 87, 3) := by decide +kernel
theorem dX10_append_58 : decode cX10_append 58 = .ok (.aload_n 0, 1) := by decide +kernel
theorem dX10_append_59 : decode cX10_append 59 = .ok (.getfield 84, 3) := by decide +kernel
theorem dX10_append_62 : decode cX10_append 62 = .ok (.ireturn, 1) := by decide +kernel
set_option maxRecDepth 20000 in
theorem bX10_append_0 {G : Gx} {mm : Nat → Nat → Int32} {lm : Nat → Int64} {x1 : Int32} {x2 : Int32} {x3 : Int32} {x4 : Int32} {x5 : Int32} {o : Ou} {z : Wd} {a b : Nat} (hw : ((((mm 63 18) + 20) ≤ 400) → ((((mset mm 63 4 0) 63 4) ≤ 0) → ∃ (m3 : Nat → Nat → Int32), Ct G M_X10_put [.ref 63, .int x1] (SH, (mset mm 63 4 0), lm) false (.inl none) (SH, m3, lm) false 0 0 ∧ ∃ (m6 : Nat → Nat → Int32), Ct G M_X10_put [.ref 63, .int x2] (SH, m3, lm) false (.inl none) (SH, m6, lm) false 0 0 ∧ ∃ (m9 : Nat → Nat → Int32), Ct G M_X10_put [.ref 63, .int x3] (SH, m6, lm) false (.inl none) (SH, m9, lm) false 0 0 ∧ ∃ (m12 : Nat → Nat → Int32), Ct G M_X10_put [.ref 63, .int x4] (SH, m9, lm) false (.inl none) (SH, m12, lm) false 0 0 ∧ ∃ (m15 : Nat → Nat → Int32), Ct G M_X10_put [.ref 63, .int x5] (SH, m12, lm) false (.inl none) (SH, m15, lm) false 0 0 ∧ o = .inl (some (.int (m15 63 18))) ∧ z = (SH, m15, lm)) ∧ ((¬ ((mset mm 63 4 0) 63 4) ≤ 0) → o = .inl (some (.int 0)) ∧ z = (SH, (mset mm 63 4 0), lm))) ∧ ((¬ ((mm 63 18) + 20) ≤ 400) → ((((mset mm 63 4 1) 63 4) ≤ 0) → ∃ (m19 : Nat → Nat → Int32), Ct G M_X10_put [.ref 63, .int x1] (SH, (mset mm 63 4 1), lm) false (.inl none) (SH, m19, lm) false 0 0 ∧ ∃ (m22 : Nat → Nat → Int32), Ct G M_X10_put [.ref 63, .int x2] (SH, m19, lm) false (.inl none) (SH, m22, lm) false 0 0 ∧ ∃ (m25 : Nat → Nat → Int32), Ct G M_X10_put [.ref 63, .int x3] (SH, m22, lm) false (.inl none) (SH, m25, lm) false 0 0 ∧ ∃ (m28 : Nat → Nat → Int32), Ct G M_X10_put [.ref 63, .int x4] (SH, m25, lm) false (.inl none) (SH, m28, lm) false 0 0 ∧ ∃ (m31 : Nat → Nat → Int32), Ct G M_X10_put [.ref 63, .int x5] (SH, m28, lm) false (.inl none) (SH, m31, lm) false 0 0 ∧ o = .inl (some (.int (m31 63 18))) ∧ z = (SH, m31, lm)) ∧ ((¬ ((mset mm 63 4 1) 63 4) ≤ 0) → o = .inl (some (.int 0)) ∧ z = (SH, (mset mm 63 4 1), lm)))) :
    J G M_X10_append 0 [(0, .ref 63), (1, .int x1), (2, .int x2), (3, .int x3), (4, .int x4), (5, .int x5)] [] (SH, mm, lm) false o z false a b := by
  refine J_aload_n rfl (i := 0) rfl dX10_append_0 ?_
  refine J_aload_n rfl (i := 0) rfl dX10_append_1 ?_
  refine J_geti kls_10 (q := 63) (k := 18) sh_63 (by decide) rfl gw_1451 dX10_append_2 ?_
  refine J_bipush (v := 20) (by decide) dX10_append_5 ?_
  refine J_iadd dX10_append_7 ?_
  refine J_sipush (v := 400) (by decide) dX10_append_8 ?_
  refine J_icmp_le (tgt := 18) dX10_append_11 (by decide) (fun hb33 => ?_) (fun hb33 => ?_)
  · replace hw := hw.1 hb33
    refine J_iconst (v := 0) (by decide) dX10_append_18 ?_
    refine J_puti kls_10 (q := 63) (k := 4) sh_63 (by decide) rfl rfl (fun _ => rfl) (fun _ => rfl) gw_1437 dX10_append_19 ?_
    refine J_aload_n rfl (i := 0) rfl dX10_append_22 ?_
    refine J_geti kls_10 (q := 63) (k := 4) sh_63 (by decide) rfl gw_1437 dX10_append_23 ?_
    refine J_if_le (tgt := 31) dX10_append_26 (by decide) (fun hb16 => ?_) (fun hb16 => ?_)
    · replace hw := hw.1 hb16
      refine J_aload_n rfl (i := 0) rfl dX10_append_31 ?_
      refine J_iload_n rfl (i := 1) rfl dX10_append_32 ?_
      obtain ⟨m3, hc1, hw⟩ := hw
      refine J_callV (as := [.int x1]) (k := 63) (st := []) cal_X10_put cai_X10_put gw_1565 ⟨by decide, by decide⟩ cnt_X10_put sh_63 rfl rfl (Nat.le_of_ble_eq_true rfl) dX10_append_33 (Nat.zero_add _).symm (Nat.zero_add _).symm hc1 ?_
      refine J_aload_n rfl (i := 0) rfl dX10_append_36 ?_
      refine J_iload_n rfl (i := 2) rfl dX10_append_37 ?_
      obtain ⟨m6, hc4, hw⟩ := hw
      refine J_callV (as := [.int x2]) (k := 63) (st := []) cal_X10_put cai_X10_put gw_1565 ⟨by decide, by decide⟩ cnt_X10_put sh_63 rfl rfl (Nat.le_of_ble_eq_true rfl) dX10_append_38 (Nat.zero_add _).symm (Nat.zero_add _).symm hc4 ?_
      refine J_aload_n rfl (i := 0) rfl dX10_append_41 ?_
      refine J_iload_n rfl (i := 3) rfl dX10_append_42 ?_
      obtain ⟨m9, hc7, hw⟩ := hw
      refine J_callV (as := [.int x3]) (k := 63) (st := []) cal_X10_put cai_X10_put gw_1565 ⟨by decide, by decide⟩ cnt_X10_put sh_63 rfl rfl (Nat.le_of_ble_eq_true rfl) dX10_append_43 (Nat.zero_add _).symm (Nat.zero_add _).symm hc7 ?_
      refine J_aload_n rfl (i := 0) rfl dX10_append_46 ?_
      refine J_iload (i := 4) rfl dX10_append_47 ?_
      obtain ⟨m12, hc10, hw⟩ := hw
      refine J_callV (as := [.int x4]) (k := 63) (st := []) cal_X10_put cai_X10_put gw_1565 ⟨by decide, by decide⟩ cnt_X10_put sh_63 rfl rfl (Nat.le_of_ble_eq_true rfl) dX10_append_49 (Nat.zero_add _).symm (Nat.zero_add _).symm hc10 ?_
      refine J_aload_n rfl (i := 0) rfl dX10_append_52 ?_
      refine J_iload (i := 5) rfl dX10_append_53 ?_
      obtain ⟨m15, hc13, hw⟩ := hw
      refine J_callV (as := [.int x5]) (k := 63) (st := []) cal_X10_put cai_X10_put gw_1565 ⟨by decide, by decide⟩ cnt_X10_put sh_63 rfl rfl (Nat.le_of_ble_eq_true rfl) dX10_append_55 (Nat.zero_add _).symm (Nat.zero_add _).symm hc13 ?_
      refine J_aload_n rfl (i := 0) rfl dX10_append_58 ?_
      refine J_geti kls_10 (q := 63) (k := 18) sh_63 (by decide) rfl gw_1451 dX10_append_59 ?_
      exact J_fini (ty := .int) rfl rfl dX10_append_62 hw
    · replace hw := hw.2 hb16
      refine J_iconst (v := 0) (by decide) dX10_append_29 ?_
      exact J_fini (ty := .int) rfl rfl dX10_append_30 hw
  · replace hw := hw.2 hb33
    refine J_iconst (v := 1) (by decide) dX10_append_14 ?_
    refine J_goto (tgt := 19) dX10_append_15 (by decide) ?_
    refine J_puti kls_10 (q := 63) (k := 4) sh_63 (by decide) rfl rfl (fun _ => rfl) (fun _ => rfl) gw_1437 dX10_append_19 ?_
    refine J_aload_n rfl (i := 0) rfl dX10_append_22 ?_
    refine J_geti kls_10 (q := 63) (k := 4) sh_63 (by decide) rfl gw_1437 dX10_append_23 ?_
    refine J_if_le (tgt := 31) dX10_append_26 (by decide) (fun hb32 => ?_) (fun hb32 => ?_)
    · replace hw := hw.1 hb32
      refine J_aload_n rfl (i := 0) rfl dX10_append_31 ?_
      refine J_iload_n rfl (i := 1) rfl dX10_append_32 ?_
      obtain ⟨m19, hc17, hw⟩ := hw
      refine J_callV (as := [.int x1]) (k := 63) (st := []) cal_X10_put cai_X10_put gw_1565 ⟨by decide, by decide⟩ cnt_X10_put sh_63 rfl rfl (Nat.le_of_ble_eq_true rfl) dX10_append_33 (Nat.zero_add _).symm (Nat.zero_add _).symm hc17 ?_
      refine J_aload_n rfl (i := 0) rfl dX10_append_36 ?_
      refine J_iload_n rfl (i := 2) rfl dX10_append_37 ?_
      obtain ⟨m22, hc20, hw⟩ := hw
      refine J_callV (as := [.int x2]) (k := 63) (st := []) cal_X10_put cai_X10_put gw_1565 ⟨by decide, by decide⟩ cnt_X10_put sh_63 rfl rfl (Nat.le_of_ble_eq_true rfl) dX10_append_38 (Nat.zero_add _).symm (Nat.zero_add _).symm hc20 ?_
      refine J_aload_n rfl (i := 0) rfl dX10_append_41 ?_
      refine J_iload_n rfl (i := 3) rfl dX10_append_42 ?_
      obtain ⟨m25, hc23, hw⟩ := hw
      refine J_callV (as := [.int x3]) (k := 63) (st := []) cal_X10_put cai_X10_put gw_1565 ⟨by decide, by decide⟩ cnt_X10_put sh_63 rfl rfl (Nat.le_of_ble_eq_true rfl) dX10_append_43 (Nat.zero_add _).symm (Nat.zero_add _).symm hc23 ?_
      refine J_aload_n rfl (i := 0) rfl dX10_append_46 ?_
      refine J_iload (i := 4) rfl dX10_append_47 ?_
      obtain ⟨m28, hc26, hw⟩ := hw
      refine J_callV (as := [.int x4]) (k := 63) (st := []) cal_X10_put cai_X10_put gw_1565 ⟨by decide, by decide⟩ cnt_X10_put sh_63 rfl rfl (Nat.le_of_ble_eq_true rfl) dX10_append_49 (Nat.zero_add _).symm (Nat.zero_add _).symm hc26 ?_
      refine J_aload_n rfl (i := 0) rfl dX10_append_52 ?_
      refine J_iload (i := 5) rfl dX10_append_53 ?_
      obtain ⟨m31, hc29, hw⟩ := hw
      refine J_callV (as := [.int x5]) (k := 63) (st := []) cal_X10_put cai_X10_put gw_1565 ⟨by decide, by decide⟩ cnt_X10_put sh_63 rfl rfl (Nat.le_of_ble_eq_true rfl) dX10_append_55 (Nat.zero_add _).symm (Nat.zero_add _).symm hc29 ?_
      refine J_aload_n rfl (i := 0) rfl dX10_append_58 ?_
      refine J_geti kls_10 (q := 63) (k := 18) sh_63 (by decide) rfl gw_1451 dX10_append_59 ?_
      exact J_fini (ty := .int) rfl rfl dX10_append_62 hw
    · replace hw := hw.2 hb32
      refine J_iconst (v := 0) (by decide) dX10_append_29 ?_
      exact J_fini (ty := .int) rfl rfl dX10_append_30 hw
theorem dX10_truncate_0 : decode cX10_truncate 0 = .ok (.aload_n 0, 1) := by decide +kernel
theorem dX10_truncate_1 : decode cX10_truncate 1 = .ok (.iload_n 1, 1) := by decide +kernel
theorem dX10_truncate_2 : decode cX10_truncate 2 = .ok (.i2l, 1) := by decide +kernel
theorem dX10_truncate_3 : decode cX10_truncate 3 = .ok (.lconst 0, 1) := by decide +kernel
theorem dX10_truncate_4 : decode cX10_truncate 4 = .ok (.aload_n 0, 1) := by decide +kernel
theorem dX10_truncate_5 : decode cX10_truncate 5 = .ok (.getfield 84, 3) := by decide +kernel
theorem dX10_truncate_8 : decode cX10_truncate 8 = .ok (.i2l, 1) := by decide +kernel
theorem dX10_truncate_9 : decode cX10_truncate 9 = .ok (.invokestatic 91, 3) := by decide +kernel
theorem dX10_truncate_12 : decode cX10_truncate 12 = .ok (.ifCond .eq 7, 3) := by decide +kernel
theorem dX10_truncate_15 : decode cX10_truncate 15 = .ok (.iconst 0, 1) := by decide +kernel
theorem dX10_truncate_16 : decode cX10_truncate 16 = .ok (.goto 4, 3) := by decide +kernel
theorem dX10_truncate_19 : decode cX10_truncate 19 = .ok (.iconst 1, 1) := by decide +kernel
theorem dX10_truncate_20 : decode cX10_truncate 20 = .ok (.putfield 77, 3) := by decide +kernel
theorem dX10_truncate_23 : decode cX10_truncate 23 = .ok (.aload_n 0, 1) := by decide +kernel
theorem dX10_truncate_24 : decode cX10_truncate 24 = .ok (.getfield 77, 3) := by decide +kernel
theorem dX10_truncate_27 : decode cX10_truncate 27 = .ok (.ifCond .le 5, 3) := by decide +kernel
theorem dX10_truncate_30 : decode cX10_truncate 30 = .ok (.iconst 0, 1) := by decide +kernel
theorem dX10_truncate_31 : decode cX10_truncate 31 = .ok (.ireturn, 1) := by decide +kernel
theorem dX10_truncate_32 : decode cX10_truncate 32 = .ok (.aload_n 0, 1) := by decide +kernel
theorem dX10_truncate_33 : decode cX10_truncate 33 = .ok (.iload_n 1, 1) := by decide +kernel
theorem dX10_truncate_34 : decode cX10_truncate 34 = .ok (.putfield 84, 3) := by decide +kernel
theorem dX10_truncate_37 : decode cX10_truncate 37 = .ok (.aload_n 0, 1) := by decide +kernel
theorem dX10_truncate_38 : decode cX10_truncate 38 = .ok (.getfield 84, 3) := by decide +kernel
theorem dX10_truncate_41 : decode cX10_truncate 41 = .ok (.ireturn, 1) := by decide +kernel
set_option maxRecDepth 20000 in
theorem bX10_truncate_0 {G : Gx} {mm : Nat → Nat → Int32} {lm : Nat → Int64} {x1 : Int32} {o : Ou} {z : Wd} {a b : Nat} (hw : ∃ (v2 : Int32), Ct G M_X10_isIn [.long (Int32.toInt64 x1), .long 0, .long (Int32.toInt64 (mm 63 18))] (SH, mm, lm) false (.inl (some (.int v2))) (SH, mm, lm) false 0 0 ∧ ((v2 = 0) → ((((mset mm 63 4 1) 63 4) ≤ 0) → o = .inl (some (.int ((mset (mset mm 63 4 1) 63 18 x1) 63 18))) ∧ z = (SH, (mset (mset mm 63 4 1) 63 18 x1), lm)) ∧ ((¬ ((mset mm 63 4 1) 63 4) ≤ 0) → o = .inl (some (.int 0)) ∧ z = (SH, (mset mm 63 4 1), lm))) ∧ ((¬ v2 = 0) → ((((mset mm 63 4 0) 63 4) ≤ 0) → o = .inl (some (.int ((mset (mset mm 63 4 0) 63 18 x1) 63 18))) ∧ z = (SH, (mset (mset mm 63 4 0) 63 18 x1), lm)) ∧ ((¬ ((mset mm 63 4 0) 63 4) ≤ 0) → o = .inl (some (.int 0)) ∧ z = (SH, (mset mm 63 4 0), lm)))) :
    J G M_X10_truncate 0 [(0, .ref 63), (1, .int x1)] [] (SH, mm, lm) false o z false a b := by
  refine J_aload_n rfl (i := 0) rfl dX10_truncate_0 ?_
  refine J_iload_n rfl (i := 1) rfl dX10_truncate_1 ?_
  refine J_i2l dX10_truncate_2 ?_
  refine J_lconst (v := 0) (by decide) dX10_truncate_3 ?_
  refine J_aload_n rfl (i := 0) rfl dX10_truncate_4 ?_
  refine J_geti kls_10 (q := 63) (k := 18) sh_63 (by decide) rfl gw_1451 dX10_truncate_5 ?_
  refine J_i2l dX10_truncate_8 ?_
  obtain ⟨v2, hc1, hw⟩ := hw
  refine J_callS (as := [.long (Int32.toInt64 x1), .long 0, .long (Int32.toInt64 (mm 63 18))]) (st := [.ref 63]) cal_X10_isIn cas_X10_isIn gw_1573 ⟨by decide, by decide⟩ cnt_X10_isIn rfl (Nat.le_of_ble_eq_true rfl) dX10_truncate_9 (Nat.zero_add _).symm (Nat.zero_add _).symm hc1 ?_
  refine J_if_eq (tgt := 19) dX10_truncate_12 (by decide) (fun hb6 => ?_) (fun hb6 => ?_)
  · replace hw := hw.1 hb6
    refine J_iconst (v := 1) (by decide) dX10_truncate_19 ?_
    refine J_puti kls_10 (q := 63) (k := 4) sh_63 (by decide) rfl rfl (fun _ => rfl) (fun _ => rfl) gw_1437 dX10_truncate_20 ?_
    refine J_aload_n rfl (i := 0) rfl dX10_truncate_23 ?_
    refine J_geti kls_10 (q := 63) (k := 4) sh_63 (by decide) rfl gw_1437 dX10_truncate_24 ?_
    refine J_if_le (tgt := 32) dX10_truncate_27 (by decide) (fun hb4 => ?_) (fun hb4 => ?_)
    · replace hw := hw.1 hb4
      refine J_aload_n rfl (i := 0) rfl dX10_truncate_32 ?_
      refine J_iload_n rfl (i := 1) rfl dX10_truncate_33 ?_
      refine J_puti kls_10 (q := 63) (k := 18) sh_63 (by decide) rfl rfl (fun _ => rfl) (fun _ => rfl) gw_1451 dX10_truncate_34 ?_
      refine J_aload_n rfl (i := 0) rfl dX10_truncate_37 ?_
      refine J_geti kls_10 (q := 63) (k := 18) sh_63 (by decide) rfl gw_1451 dX10_truncate_38 ?_
      exact J_fini (ty := .int) rfl rfl dX10_truncate_41 hw
    · replace hw := hw.2 hb4
      refine J_iconst (v := 0) (by decide) dX10_truncate_30 ?_
      exact J_fini (ty := .int) rfl rfl dX10_truncate_31 hw
  · replace hw := hw.2 hb6
    refine J_iconst (v := 0) (by decide) dX10_truncate_15 ?_
    refine J_goto (tgt := 20) dX10_truncate_16 (by decide) ?_
    refine J_puti kls_10 (q := 63) (k := 4) sh_63 (by decide) rfl rfl (fun _ => rfl) (fun _ => rfl) gw_1437 dX10_truncate_20 ?_
    refine J_aload_n rfl (i := 0) rfl dX10_truncate_23 ?_
    refine J_geti kls_10 (q := 63) (k := 4) sh_63 (by decide) rfl gw_1437 dX10_truncate_24 ?_
    refine J_if_le (tgt := 32) dX10_truncate_27 (by decide) (fun hb5 => ?_) (fun hb5 => ?_)
    · replace hw := hw.1 hb5
      refine J_aload_n rfl (i := 0) rfl dX10_truncate_32 ?_
      refine J_iload_n rfl (i := 1) rfl dX10_truncate_33 ?_
      refine J_puti kls_10 (q := 63) (k := 18) sh_63 (by decide) rfl rfl (fun _ => rfl) (fun _ => rfl) gw_1451 dX10_truncate_34 ?_
      refine J_aload_n rfl (i := 0) rfl dX10_truncate_37 ?_
      refine J_geti kls_10 (q := 63) (k := 18) sh_63 (by decide) rfl gw_1451 dX10_truncate_38 ?_
      exact J_fini (ty := .int) rfl rfl dX10_truncate_41 hw
    · replace hw := hw.2 hb5
      refine J_iconst (v := 0) (by decide) dX10_truncate_30 ?_
      exact J_fini (ty := .int) rfl rfl dX10_truncate_31 hw
theorem dX10_byteAt_0 : decode cX10_byteAt 0 = .ok (.iload_n 1, 1) := by decide +kernel
theorem dX10_byteAt_1 : decode cX10_byteAt 1 = .ok (.aload_n 0, 1) := by decide +kernel
theorem dX10_byteAt_2 : decode cX10_byteAt 2 = .ok (.getfield 95, 3) := by decide +kernel
theorem dX10_byteAt_5 : decode cX10_byteAt 5 = .ok (.if_icmp .ge 12, 3) := by decide +kernel
theorem dX10_byteAt_8 : decode cX10_byteAt 8 = .ok (.aload_n 0, 1) := by decide +kernel
theorem dX10_byteAt_9 : decode cX10_byteAt 9 = .ok (.getfield 40, 3) := by decide +kernel
theorem dX10_byteAt_12 : decode cX10_byteAt 12 = .ok (.iload_n 1, 1) := by decide +kernel
theorem dX10_byteAt_13 : decode cX10_byteAt 13 = .ok (.iaload, 1) := by decide +kernel
theorem dX10_byteAt_14 : decode cX10_byteAt 14 = .ok (.goto 4, 3) := by decide +kernel
theorem dX10_byteAt_17 : decode cX10_byteAt 17 = .ok (.iconst (-1), 1) := by decide +kernel
theorem dX10_byteAt_18 : decode cX10_byteAt 18 = .ok (.ireturn, 1) := by decide +kernel
set_option maxRecDepth 20000 in
theorem bX10_byteAt_0 {G : Gx} {mm : Nat → Nat → Int32} {lm : Nat → Int64} {x1 : Int32} {o : Ou} {z : Wd} {a b : Nat} (hw : (((mm 63 19) ≤ x1) → o = .inl (some (.int (-1))) ∧ z = (SH, mm, lm)) ∧ ((¬ (mm 63 19) ≤ x1) → ∃ j1 : Nat, x1 = nI j1 ∧ j1 < 400 ∧ o = .inl (some (.int (mm 74 j1))) ∧ z = (SH, mm, lm))) :
    J G M_X10_byteAt 0 [(0, .ref 63), (1, .int x1)] [] (SH, mm, lm) false o z false a b := by
  refine J_iload_n rfl (i := 1) rfl dX10_byteAt_0 ?_
  refine J_aload_n rfl (i := 0) rfl dX10_byteAt_1 ?_
  refine J_geti kls_10 (q := 63) (k := 19) sh_63 (by decide) rfl gw_1452 dX10_byteAt_2 ?_
  refine J_icmp_ge (tgt := 17) dX10_byteAt_5 (by decide) (fun hb2 => ?_) (fun hb2 => ?_)
  · replace hw := hw.1 hb2
    refine J_iconst (v := (-1)) (by decide) dX10_byteAt_17 ?_
    exact J_fini (ty := .int) rfl rfl dX10_byteAt_18 hw
  · replace hw := hw.2 hb2
    refine J_aload_n rfl (i := 0) rfl dX10_byteAt_8 ?_
    refine J_getr kls_10 (q := 63) (k := 17) sh_63 (by decide) rfl gw_1450 dX10_byteAt_9 ?_
    refine J_iload_n rfl (i := 1) rfl dX10_byteAt_12 ?_
    obtain ⟨j1, ej1, hj1, hw⟩ := hw
    refine J_iald sh_74 ej1 hj1 (by decide) dX10_byteAt_13 ?_
    refine J_goto (tgt := 18) dX10_byteAt_14 (by decide) ?_
    exact J_fini (ty := .int) rfl rfl dX10_byteAt_18 hw
theorem dX10_isLetterAt_0 : decode cX10_isLetterAt 0 = .ok (.aload_n 0, 1) := by decide +kernel
theorem dX10_isLetterAt_1 : decode cX10_isLetterAt 1 = .ok (.iload_n 1, 1) := by decide +kernel
theorem dX10_isLetterAt_2 : decode cX10_isLetterAt 2 = .ok (.invokevirtual 98, 3) := by decide +kernel
theorem dX10_isLetterAt_5 : decode cX10_isLetterAt 5 = .ok (.i2l, 1) := by decide +kernel
theorem dX10_isLetterAt_6 : decode cX10_isLetterAt 6 = .ok (.ldc2_w 102, 3) := by decide +kernel
theorem dX10_isLetterAt_9 : decode cX10_isLetterAt 9 = .ok (.ldc2_w 104, 3) := by decide +kernel
theorem dX10_isLetterAt_12 : decode cX10_isLetterAt 12 = .ok (.invokestatic 91, 3) := by decide +kernel
theorem dX10_isLetterAt_15 : decode cX10_isLetterAt 15 = .ok (.ireturn, 1) := by decide +kernel
set_option maxRecDepth 20000 in
theorem bX10_isLetterAt_0 {G : Gx} {mm : Nat → Nat → Int32} {lm : Nat → Int64} {x1 : Int32} {o : Ou} {z : Wd} {a b : Nat} (hw : ∃ (v2 : Int32), Ct G M_X10_byteAt [.ref 63, .int x1] (SH, mm, lm) false (.inl (some (.int v2))) (SH, mm, lm) false 0 0 ∧ ∃ (v5 : Int32), Ct G M_X10_isIn [.long (Int32.toInt64 v2), .long 97, .long 122] (SH, mm, lm) false (.inl (some (.int v5))) (SH, mm, lm) false 0 0 ∧ narrow .boolean (.int v5) = .int v5 ∧ o = .inl (some (.int v5)) ∧ z = (SH, mm, lm)) :
    J G M_X10_isLetterAt 0 [(0, .ref 63), (1, .int x1)] [] (SH, mm, lm) false o z false a b := by
  refine J_aload_n rfl (i := 0) rfl dX10_isLetterAt_0 ?_
  refine J_iload_n rfl (i := 1) rfl dX10_isLetterAt_1 ?_
  obtain ⟨v2, hc1, hw⟩ := hw
  refine J_callV (as := [.int x1]) (k := 63) (st := []) cal_X10_byteAt cai_X10_byteAt gw_1588 ⟨by decide, by decide⟩ cnt_X10_byteAt sh_63 rfl rfl (Nat.le_of_ble_eq_true rfl) dX10_isLetterAt_2 (Nat.zero_add _).symm (Nat.zero_add _).symm hc1 ?_
  refine J_i2l dX10_isLetterAt_5 ?_
  refine J_ldc2 gw_1596 dX10_isLetterAt_6 ?_
  refine J_ldc2 gw_1597 dX10_isLetterAt_9 ?_
  obtain ⟨v5, hc4, hw⟩ := hw
  refine J_callS (as := [.long (Int32.toInt64 v2), .long 97, .long 122]) (st := []) cal_X10_isIn cas_X10_isIn gw_1573 ⟨by decide, by decide⟩ cnt_X10_isIn rfl (Nat.le_of_ble_eq_true rfl) dX10_isLetterAt_12 (Nat.zero_add _).symm (Nat.zero_add _).symm hc4 ?_
  exact J_fini (ty := .boolean) rfl hw.1 dX10_isLetterAt_15 hw.2
theorem dX10_isDigitAt_0 : decode cX10_isDigitAt 0 = .ok (.aload_n 0, 1) := by decide +kernel
theorem dX10_isDigitAt_1 : decode cX10_isDigitAt 1 = .ok (.iload_n 1, 1) := by decide +kernel
theorem dX10_isDigitAt_2 : decode cX10_isDigitAt 2 = .ok (.invokevirtual 98, 3) := by decide +kernel
theorem dX10_isDigitAt_5 : decode cX10_isDigitAt 5 = .ok (.i2l, 1) := by decide +kernel
theorem dX10_isDigitAt_6 : decode cX10_isDigitAt 6 = .ok (.ldc2_w 106, 3) := by decide +kernel
theorem dX10_isDigitAt_9 : decode cX10_isDigitAt 9 = .ok (.ldc2_w 108, 3) := by decide +kernel
theorem dX10_isDigitAt_12 : decode cX10_isDigitAt 12 = .ok (.invokestatic 91, 3) := by decide +kernel
theorem dX10_isDigitAt_15 : decode cX10_isDigitAt 15 = .ok (.ireturn, 1) := by decide +kernel
set_option maxRecDepth 20000 in
theorem bX10_isDigitAt_0 {G : Gx} {mm : Nat → Nat → Int32} {lm : Nat → Int64} {x1 : Int32} {o : Ou} {z : Wd} {a b : Nat} (hw : ∃ (v2 : Int32), Ct G M_X10_byteAt [.ref 63, .int x1] (SH, mm, lm) false (.inl (some (.int v2))) (SH, mm, lm) false 0 0 ∧ ∃ (v5 : Int32), Ct G M_X10_isIn [.long (Int32.toInt64 v2), .long 48, .long 57] (SH, mm, lm) false (.inl (some (.int v5))) (SH, mm, lm) false 0 0 ∧ narrow .boolean (.int v5) = .int v5 ∧ o = .inl (some (.int v5)) ∧ z = (SH, mm, lm)) :
    J G M_X10_isDigitAt 0 [(0, .ref 63), (1, .int x1)] [] (SH, mm, lm) false o z false a b := by
  refine J_aload_n rfl (i := 0) rfl dX10_isDigitAt_0 ?_
  refine J_iload_n rfl (i := 1) rfl dX10_isDigitAt_1 ?_
  obtain ⟨v2, hc1, hw⟩ := hw
  refine J_callV (as := [.int x1]) (k := 63) (st := []) cal_X10_byteAt cai_X10_byteAt gw_1588 ⟨by decide, by decide⟩ cnt_X10_byteAt sh_63 rfl rfl (Nat.le_of_ble_eq_true rfl) dX10_isDigitAt_2 (Nat.zero_add _).symm (Nat.zero_add _).symm hc1 ?_
  refine J_i2l dX10_isDigitAt_5 ?_
  refine J_ldc2 gw_1602 dX10_isDigitAt_6 ?_
  refine J_ldc2 gw_1603 dX10_isDigitAt_9 ?_
  obtain ⟨v5, hc4, hw⟩ := hw
  refine J_callS (as := [.long (Int32.toInt64 v2), .long 48, .long 57]) (st := []) cal_X10_isIn cas_X10_isIn gw_1573 ⟨by decide, by decide⟩ cnt_X10_isIn rfl (Nat.le_of_ble_eq_true rfl) dX10_isDigitAt_12 (Nat.zero_add _).symm (Nat.zero_add _).symm hc4 ?_
  exact J_fini (ty := .boolean) rfl hw.1 dX10_isDigitAt_15 hw.2
theorem dX10_isFine_0 : decode cX10_isFine 0 = .ok (.aload_n 0, 1) := by decide +kernel
theorem dX10_isFine_1 : decode cX10_isFine 1 = .ok (.getfield 110, 3) := by decide +kernel
theorem dX10_isFine_4 : decode cX10_isFine 4 = .ok (.ifCond .ne 7, 3) := by decide +kernel
theorem dX10_isFine_7 : decode cX10_isFine 7 = .ok (.iconst 1, 1) := by decide +kernel
theorem dX10_isFine_8 : decode cX10_isFine 8 = .ok (.goto 4, 3) := by decide +kernel
theorem dX10_isFine_11 : decode cX10_isFine 11 = .ok (.iconst 0, 1) := by decide +kernel
theorem dX10_isFine_12 : decode cX10_isFine 12 = .ok (.ireturn, 1) := by decide +kernel
set_option maxRecDepth 20000 in
theorem bX10_isFine_0 {G : Gx} {mm : Nat → Nat → Int32} {lm : Nat → Int64}  {o : Ou} {z : Wd} {a b : Nat} (hw : ((¬ (mm 63 24) = 0) → o = .inl (some (.int 0)) ∧ z = (SH, mm, lm)) ∧ (((mm 63 24) = 0) → o = .inl (some (.int 1)) ∧ z = (SH, mm, lm))) :
    J G M_X10_isFine 0 [(0, .ref 63)] [] (SH, mm, lm) false o z false a b := by
  refine J_aload_n rfl (i := 0) rfl dX10_isFine_0 ?_
  refine J_geti kls_10 (q := 63) (k := 24) sh_63 (by decide) rfl gw_1457 dX10_isFine_1 ?_
  refine J_if_ne (tgt := 11) dX10_isFine_4 (by decide) (fun hb1 => ?_) (fun hb1 => ?_)
  · replace hw := hw.1 hb1
    refine J_iconst (v := 0) (by decide) dX10_isFine_11 ?_
    exact J_fini (ty := .boolean) rfl rfl dX10_isFine_12 hw
  · replace hw := hw.2 hb1
    refine J_iconst (v := 1) (by decide) dX10_isFine_7 ?_
    refine J_goto (tgt := 12) dX10_isFine_8 (by decide) ?_
    exact J_fini (ty := .boolean) rfl rfl dX10_isFine_12 hw
theorem dX10_next_0 : decode cX10_next 0 = .ok (.aload_n 0, 1) := by decide +kernel
theorem dX10_next_1 : decode cX10_next 1 = .ok (.invokevirtual 113, 3) := by decide +kernel
theorem dX10_next_4 : decode cX10_next 4 = .ok (.ifCond .ne 4, 3) := by decide +kernel
theorem dX10_next_7 : decode cX10_next 7 = .ok (.return_, 1) := by decide +kernel
theorem dX10_next_8 : decode cX10_next 8 = .ok (.aload_n 0, 1) := by decide +kernel
theorem dX10_next_9 : decode cX10_next 9 = .ok (.aload_n 0, 1) := by decide +kernel
theorem dX10_next_10 : decode cX10_next 10 = .ok (.getfield 117, 3) := by decide +kernel
theorem dX10_next_13 : decode cX10_next 13 = .ok (.invokevirtual 98, 3) := by decide +kernel
theorem dX10_next_16 : decode cX10_next 16 = .ok (.bipush 32, 2) := by decide +kernel
theorem dX10_next_18 : decode cX10_next 18 = .ok (.if_icmp .eq 16, 3) := by decide +kernel
theorem dX10_next_21 : decode cX10_next 21 = .ok (.aload_n 0, 1) := by decide +kernel
theorem dX10_next_22 : decode cX10_next 22 = .ok (.aload_n 0, 1) := by decide +kernel
theorem dX10_next_23 : decode cX10_next 23 = .ok (.getfield 117, 3) := by decide +kernel
theorem dX10_next_26 : decode cX10_next 26 = .ok (.invokevirtual 98, 3) := by decide +kernel
theorem dX10_next_29 : decode cX10_next 29 = .ok (.bipush 10, 2) := by decide +kernel
theorem dX10_next_31 : decode cX10_next 31 = .ok (.if_icmp .ne 16, 3) := by decide +kernel
theorem dX10_next_34 : decode cX10_next 34 = .ok (.aload_n 0, 1) := by decide +kernel
theorem dX10_next_35 : decode cX10_next 35 = .ok (.dup, 1) := by decide +kernel
theorem dX10_next_36 : decode cX10_next 36 = .ok (.getfield 117, 3) := by decide +kernel
theorem dX10_next_39 : decode cX10_next 39 = .ok (.iconst 1, 1) := by decide +kernel
theorem dX10_next_40 : decode cX10_next 40 = .ok (.iadd, 1) := by decide +kernel
theorem dX10_next_41 : decode cX10_next 41 = .ok (.putfield 117, 3) := by decide +kernel
theorem dX10_next_44 : decode cX10_next 44 = .ok (.goto (-36), 3) := by decide +kernel
theorem dX10_next_47 : decode cX10_next 47 = .ok (.aload_n 0, 1) := by decide +kernel
theorem dX10_next_48 : decode cX10_next 48 = .ok (.aload_n 0, 1) := by decide +kernel
theorem dX10_next_49 : decode cX10_next 49 = .ok (.getfield 117, 3) := by decide +kernel
theorem dX10_next_52 : decode cX10_next 52 = .ok (.putfield 120, 3) := by decide +kernel
theorem dX10_next_55 : decode cX10_next 55 = .ok (.aload_n 0, 1) := by decide +kernel
theorem dX10_next_56 : decode cX10_next 56 = .ok (.getfield 117, 3) := by decide +kernel
theorem dX10_next_59 : decode cX10_next 59 = .ok (.aload_n 0, 1) := by decide +kernel
theorem dX10_next_60 : decode cX10_next 60 = .ok (.getfield 95, 3) := by decide +kernel
theorem dX10_next_63 : decode cX10_next 63 = .ok (.if_icmp .ne 11, 3) := by decide +kernel
theorem dX10_next_66 : decode cX10_next 66 = .ok (.aload_n 0, 1) := by decide +kernel
theorem dX10_next_67 : decode cX10_next 67 = .ok (.iconst 0, 1) := by decide +kernel
theorem dX10_next_68 : decode cX10_next 68 = .ok (.putfield 123, 3) := by decide +kernel
theorem dX10_next_71 : decode cX10_next 71 = .ok (.goto 179, 3) := by decide +kernel
theorem dX10_next_74 : decode cX10_next 74 = .ok (.aload_n 0, 1) := by decide +kernel
theorem dX10_next_75 : decode cX10_next 75 = .ok (.aload_n 0, 1) := by decide +kernel
theorem dX10_next_76 : decode cX10_next 76 = .ok (.getfield 117, 3) := by decide +kernel
theorem dX10_next_79 : decode cX10_next 79 = .ok (.invokevirtual 126, 3) := by decide +kernel
theorem dX10_next_82 : decode cX10_next 82 = .ok (.ifCond .eq 35, 3) := by decide +kernel
theorem dX10_next_85 : decode cX10_next 85 = .ok (.aload_n 0, 1) := by decide +kernel
theorem dX10_next_86 : decode cX10_next 86 = .ok (.aload_n 0, 1) := by decide +kernel
theorem dX10_next_87 : decode cX10_next 87 = .ok (.getfield 117, 3) := by decide +kernel
theorem dX10_next_90 : decode cX10_next 90 = .ok (.invokevirtual 126, 3) := by decide +kernel
theorem dX10_next_93 : decode cX10_next 93 = .ok (.ifCond .eq 16, 3) := by decide +kernel
theorem dX10_next_96 : decode cX10_next 96 = .ok (.aload_n 0, 1) := by decide +kernel
theorem dX10_next_97 : decode cX10_next 97 = .ok (.dup, 1) := by decide +kernel
theorem dX10_next_98 : decode cX10_next 98 = .ok (.getfield 117, 3) := by decide +kernel
theorem dX10_next_101 : decode cX10_next 101 = .ok (.iconst 1, 1) := by decide +kernel
theorem dX10_next_102 : decode cX10_next 102 = .ok (.iadd, 1) := by decide +kernel
theorem dX10_next_103 : decode cX10_next 103 = .ok (.putfield 117, 3) := by decide +kernel
theorem dX10_next_106 : decode cX10_next 106 = .ok (.goto (-21), 3) := by decide +kernel
theorem dX10_next_109 : decode cX10_next 109 = .ok (.aload_n 0, 1) := by decide +kernel
theorem dX10_next_110 : decode cX10_next 110 = .ok (.iconst 2, 1) := by decide +kernel
theorem dX10_next_111 : decode cX10_next 111 = .ok (.putfield 123, 3) := by decide +kernel
theorem dX10_next_114 : decode cX10_next 114 = .ok (.goto 136, 3) := by decide +kernel
theorem dX10_next_117 : decode cX10_next 117 = .ok (.aload_n 0, 1) := by decide +kernel
theorem dX10_next_118 : decode cX10_next 118 = .ok (.aload_n 0, 1) := by decide +kernel
theorem dX10_next_119 : decode cX10_next 119 = .ok (.getfield 117, 3) := by decide +kernel
theorem dX10_next_122 : decode cX10_next 122 = .ok (.invokevirtual 130, 3) := by decide +kernel
theorem dX10_next_125 : decode cX10_next 125 = .ok (.ifCond .eq 93, 3) := by decide +kernel
theorem dX10_next_128 : decode cX10_next 128 = .ok (.aload_n 0, 1) := by decide +kernel
theorem dX10_next_129 : decode cX10_next 129 = .ok (.iconst 0, 1) := by decide +kernel
theorem dX10_next_130 : decode cX10_next 130 = .ok (.putfield 133, 3) := by decide +kernel
theorem dX10_next_133 : decode cX10_next 133 = .ok (.aload_n 0, 1) := by decide +kernel
theorem dX10_next_134 : decode cX10_next 134 = .ok (.aload_n 0, 1) := by decide +kernel
theorem dX10_next_135 : decode cX10_next 135 = .ok (.getfield 117, 3) := by decide +kernel
theorem dX10_next_138 : decode cX10_next 138 = .ok (.invokevirtual 130, 3) := by decide +kernel
theorem dX10_next_141 : decode cX10_next 141 = .ok (.ifCond .eq 52, 3) := by decide +kernel
theorem dX10_next_144 : decode cX10_next 144 = .ok (.aload_n 0, 1) := by decide +kernel
theorem dX10_next_145 : decode cX10_next 145 = .ok (.getfield 117, 3) := by decide +kernel
theorem dX10_next_148 : decode cX10_next 148 = .ok (.aload_n 0, 1) := by decide +kernel
theorem dX10_next_149 : decode cX10_next 149 = .ok (.getfield 120, 3) := by decide +kernel
theorem dX10_next_152 : decode cX10_next 152 = .ok (.isub, 1) := by decide +kernel
theorem dX10_next_153 : decode cX10_next 153 = .ok (.iconst 5, 1) := by decide +kernel
theorem dX10_next_154 : decode cX10_next 154 = .ok (.if_icmp .ge 26, 3) := by decide +kernel
theorem dX10_next_157 : decode cX10_next 157 = .ok (.aload_n 0, 1) := by decide +kernel
theorem dX10_next_158 : decode cX10_next 158 = .ok (.bipush 10, 2) := by decide +kernel
theorem dX10_next_160 : decode cX10_next 160 = .ok (.aload_n 0, 1) := by decide +kernel
theorem dX10_next_161 : decode cX10_next 161 = .ok (.getfield 133, 3) := by decide +kernel
theorem dX10_next_164 : decode cX10_next 164 = .ok (.imul, 1) := by decide +kernel
theorem dX10_next_165 : decode cX10_next 165 = .ok (.aload_n 0, 1) := by decide +kernel
theorem dX10_next_166 : decode cX10_next 166 = .ok (.aload_n 0, 1) := by decide +kernel
theorem dX10_next_167 : decode cX10_next 167 = .ok (.getfield 117, 3) := by decide +kernel
theorem dX10_next_170 : decode cX10_next 170 = .ok (.invokevirtual 98, 3) := by decide +kernel
theorem dX10_next_173 : decode cX10_next 173 = .ok (.iadd, 1) := by decide +kernel
theorem dX10_next_174 : decode cX10_next 174 = .ok (.bipush 48, 2) := by decide +kernel
theorem dX10_next_176 : decode cX10_next 176 = .ok (.isub, 1) := by decide +kernel
theorem dX10_next_177 : decode cX10_next 177 = .ok (.putfield 133, 3) := by decide +kernel
theorem dX10_next_180 : decode cX10_next 180 = .ok (.aload_n 0, 1) := by decide +kernel
theorem dX10_next_181 : decode cX10_next 181 = .ok (.dup, 1) := by decide +kernel
theorem dX10_next_182 : decode cX10_next 182 = .ok (.getfield 117, 3) := by decide +kernel
theorem dX10_next_185 : decode cX10_next 185 = .ok (.iconst 1, 1) := by decide +kernel
theorem dX10_next_186 : decode cX10_next 186 = .ok (.iadd, 1) := by decide +kernel
theorem dX10_next_187 : decode cX10_next 187 = .ok (.putfield 117, 3) := by decide +kernel
theorem dX10_next_190 : decode cX10_next 190 = .ok (.goto (-57), 3) := by decide +kernel
theorem dX10_next_193 : decode cX10_next 193 = .ok (.aload_n 0, 1) := by decide +kernel
theorem dX10_next_194 : decode cX10_next 194 = .ok (.aload_n 0, 1) := by decide +kernel
theorem dX10_next_195 : decode cX10_next 195 = .ok (.getfield 117, 3) := by decide +kernel
theorem dX10_next_198 : decode cX10_next 198 = .ok (.aload_n 0, 1) := by decide +kernel
theorem dX10_next_199 : decode cX10_next 199 = .ok (.getfield 120, 3) := by decide +kernel
theorem dX10_next_202 : decode cX10_next 202 = .ok (.isub, 1) := by decide +kernel
theorem dX10_next_203 : decode cX10_next 203 = .ok (.iconst 5, 1) := by decide +kernel
theorem dX10_next_204 : decode cX10_next 204 = .ok (.if_icmp .le 7, 3) := by decide +kernel
theorem dX10_next_207 : decode cX10_next 207 = .ok (.iconst 1, 1) := by decide +kernel
theorem dX10_next_208 : decode cX10_next 208 = .ok (.goto 4, 3) := by decide +kernel
theorem dX10_next_211 : decode cX10_next 211 = .ok (.iconst 3, 1) := by decide +kernel
theorem dX10_next_212 : decode cX10_next 212 = .ok (.putfield 123, 3) := by decide +kernel
theorem dX10_next_215 : decode cX10_next 215 = .ok (.goto 35, 3) := by decide +kernel
theorem dX10_next_218 : decode cX10_next 218 = .ok (.aload_n 0, 1) := by decide +kernel
theorem dX10_next_219 : decode cX10_next 219 = .ok (.aload_n 0, 1) := by decide +kernel
theorem dX10_next_220 : decode cX10_next 220 = .ok (.aload_n 0, 1) := by decide +kernel
theorem dX10_next_221 : decode cX10_next 221 = .ok (.getfield 117, 3) := by decide +kernel
theorem dX10_next_224 : decode cX10_next 224 = .ok (.invokevirtual 98, 3) := by decide +kernel
theorem dX10_next_227 : decode cX10_next 227 = .ok (.bipush 59, 2) := by decide +kernel
theorem dX10_next_229 : decode cX10_next 229 = .ok (.if_icmp .ne 7, 3) := by decide +kernel
theorem dX10_next_232 : decode cX10_next 232 = .ok (.iconst 4, 1) := by decide +kernel
theorem dX10_next_233 : decode cX10_next 233 = .ok (.goto 4, 3) := by decide +kernel
theorem dX10_next_236 : decode cX10_next 236 = .ok (.iconst 1, 1) := by decide +kernel
theorem dX10_next_237 : decode cX10_next 237 = .ok (.putfield 123, 3) := by decide +kernel
theorem dX10_next_240 : decode cX10_next 240 = .ok (.aload_n 0, 1) := by decide +kernel
theorem dX10_next_241 : decode cX10_next 241 = .ok (.dup, 1) := by decide +kernel
theorem dX10_next_242 : decode cX10_next 242 = .ok (.getfield 117, 3) := by decide +kernel
theorem dX10_next_245 : decode cX10_next 245 = .ok (.iconst 1, 1) := by decide +kernel
theorem dX10_next_246 : decode cX10_next 246 = .ok (.iadd, 1) := by decide +kernel
theorem dX10_next_247 : decode cX10_next 247 = .ok (.putfield 117, 3) := by decide +kernel
theorem dX10_next_250 : decode cX10_next 250 = .ok (.return_, 1) := by decide +kernel
set_option maxRecDepth 20000 in
theorem bX10_next_0 {G : Gx} {mm : Nat → Nat → Int32} {lm : Nat → Int64}  {o : Ou} {z : Wd} {a b : Nat} (hw : ∃ (v2 : Int32), Ct G M_X10_isFine [.ref 63] (SH, mm, lm) false (.inl (some (.int v2))) (SH, mm, lm) false 0 0 ∧ ((¬ v2 = 0) → J G M_X10_next 8 [(0, .ref 63)] [] (SH, mm, lm) false o z false a b) ∧ ((v2 = 0) → o = .inl none ∧ z = (SH, mm, lm))) :
    J G M_X10_next 0 [(0, .ref 63)] [] (SH, mm, lm) false o z false a b := by
  refine J_aload_n rfl (i := 0) rfl dX10_next_0 ?_
  obtain ⟨v2, hc1, hw⟩ := hw
  refine J_callV (as := []) (k := 63) (st := []) cal_X10_isFine cai_X10_isFine gw_1584 ⟨by decide, by decide⟩ cnt_X10_isFine sh_63 rfl rfl (Nat.le_of_ble_eq_true rfl) dX10_next_1 (Nat.zero_add _).symm (Nat.zero_add _).symm hc1 ?_
  refine J_if_ne (tgt := 8) dX10_next_4 (by decide) (fun hb4 => ?_) (fun hb4 => ?_)
  · replace hw := hw.1 hb4
    exact hw
  · replace hw := hw.2 hb4
    exact J_finv rfl dX10_next_7 hw
set_option maxRecDepth 20000 in
theorem bX10_next_8 {G : Gx} {mm : Nat → Nat → Int32} {lm : Nat → Int64}  {o : Ou} {z : Wd} {a b : Nat} (hw : ∃ (v2 : Int32), Ct G M_X10_byteAt [.ref 63, .int (mm 63 20)] (SH, mm, lm) false (.inl (some (.int v2))) (SH, mm, lm) false 0 0 ∧ ((v2 = 32) → J G M_X10_next 8 [(0, .ref 63)] [] (SH, (mset mm 63 20 ((mm 63 20) + 1)), lm) false o z false a b) ∧ ((¬ v2 = 32) → ∃ (v5 : Int32), Ct G M_X10_byteAt [.ref 63, .int (mm 63 20)] (SH, mm, lm) false (.inl (some (.int v5))) (SH, mm, lm) false 0 0 ∧ ((¬ v5 = 10) → ((¬ ((mset mm 63 21 (mm 63 20)) 63 20) = ((mset mm 63 21 (mm 63 20)) 63 19)) → ∃ (v8 : Int32), Ct G M_X10_isLetterAt [.ref 63, .int ((mset mm 63 21 (mm 63 20)) 63 20)] (SH, (mset mm 63 21 (mm 63 20)), lm) false (.inl (some (.int v8))) (SH, (mset mm 63 21 (mm 63 20)), lm) false 0 0 ∧ ((v8 = 0) → ∃ (v11 : Int32), Ct G M_X10_isDigitAt [.ref 63, .int ((mset mm 63 21 (mm 63 20)) 63 20)] (SH, (mset mm 63 21 (mm 63 20)), lm) false (.inl (some (.int v11))) (SH, (mset mm 63 21 (mm 63 20)), lm) false 0 0 ∧ ((v11 = 0) → ∃ (v14 : Int32), Ct G M_X10_byteAt [.ref 63, .int ((mset mm 63 21 (mm 63 20)) 63 20)] (SH, (mset mm 63 21 (mm 63 20)), lm) false (.inl (some (.int v14))) (SH, (mset mm 63 21 (mm 63 20)), lm) false 0 0 ∧ ((¬ v14 = 59) → o = .inl none ∧ z = (SH, (mset (mset (mset mm 63 21 (mm 63 20)) 63 22 1) 63 20 (((mset (mset mm 63 21 (mm 63 20)) 63 22 1) 63 20) + 1)), lm)) ∧ ((v14 = 59) → o = .inl none ∧ z = (SH, (mset (mset (mset mm 63 21 (mm 63 20)) 63 22 4) 63 20 (((mset (mset mm 63 21 (mm 63 20)) 63 22 4) 63 20) + 1)), lm))) ∧ ((¬ v11 = 0) → J G M_X10_next 133 [(0, .ref 63)] [] (SH, (mset (mset mm 63 21 (mm 63 20)) 63 23 0), lm) false o z false a b)) ∧ ((¬ v8 = 0) → J G M_X10_next 85 [(0, .ref 63)] [] (SH, (mset mm 63 21 (mm 63 20)), lm) false o z false a b)) ∧ ((((mset mm 63 21 (mm 63 20)) 63 20) = ((mset mm 63 21 (mm 63 20)) 63 19)) → o = .inl none ∧ z = (SH, (mset (mset mm 63 21 (mm 63 20)) 63 22 0), lm))) ∧ ((v5 = 10) → J G M_X10_next 8 [(0, .ref 63)] [] (SH, (mset mm 63 20 ((mm 63 20) + 1)), lm) false o z false a b))) :
    J G M_X10_next 8 [(0, .ref 63)] [] (SH, mm, lm) false o z false a b := by
  refine J_aload_n rfl (i := 0) rfl dX10_next_8 ?_
  refine J_aload_n rfl (i := 0) rfl dX10_next_9 ?_
  refine J_geti kls_10 (q := 63) (k := 20) sh_63 (by decide) rfl gw_1453 dX10_next_10 ?_
  obtain ⟨v2, hc1, hw⟩ := hw
  refine J_callV (as := [.int (mm 63 20)]) (k := 63) (st := []) cal_X10_byteAt cai_X10_byteAt gw_1588 ⟨by decide, by decide⟩ cnt_X10_byteAt sh_63 rfl rfl (Nat.le_of_ble_eq_true rfl) dX10_next_13 (Nat.zero_add _).symm (Nat.zero_add _).symm hc1 ?_
  refine J_bipush (v := 32) (by decide) dX10_next_16 ?_
  refine J_icmp_eq (tgt := 34) dX10_next_18 (by decide) (fun hb21 => ?_) (fun hb21 => ?_)
  · replace hw := hw.1 hb21
    refine J_aload_n rfl (i := 0) rfl dX10_next_34 ?_
    refine J_dupr dX10_next_35 ?_
    refine J_geti kls_10 (q := 63) (k := 20) sh_63 (by decide) rfl gw_1453 dX10_next_36 ?_
    refine J_iconst (v := 1) (by decide) dX10_next_39 ?_
    refine J_iadd dX10_next_40 ?_
    refine J_puti kls_10 (q := 63) (k := 20) sh_63 (by decide) rfl rfl (fun _ => rfl) (fun _ => rfl) gw_1453 dX10_next_41 ?_
    refine J_goto (tgt := 8) dX10_next_44 (by decide) ?_
    exact hw
  · replace hw := hw.2 hb21
    refine J_aload_n rfl (i := 0) rfl dX10_next_21 ?_
    refine J_aload_n rfl (i := 0) rfl dX10_next_22 ?_
    refine J_geti kls_10 (q := 63) (k := 20) sh_63 (by decide) rfl gw_1453 dX10_next_23 ?_
    obtain ⟨v5, hc4, hw⟩ := hw
    refine J_callV (as := [.int (mm 63 20)]) (k := 63) (st := []) cal_X10_byteAt cai_X10_byteAt gw_1588 ⟨by decide, by decide⟩ cnt_X10_byteAt sh_63 rfl rfl (Nat.le_of_ble_eq_true rfl) dX10_next_26 (Nat.zero_add _).symm (Nat.zero_add _).symm hc4 ?_
    refine J_bipush (v := 10) (by decide) dX10_next_29 ?_
    refine J_icmp_ne (tgt := 47) dX10_next_31 (by decide) (fun hb20 => ?_) (fun hb20 => ?_)
    · replace hw := hw.1 hb20
      refine J_aload_n rfl (i := 0) rfl dX10_next_47 ?_
      refine J_aload_n rfl (i := 0) rfl dX10_next_48 ?_
      refine J_geti kls_10 (q := 63) (k := 20) sh_63 (by decide) rfl gw_1453 dX10_next_49 ?_
      refine J_puti kls_10 (q := 63) (k := 21) sh_63 (by decide) rfl rfl (fun _ => rfl) (fun _ => rfl) gw_1454 dX10_next_52 ?_
      refine J_aload_n rfl (i := 0) rfl dX10_next_55 ?_
      refine J_geti kls_10 (q := 63) (k := 20) sh_63 (by decide) rfl gw_1453 dX10_next_56 ?_
      refine J_aload_n rfl (i := 0) rfl dX10_next_59 ?_
      refine J_geti kls_10 (q := 63) (k := 19) sh_63 (by decide) rfl gw_1452 dX10_next_60 ?_
      refine J_icmp_ne (tgt := 74) dX10_next_63 (by decide) (fun hb19 => ?_) (fun hb19 => ?_)
      · replace hw := hw.1 hb19
        refine J_aload_n rfl (i := 0) rfl dX10_next_74 ?_
        refine J_aload_n rfl (i := 0) rfl dX10_next_75 ?_
        refine J_geti kls_10 (q := 63) (k := 20) sh_63 (by decide) rfl gw_1453 dX10_next_76 ?_
        obtain ⟨v8, hc7, hw⟩ := hw
        refine J_callV (as := [.int ((mset mm 63 21 (mm 63 20)) 63 20)]) (k := 63) (st := []) cal_X10_isLetterAt cai_X10_isLetterAt gw_1592 ⟨by decide, by decide⟩ cnt_X10_isLetterAt sh_63 rfl rfl (Nat.le_of_ble_eq_true rfl) dX10_next_79 (Nat.zero_add _).symm (Nat.zero_add _).symm hc7 ?_
        refine J_if_eq (tgt := 117) dX10_next_82 (by decide) (fun hb18 => ?_) (fun hb18 => ?_)
        · replace hw := hw.1 hb18
          refine J_aload_n rfl (i := 0) rfl dX10_next_117 ?_
          refine J_aload_n rfl (i := 0) rfl dX10_next_118 ?_
          refine J_geti kls_10 (q := 63) (k := 20) sh_63 (by decide) rfl gw_1453 dX10_next_119 ?_
          obtain ⟨v11, hc10, hw⟩ := hw
          refine J_callV (as := [.int ((mset mm 63 21 (mm 63 20)) 63 20)]) (k := 63) (st := []) cal_X10_isDigitAt cai_X10_isDigitAt gw_1598 ⟨by decide, by decide⟩ cnt_X10_isDigitAt sh_63 rfl rfl (Nat.le_of_ble_eq_true rfl) dX10_next_122 (Nat.zero_add _).symm (Nat.zero_add _).symm hc10 ?_
          refine J_if_eq (tgt := 218) dX10_next_125 (by decide) (fun hb17 => ?_) (fun hb17 => ?_)
          · replace hw := hw.1 hb17
            refine J_aload_n rfl (i := 0) rfl dX10_next_218 ?_
            refine J_aload_n rfl (i := 0) rfl dX10_next_219 ?_
            refine J_aload_n rfl (i := 0) rfl dX10_next_220 ?_
            refine J_geti kls_10 (q := 63) (k := 20) sh_63 (by decide) rfl gw_1453 dX10_next_221 ?_
            obtain ⟨v14, hc13, hw⟩ := hw
            refine J_callV (as := [.int ((mset mm 63 21 (mm 63 20)) 63 20)]) (k := 63) (st := [.ref 63]) cal_X10_byteAt cai_X10_byteAt gw_1588 ⟨by decide, by decide⟩ cnt_X10_byteAt sh_63 rfl rfl (Nat.le_of_ble_eq_true rfl) dX10_next_224 (Nat.zero_add _).symm (Nat.zero_add _).symm hc13 ?_
            refine J_bipush (v := 59) (by decide) dX10_next_227 ?_
            refine J_icmp_ne (tgt := 236) dX10_next_229 (by decide) (fun hb16 => ?_) (fun hb16 => ?_)
            · replace hw := hw.1 hb16
              refine J_iconst (v := 1) (by decide) dX10_next_236 ?_
              refine J_puti kls_10 (q := 63) (k := 22) sh_63 (by decide) rfl rfl (fun _ => rfl) (fun _ => rfl) gw_1455 dX10_next_237 ?_
              refine J_aload_n rfl (i := 0) rfl dX10_next_240 ?_
              refine J_dupr dX10_next_241 ?_
              refine J_geti kls_10 (q := 63) (k := 20) sh_63 (by decide) rfl gw_1453 dX10_next_242 ?_
              refine J_iconst (v := 1) (by decide) dX10_next_245 ?_
              refine J_iadd dX10_next_246 ?_
              refine J_puti kls_10 (q := 63) (k := 20) sh_63 (by decide) rfl rfl (fun _ => rfl) (fun _ => rfl) gw_1453 dX10_next_247 ?_
              exact J_finv rfl dX10_next_250 hw
            · replace hw := hw.2 hb16
              refine J_iconst (v := 4) (by decide) dX10_next_232 ?_
              refine J_goto (tgt := 237) dX10_next_233 (by decide) ?_
              refine J_puti kls_10 (q := 63) (k := 22) sh_63 (by decide) rfl rfl (fun _ => rfl) (fun _ => rfl) gw_1455 dX10_next_237 ?_
              refine J_aload_n rfl (i := 0) rfl dX10_next_240 ?_
              refine J_dupr dX10_next_241 ?_
              refine J_geti kls_10 (q := 63) (k := 20) sh_63 (by decide) rfl gw_1453 dX10_next_242 ?_
              refine J_iconst (v := 1) (by decide) dX10_next_245 ?_
              refine J_iadd dX10_next_246 ?_
              refine J_puti kls_10 (q := 63) (k := 20) sh_63 (by decide) rfl rfl (fun _ => rfl) (fun _ => rfl) gw_1453 dX10_next_247 ?_
              exact J_finv rfl dX10_next_250 hw
          · replace hw := hw.2 hb17
            refine J_aload_n rfl (i := 0) rfl dX10_next_128 ?_
            refine J_iconst (v := 0) (by decide) dX10_next_129 ?_
            refine J_puti kls_10 (q := 63) (k := 23) sh_63 (by decide) rfl rfl (fun _ => rfl) (fun _ => rfl) gw_1456 dX10_next_130 ?_
            exact hw
        · replace hw := hw.2 hb18
          exact hw
      · replace hw := hw.2 hb19
        refine J_aload_n rfl (i := 0) rfl dX10_next_66 ?_
        refine J_iconst (v := 0) (by decide) dX10_next_67 ?_
        refine J_puti kls_10 (q := 63) (k := 22) sh_63 (by decide) rfl rfl (fun _ => rfl) (fun _ => rfl) gw_1455 dX10_next_68 ?_
        refine J_goto (tgt := 250) dX10_next_71 (by decide) ?_
        exact J_finv rfl dX10_next_250 hw
    · replace hw := hw.2 hb20
      refine J_aload_n rfl (i := 0) rfl dX10_next_34 ?_
      refine J_dupr dX10_next_35 ?_
      refine J_geti kls_10 (q := 63) (k := 20) sh_63 (by decide) rfl gw_1453 dX10_next_36 ?_
      refine J_iconst (v := 1) (by decide) dX10_next_39 ?_
      refine J_iadd dX10_next_40 ?_
      refine J_puti kls_10 (q := 63) (k := 20) sh_63 (by decide) rfl rfl (fun _ => rfl) (fun _ => rfl) gw_1453 dX10_next_41 ?_
      refine J_goto (tgt := 8) dX10_next_44 (by decide) ?_
      exact hw
set_option maxRecDepth 20000 in
theorem bX10_next_85 {G : Gx} {mm : Nat → Nat → Int32} {lm : Nat → Int64}  {o : Ou} {z : Wd} {a b : Nat} (hw : ∃ (v2 : Int32), Ct G M_X10_isLetterAt [.ref 63, .int (mm 63 20)] (SH, mm, lm) false (.inl (some (.int v2))) (SH, mm, lm) false 0 0 ∧ ((v2 = 0) → o = .inl none ∧ z = (SH, (mset mm 63 22 2), lm)) ∧ ((¬ v2 = 0) → J G M_X10_next 85 [(0, .ref 63)] [] (SH, (mset mm 63 20 ((mm 63 20) + 1)), lm) false o z false a b)) :
    J G M_X10_next 85 [(0, .ref 63)] [] (SH, mm, lm) false o z false a b := by
  refine J_aload_n rfl (i := 0) rfl dX10_next_85 ?_
  refine J_aload_n rfl (i := 0) rfl dX10_next_86 ?_
  refine J_geti kls_10 (q := 63) (k := 20) sh_63 (by decide) rfl gw_1453 dX10_next_87 ?_
  obtain ⟨v2, hc1, hw⟩ := hw
  refine J_callV (as := [.int (mm 63 20)]) (k := 63) (st := []) cal_X10_isLetterAt cai_X10_isLetterAt gw_1592 ⟨by decide, by decide⟩ cnt_X10_isLetterAt sh_63 rfl rfl (Nat.le_of_ble_eq_true rfl) dX10_next_90 (Nat.zero_add _).symm (Nat.zero_add _).symm hc1 ?_
  refine J_if_eq (tgt := 109) dX10_next_93 (by decide) (fun hb4 => ?_) (fun hb4 => ?_)
  · replace hw := hw.1 hb4
    refine J_aload_n rfl (i := 0) rfl dX10_next_109 ?_
    refine J_iconst (v := 2) (by decide) dX10_next_110 ?_
    refine J_puti kls_10 (q := 63) (k := 22) sh_63 (by decide) rfl rfl (fun _ => rfl) (fun _ => rfl) gw_1455 dX10_next_111 ?_
    refine J_goto (tgt := 250) dX10_next_114 (by decide) ?_
    exact J_finv rfl dX10_next_250 hw
  · replace hw := hw.2 hb4
    refine J_aload_n rfl (i := 0) rfl dX10_next_96 ?_
    refine J_dupr dX10_next_97 ?_
    refine J_geti kls_10 (q := 63) (k := 20) sh_63 (by decide) rfl gw_1453 dX10_next_98 ?_
    refine J_iconst (v := 1) (by decide) dX10_next_101 ?_
    refine J_iadd dX10_next_102 ?_
    refine J_puti kls_10 (q := 63) (k := 20) sh_63 (by decide) rfl rfl (fun _ => rfl) (fun _ => rfl) gw_1453 dX10_next_103 ?_
    refine J_goto (tgt := 85) dX10_next_106 (by decide) ?_
    exact hw
set_option maxRecDepth 20000 in
theorem bX10_next_133 {G : Gx} {mm : Nat → Nat → Int32} {lm : Nat → Int64}  {o : Ou} {z : Wd} {a b : Nat} (hw : ∃ (v2 : Int32), Ct G M_X10_isDigitAt [.ref 63, .int (mm 63 20)] (SH, mm, lm) false (.inl (some (.int v2))) (SH, mm, lm) false 0 0 ∧ ((v2 = 0) → ((((mm 63 20) - (mm 63 21)) ≤ 5) → o = .inl none ∧ z = (SH, (mset mm 63 22 3), lm)) ∧ ((¬ ((mm 63 20) - (mm 63 21)) ≤ 5) → o = .inl none ∧ z = (SH, (mset mm 63 22 1), lm))) ∧ ((¬ v2 = 0) → ((5 ≤ ((mm 63 20) - (mm 63 21))) → J G M_X10_next 133 [(0, .ref 63)] [] (SH, (mset mm 63 20 ((mm 63 20) + 1)), lm) false o z false a b) ∧ ((¬ 5 ≤ ((mm 63 20) - (mm 63 21))) → ∃ (v6 : Int32), Ct G M_X10_byteAt [.ref 63, .int (mm 63 20)] (SH, mm, lm) false (.inl (some (.int v6))) (SH, mm, lm) false 0 0 ∧ J G M_X10_next 133 [(0, .ref 63)] [] (SH, (mset (mset mm 63 23 (((10 * (mm 63 23)) + v6) - 48)) 63 20 (((mset mm 63 23 (((10 * (mm 63 23)) + v6) - 48)) 63 20) + 1)), lm) false o z false a b))) :
    J G M_X10_next 133 [(0, .ref 63)] [] (SH, mm, lm) false o z false a b := by
  refine J_aload_n rfl (i := 0) rfl dX10_next_133 ?_
  refine J_aload_n rfl (i := 0) rfl dX10_next_134 ?_
  refine J_geti kls_10 (q := 63) (k := 20) sh_63 (by decide) rfl gw_1453 dX10_next_135 ?_
  obtain ⟨v2, hc1, hw⟩ := hw
  refine J_callV (as := [.int (mm 63 20)]) (k := 63) (st := []) cal_X10_isDigitAt cai_X10_isDigitAt gw_1598 ⟨by decide, by decide⟩ cnt_X10_isDigitAt sh_63 rfl rfl (Nat.le_of_ble_eq_true rfl) dX10_next_138 (Nat.zero_add _).symm (Nat.zero_add _).symm hc1 ?_
  refine J_if_eq (tgt := 193) dX10_next_141 (by decide) (fun hb9 => ?_) (fun hb9 => ?_)
  · replace hw := hw.1 hb9
    refine J_aload_n rfl (i := 0) rfl dX10_next_193 ?_
    refine J_aload_n rfl (i := 0) rfl dX10_next_194 ?_
    refine J_geti kls_10 (q := 63) (k := 20) sh_63 (by decide) rfl gw_1453 dX10_next_195 ?_
    refine J_aload_n rfl (i := 0) rfl dX10_next_198 ?_
    refine J_geti kls_10 (q := 63) (k := 21) sh_63 (by decide) rfl gw_1454 dX10_next_199 ?_
    refine J_isub dX10_next_202 ?_
    refine J_iconst (v := 5) (by decide) dX10_next_203 ?_
    refine J_icmp_le (tgt := 211) dX10_next_204 (by decide) (fun hb4 => ?_) (fun hb4 => ?_)
    · replace hw := hw.1 hb4
      refine J_iconst (v := 3) (by decide) dX10_next_211 ?_
      refine J_puti kls_10 (q := 63) (k := 22) sh_63 (by decide) rfl rfl (fun _ => rfl) (fun _ => rfl) gw_1455 dX10_next_212 ?_
      refine J_goto (tgt := 250) dX10_next_215 (by decide) ?_
      exact J_finv rfl dX10_next_250 hw
    · replace hw := hw.2 hb4
      refine J_iconst (v := 1) (by decide) dX10_next_207 ?_
      refine J_goto (tgt := 212) dX10_next_208 (by decide) ?_
      refine J_puti kls_10 (q := 63) (k := 22) sh_63 (by decide) rfl rfl (fun _ => rfl) (fun _ => rfl) gw_1455 dX10_next_212 ?_
      refine J_goto (tgt := 250) dX10_next_215 (by decide) ?_
      exact J_finv rfl dX10_next_250 hw
  · replace hw := hw.2 hb9
    refine J_aload_n rfl (i := 0) rfl dX10_next_144 ?_
    refine J_geti kls_10 (q := 63) (k := 20) sh_63 (by decide) rfl gw_1453 dX10_next_145 ?_
    refine J_aload_n rfl (i := 0) rfl dX10_next_148 ?_
    refine J_geti kls_10 (q := 63) (k := 21) sh_63 (by decide) rfl gw_1454 dX10_next_149 ?_
    refine J_isub dX10_next_152 ?_
    refine J_iconst (v := 5) (by decide) dX10_next_153 ?_
    refine J_icmp_ge (tgt := 180) dX10_next_154 (by decide) (fun hb8 => ?_) (fun hb8 => ?_)
    · replace hw := hw.1 hb8
      refine J_aload_n rfl (i := 0) rfl dX10_next_180 ?_
      refine J_dupr dX10_next_181 ?_
      refine J_geti kls_10 (q := 63) (k := 20) sh_63 (by decide) rfl gw_1453 dX10_next_182 ?_
      refine J_iconst (v := 1) (by decide) dX10_next_185 ?_
      refine J_iadd dX10_next_186 ?_
      refine J_puti kls_10 (q := 63) (k := 20) sh_63 (by decide) rfl rfl (fun _ => rfl) (fun _ => rfl) gw_1453 dX10_next_187 ?_
      refine J_goto (tgt := 133) dX10_next_190 (by decide) ?_
      exact hw
    · replace hw := hw.2 hb8
      refine J_aload_n rfl (i := 0) rfl dX10_next_157 ?_
      refine J_bipush (v := 10) (by decide) dX10_next_158 ?_
      refine J_aload_n rfl (i := 0) rfl dX10_next_160 ?_
      refine J_geti kls_10 (q := 63) (k := 23) sh_63 (by decide) rfl gw_1456 dX10_next_161 ?_
      refine J_imul dX10_next_164 ?_
      refine J_aload_n rfl (i := 0) rfl dX10_next_165 ?_
      refine J_aload_n rfl (i := 0) rfl dX10_next_166 ?_
      refine J_geti kls_10 (q := 63) (k := 20) sh_63 (by decide) rfl gw_1453 dX10_next_167 ?_
      obtain ⟨v6, hc5, hw⟩ := hw
      refine J_callV (as := [.int (mm 63 20)]) (k := 63) (st := [.int (10 * (mm 63 23)), .ref 63]) cal_X10_byteAt cai_X10_byteAt gw_1588 ⟨by decide, by decide⟩ cnt_X10_byteAt sh_63 rfl rfl (Nat.le_of_ble_eq_true rfl) dX10_next_170 (Nat.zero_add _).symm (Nat.zero_add _).symm hc5 ?_
      refine J_iadd dX10_next_173 ?_
      refine J_bipush (v := 48) (by decide) dX10_next_174 ?_
      refine J_isub dX10_next_176 ?_
      refine J_puti kls_10 (q := 63) (k := 23) sh_63 (by decide) rfl rfl (fun _ => rfl) (fun _ => rfl) gw_1456 dX10_next_177 ?_
      refine J_aload_n rfl (i := 0) rfl dX10_next_180 ?_
      refine J_dupr dX10_next_181 ?_
      refine J_geti kls_10 (q := 63) (k := 20) sh_63 (by decide) rfl gw_1453 dX10_next_182 ?_
      refine J_iconst (v := 1) (by decide) dX10_next_185 ?_
      refine J_iadd dX10_next_186 ?_
      refine J_puti kls_10 (q := 63) (k := 20) sh_63 (by decide) rfl rfl (fun _ => rfl) (fun _ => rfl) gw_1453 dX10_next_187 ?_
      refine J_goto (tgt := 133) dX10_next_190 (by decide) ?_
      exact hw
theorem dX10_fail_0 : decode cX10_fail 0 = .ok (.aload_n 0, 1) := by decide +kernel
theorem dX10_fail_1 : decode cX10_fail 1 = .ok (.invokevirtual 113, 3) := by decide +kernel
theorem dX10_fail_4 : decode cX10_fail 4 = .ok (.ifCond .eq 16, 3) := by decide +kernel
theorem dX10_fail_7 : decode cX10_fail 7 = .ok (.aload_n 0, 1) := by decide +kernel
theorem dX10_fail_8 : decode cX10_fail 8 = .ok (.iload_n 1, 1) := by decide +kernel
theorem dX10_fail_9 : decode cX10_fail 9 = .ok (.putfield 110, 3) := by decide +kernel
theorem dX10_fail_12 : decode cX10_fail 12 = .ok (.aload_n 0, 1) := by decide +kernel
theorem dX10_fail_13 : decode cX10_fail 13 = .ok (.aload_n 0, 1) := by decide +kernel
theorem dX10_fail_14 : decode cX10_fail 14 = .ok (.getfield 120, 3) := by decide +kernel
theorem dX10_fail_17 : decode cX10_fail 17 = .ok (.putfield 43, 3) := by decide +kernel
theorem dX10_fail_20 : decode cX10_fail 20 = .ok (.return_, 1) := by decide +kernel
set_option maxRecDepth 20000 in
theorem bX10_fail_0 {G : Gx} {mm : Nat → Nat → Int32} {lm : Nat → Int64} {x1 : Int32} {o : Ou} {z : Wd} {a b : Nat} (hw : ∃ (v2 : Int32), Ct G M_X10_isFine [.ref 63] (SH, mm, lm) false (.inl (some (.int v2))) (SH, mm, lm) false 0 0 ∧ ((v2 = 0) → o = .inl none ∧ z = (SH, mm, lm)) ∧ ((¬ v2 = 0) → o = .inl none ∧ z = (SH, (mset (mset mm 63 24 x1) 63 25 ((mset mm 63 24 x1) 63 21)), lm))) :
    J G M_X10_fail 0 [(0, .ref 63), (1, .int x1)] [] (SH, mm, lm) false o z false a b := by
  refine J_aload_n rfl (i := 0) rfl dX10_fail_0 ?_
  obtain ⟨v2, hc1, hw⟩ := hw
  refine J_callV (as := []) (k := 63) (st := []) cal_X10_isFine cai_X10_isFine gw_1584 ⟨by decide, by decide⟩ cnt_X10_isFine sh_63 rfl rfl (Nat.le_of_ble_eq_true rfl) dX10_fail_1 (Nat.zero_add _).symm (Nat.zero_add _).symm hc1 ?_
  refine J_if_eq (tgt := 20) dX10_fail_4 (by decide) (fun hb4 => ?_) (fun hb4 => ?_)
  · replace hw := hw.1 hb4
    exact J_finv rfl dX10_fail_20 hw
  · replace hw := hw.2 hb4
    refine J_aload_n rfl (i := 0) rfl dX10_fail_7 ?_
    refine J_iload_n rfl (i := 1) rfl dX10_fail_8 ?_
    refine J_puti kls_10 (q := 63) (k := 24) sh_63 (by decide) rfl rfl (fun _ => rfl) (fun _ => rfl) gw_1457 dX10_fail_9 ?_
    refine J_aload_n rfl (i := 0) rfl dX10_fail_12 ?_
    refine J_aload_n rfl (i := 0) rfl dX10_fail_13 ?_
    refine J_geti kls_10 (q := 63) (k := 21) sh_63 (by decide) rfl gw_1454 dX10_fail_14 ?_
    refine J_puti kls_10 (q := 63) (k := 25) sh_63 (by decide) rfl rfl (fun _ => rfl) (fun _ => rfl) gw_1458 dX10_fail_17 ?_
    exact J_finv rfl dX10_fail_20 hw
theorem dX10_isKeyword_0 : decode cX10_isKeyword 0 = .ok (.aload_n 0, 1) := by decide +kernel
theorem dX10_isKeyword_1 : decode cX10_isKeyword 1 = .ok (.invokevirtual 113, 3) := by decide +kernel
theorem dX10_isKeyword_4 : decode cX10_isKeyword 4 = .ok (.ifCond .eq 27, 3) := by decide +kernel
theorem dX10_isKeyword_7 : decode cX10_isKeyword 7 = .ok (.aload_n 0, 1) := by decide +kernel
theorem dX10_isKeyword_8 : decode cX10_isKeyword 8 = .ok (.getfield 123, 3) := by decide +kernel
theorem dX10_isKeyword_11 : decode cX10_isKeyword 11 = .ok (.iconst 2, 1) := by decide +kernel
theorem dX10_isKeyword_12 : decode cX10_isKeyword 12 = .ok (.if_icmp .ne 19, 3) := by decide +kernel
theorem dX10_isKeyword_15 : decode cX10_isKeyword 15 = .ok (.aload_n 0, 1) := by decide +kernel
theorem dX10_isKeyword_16 : decode cX10_isKeyword 16 = .ok (.getfield 117, 3) := by decide +kernel
theorem dX10_isKeyword_19 : decode cX10_isKeyword 19 = .ok (.aload_n 0, 1) := by decide +kernel
theorem dX10_isKeyword_20 : decode cX10_isKeyword 20 = .ok (.getfield 120, 3) := by decide +kernel
theorem dX10_isKeyword_23 : decode cX10_isKeyword 23 = .ok (.isub, 1) := by decide +kernel
theorem dX10_isKeyword_24 : decode cX10_isKeyword 24 = .ok (.aload_n 1, 1) := by decide +kernel
theorem dX10_isKeyword_25 : decode cX10_isKeyword 25 = .ok (.invokevirtual 136, 3) := by decide +kernel
theorem dX10_isKeyword_28 : decode cX10_isKeyword 28 = .ok (.if_icmp .eq 5, 3) := by decide +kernel
theorem dX10_isKeyword_31 : decode cX10_isKeyword 31 = .ok (.iconst 0, 1) := by decide +kernel
theorem dX10_isKeyword_32 : decode cX10_isKeyword 32 = .ok (.ireturn, 1) := by decide +kernel
theorem dX10_isKeyword_33 : decode cX10_isKeyword 33 = .ok (.iconst 0, 1) := by decide +kernel
theorem dX10_isKeyword_34 : decode cX10_isKeyword 34 = .ok (.istore_n 2, 1) := by decide +kernel
theorem dX10_isKeyword_35 : decode cX10_isKeyword 35 = .ok (.iload_n 2, 1) := by decide +kernel
theorem dX10_isKeyword_36 : decode cX10_isKeyword 36 = .ok (.aload_n 1, 1) := by decide +kernel
theorem dX10_isKeyword_37 : decode cX10_isKeyword 37 = .ok (.invokevirtual 136, 3) := by decide +kernel
theorem dX10_isKeyword_40 : decode cX10_isKeyword 40 = .ok (.if_icmp .ge 30, 3) := by decide +kernel
theorem dX10_isKeyword_43 : decode cX10_isKeyword 43 = .ok (.aload_n 0, 1) := by decide +kernel
theorem dX10_isKeyword_44 : decode cX10_isKeyword 44 = .ok (.getfield 40, 3) := by decide +kernel
theorem dX10_isKeyword_47 : decode cX10_isKeyword 47 = .ok (.aload_n 0, 1) := by decide +kernel
theorem dX10_isKeyword_48 : decode cX10_isKeyword 48 = .ok (.getfield 120, 3) := by decide +kernel
theorem dX10_isKeyword_51 : decode cX10_isKeyword 51 = .ok (.iload_n 2, 1) := by decide +kernel
theorem dX10_isKeyword_52 : decode cX10_isKeyword 52 = .ok (.iadd, 1) := by decide +kernel
theorem dX10_isKeyword_53 : decode cX10_isKeyword 53 = .ok (.iaload, 1) := by decide +kernel
theorem dX10_isKeyword_54 : decode cX10_isKeyword 54 = .ok (.aload_n 1, 1) := by decide +kernel
theorem dX10_isKeyword_55 : decode cX10_isKeyword 55 = .ok (.iload_n 2, 1) := by decide +kernel
theorem dX10_isKeyword_56 : decode cX10_isKeyword 56 = .ok (.invokevirtual 142, 3) := by decide +kernel
theorem dX10_isKeyword_59 : decode cX10_isKeyword 59 = .ok (.if_icmp .eq 5, 3) := by decide +kernel
theorem dX10_isKeyword_62 : decode cX10_isKeyword 62 = .ok (.iconst 0, 1) := by decide +kernel
theorem dX10_isKeyword_63 : decode cX10_isKeyword 63 = .ok (.ireturn, 1) := by decide +kernel
theorem dX10_isKeyword_64 : decode cX10_isKeyword 64 = .ok (.iinc 2 1, 3) := by decide +kernel
theorem dX10_isKeyword_67 : decode cX10_isKeyword 67 = .ok (.goto (-32), 3) := by decide +kernel
theorem dX10_isKeyword_70 : decode cX10_isKeyword 70 = .ok (.iconst 1, 1) := by decide +kernel
theorem dX10_isKeyword_71 : decode cX10_isKeyword 71 = .ok (.ireturn, 1) := by decide +kernel
set_option maxRecDepth 20000 in
theorem bX10_isKeyword_0 {G : Gx} {mm : Nat → Nat → Int32} {lm : Nat → Int64} {kq v : Nat} {l : List Int32} (hk : (kq, v, l) ∈ kwS) {o : Ou} {z : Wd} {a b : Nat} (hw : ∃ (v2 : Int32), Ct G M_X10_isFine [.ref 63] (SH, mm, lm) false (.inl (some (.int v2))) (SH, mm, lm) false 0 0 ∧ ((v2 = 0) → o = .inl (some (.int 0)) ∧ z = (SH, mm, lm)) ∧ ((¬ v2 = 0) → ((¬ (mm 63 22) = 2) → o = .inl (some (.int 0)) ∧ z = (SH, mm, lm)) ∧ (((mm 63 22) = 2) → ∃ (v5 : Int32), Ct G M_J0_length_8abf5 [.ref kq] (SH, mm, lm) false (.inl (some (.int v5))) (SH, mm, lm) false 0 0 ∧ ((((mm 63 20) - (mm 63 21)) = v5) → J G M_X10_isKeyword 35 [(0, .ref 63), (1, .ref kq), (2, .int 0)] [] (SH, mm, lm) false o z false a b) ∧ ((¬ ((mm 63 20) - (mm 63 21)) = v5) → o = .inl (some (.int 0)) ∧ z = (SH, mm, lm))))) :
    J G M_X10_isKeyword 0 [(0, .ref 63), (1, .ref kq)] [] (SH, mm, lm) false o z false a b := by
  refine J_aload_n rfl (i := 0) rfl dX10_isKeyword_0 ?_
  obtain ⟨v2, hc1, hw⟩ := hw
  refine J_callV (as := []) (k := 63) (st := []) cal_X10_isFine cai_X10_isFine gw_1584 ⟨by decide, by decide⟩ cnt_X10_isFine sh_63 rfl rfl (Nat.le_of_ble_eq_true rfl) dX10_isKeyword_1 (Nat.zero_add _).symm (Nat.zero_add _).symm hc1 ?_
  refine J_if_eq (tgt := 31) dX10_isKeyword_4 (by decide) (fun hb9 => ?_) (fun hb9 => ?_)
  · replace hw := hw.1 hb9
    refine J_iconst (v := 0) (by decide) dX10_isKeyword_31 ?_
    exact J_fini (ty := .boolean) rfl rfl dX10_isKeyword_32 hw
  · replace hw := hw.2 hb9
    refine J_aload_n rfl (i := 0) rfl dX10_isKeyword_7 ?_
    refine J_geti kls_10 (q := 63) (k := 22) sh_63 (by decide) rfl gw_1455 dX10_isKeyword_8 ?_
    refine J_iconst (v := 2) (by decide) dX10_isKeyword_11 ?_
    refine J_icmp_ne (tgt := 31) dX10_isKeyword_12 (by decide) (fun hb8 => ?_) (fun hb8 => ?_)
    · replace hw := hw.1 hb8
      refine J_iconst (v := 0) (by decide) dX10_isKeyword_31 ?_
      exact J_fini (ty := .boolean) rfl rfl dX10_isKeyword_32 hw
    · replace hw := hw.2 hb8
      refine J_aload_n rfl (i := 0) rfl dX10_isKeyword_15 ?_
      refine J_geti kls_10 (q := 63) (k := 20) sh_63 (by decide) rfl gw_1453 dX10_isKeyword_16 ?_
      refine J_aload_n rfl (i := 0) rfl dX10_isKeyword_19 ?_
      refine J_geti kls_10 (q := 63) (k := 21) sh_63 (by decide) rfl gw_1454 dX10_isKeyword_20 ?_
      refine J_isub dX10_isKeyword_23 ?_
      refine J_aload_n rfl (i := 1) rfl dX10_isKeyword_24 ?_
      obtain ⟨v5, hc4, hw⟩ := hw
      refine J_callT (as := []) (st := [.int ((mm 63 20) - (mm 63 21))]) hk cal_J0_length_8abf5 rfl cai_J0_length_8abf5 gw_1613 ⟨by decide, by decide⟩ cnt_J0_length_8abf5 rfl (Nat.le_of_ble_eq_true rfl) dX10_isKeyword_25 (Nat.zero_add _).symm (Nat.zero_add _).symm hc4 ?_
      refine J_icmp_eq (tgt := 33) dX10_isKeyword_28 (by decide) (fun hb7 => ?_) (fun hb7 => ?_)
      · replace hw := hw.1 hb7
        refine J_iconst (v := 0) (by decide) dX10_isKeyword_33 ?_
        refine J_istore_n [(2, .int 0), (0, .ref 63), (1, .ref kq)] rfl (i := 2) (by decide) rfl dX10_isKeyword_34 ?_
        exact J_sub [1, 2, 0] rfl hw
      · replace hw := hw.2 hb7
        refine J_iconst (v := 0) (by decide) dX10_isKeyword_31 ?_
        exact J_fini (ty := .boolean) rfl rfl dX10_isKeyword_32 hw
set_option maxRecDepth 20000 in
theorem bX10_isKeyword_35 {G : Gx} {mm : Nat → Nat → Int32} {lm : Nat → Int64} {kq v : Nat} {l : List Int32} (hk : (kq, v, l) ∈ kwS) {x2 : Int32} {o : Ou} {z : Wd} {a b : Nat} (hw : ∃ (v2 : Int32), Ct G M_J0_length_8abf5 [.ref kq] (SH, mm, lm) false (.inl (some (.int v2))) (SH, mm, lm) false 0 0 ∧ ((v2 ≤ x2) → o = .inl (some (.int 1)) ∧ z = (SH, mm, lm)) ∧ ((¬ v2 ≤ x2) → ∃ j4 : Nat, ((mm 63 21) + x2) = nI j4 ∧ j4 < 400 ∧ ∃ (v6 : Int32), Ct G M_J0_charAt_5068e [.ref kq, .int x2] (SH, mm, lm) false (.inl (some (.int v6))) (SH, mm, lm) false 0 0 ∧ (((mm 74 j4) = v6) → J G M_X10_isKeyword 35 [(0, .ref 63), (1, .ref kq), (2, .int (x2 + 1))] [] (SH, mm, lm) false o z false a b) ∧ ((¬ (mm 74 j4) = v6) → o = .inl (some (.int 0)) ∧ z = (SH, mm, lm)))) :
    J G M_X10_isKeyword 35 [(0, .ref 63), (1, .ref kq), (2, .int x2)] [] (SH, mm, lm) false o z false a b := by
  refine J_iload_n rfl (i := 2) rfl dX10_isKeyword_35 ?_
  refine J_aload_n rfl (i := 1) rfl dX10_isKeyword_36 ?_
  obtain ⟨v2, hc1, hw⟩ := hw
  refine J_callT (as := []) (st := [.int x2]) hk cal_J0_length_8abf5 rfl cai_J0_length_8abf5 gw_1613 ⟨by decide, by decide⟩ cnt_J0_length_8abf5 rfl (Nat.le_of_ble_eq_true rfl) dX10_isKeyword_37 (Nat.zero_add _).symm (Nat.zero_add _).symm hc1 ?_
  refine J_icmp_ge (tgt := 70) dX10_isKeyword_40 (by decide) (fun hb9 => ?_) (fun hb9 => ?_)
  · replace hw := hw.1 hb9
    refine J_iconst (v := 1) (by decide) dX10_isKeyword_70 ?_
    exact J_fini (ty := .boolean) rfl rfl dX10_isKeyword_71 hw
  · replace hw := hw.2 hb9
    refine J_aload_n rfl (i := 0) rfl dX10_isKeyword_43 ?_
    refine J_getr kls_10 (q := 63) (k := 17) sh_63 (by decide) rfl gw_1450 dX10_isKeyword_44 ?_
    refine J_aload_n rfl (i := 0) rfl dX10_isKeyword_47 ?_
    refine J_geti kls_10 (q := 63) (k := 21) sh_63 (by decide) rfl gw_1454 dX10_isKeyword_48 ?_
    refine J_iload_n rfl (i := 2) rfl dX10_isKeyword_51 ?_
    refine J_iadd dX10_isKeyword_52 ?_
    obtain ⟨j4, ej4, hj4, hw⟩ := hw
    refine J_iald sh_74 ej4 hj4 (by decide) dX10_isKeyword_53 ?_
    refine J_aload_n rfl (i := 1) rfl dX10_isKeyword_54 ?_
    refine J_iload_n rfl (i := 2) rfl dX10_isKeyword_55 ?_
    obtain ⟨v6, hc5, hw⟩ := hw
    refine J_callT (as := [.int x2]) (st := [.int (mm 74 j4)]) hk cal_J0_charAt_5068e rfl cai_J0_charAt_5068e gw_1614 ⟨by decide, by decide⟩ cnt_J0_charAt_5068e rfl (Nat.le_of_ble_eq_true rfl) dX10_isKeyword_56 (Nat.zero_add _).symm (Nat.zero_add _).symm hc5 ?_
    refine J_icmp_eq (tgt := 64) dX10_isKeyword_59 (by decide) (fun hb8 => ?_) (fun hb8 => ?_)
    · replace hw := hw.1 hb8
      refine J_iinc [(2, .int (x2 + 1)), (0, .ref 63), (1, .ref kq)] (i := 2) (v := (x2 + 1)) rfl rfl (by decide) rfl dX10_isKeyword_64 ?_
      refine J_goto (tgt := 35) dX10_isKeyword_67 (by decide) ?_
      exact J_sub [1, 2, 0] rfl hw
    · replace hw := hw.2 hb8
      refine J_iconst (v := 0) (by decide) dX10_isKeyword_62 ?_
      exact J_fini (ty := .boolean) rfl rfl dX10_isKeyword_63 hw
theorem dX10_readAbove_0 : decode cX10_readAbove 0 = .ok (.aload_n 0, 1) := by decide +kernel
theorem dX10_readAbove_1 : decode cX10_readAbove 1 = .ok (.getfield 123, 3) := by decide +kernel
theorem dX10_readAbove_4 : decode cX10_readAbove 4 = .ok (.iconst 3, 1) := by decide +kernel
theorem dX10_readAbove_5 : decode cX10_readAbove 5 = .ok (.if_icmp .eq 11, 3) := by decide +kernel
theorem dX10_readAbove_8 : decode cX10_readAbove 8 = .ok (.aload_n 0, 1) := by decide +kernel
theorem dX10_readAbove_9 : decode cX10_readAbove 9 = .ok (.iconst 1, 1) := by decide +kernel
theorem dX10_readAbove_10 : decode cX10_readAbove 10 = .ok (.invokevirtual 146, 3) := by decide +kernel
theorem dX10_readAbove_13 : decode cX10_readAbove 13 = .ok (.goto 39, 3) := by decide +kernel
theorem dX10_readAbove_16 : decode cX10_readAbove 16 = .ok (.aload_n 0, 1) := by decide +kernel
theorem dX10_readAbove_17 : decode cX10_readAbove 17 = .ok (.getfield 133, 3) := by decide +kernel
theorem dX10_readAbove_20 : decode cX10_readAbove 20 = .ok (.i2l, 1) := by decide +kernel
theorem dX10_readAbove_21 : decode cX10_readAbove 21 = .ok (.iload_n 1, 1) := by decide +kernel
theorem dX10_readAbove_22 : decode cX10_readAbove 22 = .ok (.i2l, 1) := by decide +kernel
theorem dX10_readAbove_23 : decode cX10_readAbove 23 = .ok (.iload_n 2, 1) := by decide +kernel
theorem dX10_readAbove_24 : decode cX10_readAbove 24 = .ok (.i2l, 1) := by decide +kernel
theorem dX10_readAbove_25 : decode cX10_readAbove 25 = .ok (.invokestatic 91, 3) := by decide +kernel
theorem dX10_readAbove_28 : decode cX10_readAbove 28 = .ok (.ifCond .ne 11, 3) := by decide +kernel
theorem dX10_readAbove_31 : decode cX10_readAbove 31 = .ok (.aload_n 0, 1) := by decide +kernel
theorem dX10_readAbove_32 : decode cX10_readAbove 32 = .ok (.iconst 2, 1) := by decide +kernel
theorem dX10_readAbove_33 : decode cX10_readAbove 33 = .ok (.invokevirtual 146, 3) := by decide +kernel
theorem dX10_readAbove_36 : decode cX10_readAbove 36 = .ok (.goto 16, 3) := by decide +kernel
theorem dX10_readAbove_39 : decode cX10_readAbove 39 = .ok (.aload_n 0, 1) := by decide +kernel
theorem dX10_readAbove_40 : decode cX10_readAbove 40 = .ok (.getfield 133, 3) := by decide +kernel
theorem dX10_readAbove_43 : decode cX10_readAbove 43 = .ok (.iload_n 3, 1) := by decide +kernel
theorem dX10_readAbove_44 : decode cX10_readAbove 44 = .ok (.if_icmp .gt 8, 3) := by decide +kernel
theorem dX10_readAbove_47 : decode cX10_readAbove 47 = .ok (.aload_n 0, 1) := by decide +kernel
theorem dX10_readAbove_48 : decode cX10_readAbove 48 = .ok (.iconst 3, 1) := by decide +kernel
theorem dX10_readAbove_49 : decode cX10_readAbove 49 = .ok (.invokevirtual 146, 3) := by decide +kernel
theorem dX10_readAbove_52 : decode cX10_readAbove 52 = .ok (.aload_n 0, 1) := by decide +kernel
theorem dX10_readAbove_53 : decode cX10_readAbove 53 = .ok (.getfield 133, 3) := by decide +kernel
theorem dX10_readAbove_56 : decode cX10_readAbove 56 = .ok (.istore 4, 2) := by decide +kernel
theorem dX10_readAbove_58 : decode cX10_readAbove 58 = .ok (.aload_n 0, 1) := by decide +kernel
theorem dX10_readAbove_59 : decode cX10_readAbove 59 = .ok (.invokevirtual 149, 3) := by decide +kernel
theorem dX10_readAbove_62 : decode cX10_readAbove 62 = .ok (.iload 4, 2) := by decide +kernel
theorem dX10_readAbove_64 : decode cX10_readAbove 64 = .ok (.ireturn, 1) := by decide +kernel
set_option maxRecDepth 20000 in
theorem bX10_readAbove_0 {G : Gx} {mm : Nat → Nat → Int32} {lm : Nat → Int64} {x1 : Int32} {x2 : Int32} {x3 : Int32} {o : Ou} {z : Wd} {a b : Nat} (hw : (((mm 63 22) = 3) → ∃ (v2 : Int32), Ct G M_X10_isIn [.long (Int32.toInt64 (mm 63 23)), .long (Int32.toInt64 x1), .long (Int32.toInt64 x2)] (SH, mm, lm) false (.inl (some (.int v2))) (SH, mm, lm) false 0 0 ∧ ((¬ v2 = 0) → ((x3 < (mm 63 23)) → ∃ (m6 : Nat → Nat → Int32), Ct G M_X10_next [.ref 63] (SH, mm, lm) false (.inl none) (SH, m6, lm) false 0 0 ∧ o = .inl (some (.int (mm 63 23))) ∧ z = (SH, m6, lm)) ∧ ((¬ x3 < (mm 63 23)) → ∃ (m9 : Nat → Nat → Int32), Ct G M_X10_fail [.ref 63, .int 3] (SH, mm, lm) false (.inl none) (SH, m9, lm) false 0 0 ∧ ∃ (m12 : Nat → Nat → Int32), Ct G M_X10_next [.ref 63] (SH, m9, lm) false (.inl none) (SH, m12, lm) false 0 0 ∧ o = .inl (some (.int (m9 63 23))) ∧ z = (SH, m12, lm))) ∧ ((v2 = 0) → ∃ (m16 : Nat → Nat → Int32), Ct G M_X10_fail [.ref 63, .int 2] (SH, mm, lm) false (.inl none) (SH, m16, lm) false 0 0 ∧ ∃ (m19 : Nat → Nat → Int32), Ct G M_X10_next [.ref 63] (SH, m16, lm) false (.inl none) (SH, m19, lm) false 0 0 ∧ o = .inl (some (.int (m16 63 23))) ∧ z = (SH, m19, lm))) ∧ ((¬ (mm 63 22) = 3) → ∃ (m23 : Nat → Nat → Int32), Ct G M_X10_fail [.ref 63, .int 1] (SH, mm, lm) false (.inl none) (SH, m23, lm) false 0 0 ∧ ∃ (m26 : Nat → Nat → Int32), Ct G M_X10_next [.ref 63] (SH, m23, lm) false (.inl none) (SH, m26, lm) false 0 0 ∧ o = .inl (some (.int (m23 63 23))) ∧ z = (SH, m26, lm))) :
    J G M_X10_readAbove 0 [(0, .ref 63), (1, .int x1), (2, .int x2), (3, .int x3)] [] (SH, mm, lm) false o z false a b := by
  refine J_aload_n rfl (i := 0) rfl dX10_readAbove_0 ?_
  refine J_geti kls_10 (q := 63) (k := 22) sh_63 (by decide) rfl gw_1455 dX10_readAbove_1 ?_
  refine J_iconst (v := 3) (by decide) dX10_readAbove_4 ?_
  refine J_icmp_eq (tgt := 16) dX10_readAbove_5 (by decide) (fun hb27 => ?_) (fun hb27 => ?_)
  · replace hw := hw.1 hb27
    refine J_aload_n rfl (i := 0) rfl dX10_readAbove_16 ?_
    refine J_geti kls_10 (q := 63) (k := 23) sh_63 (by decide) rfl gw_1456 dX10_readAbove_17 ?_
    refine J_i2l dX10_readAbove_20 ?_
    refine J_iload_n rfl (i := 1) rfl dX10_readAbove_21 ?_
    refine J_i2l dX10_readAbove_22 ?_
    refine J_iload_n rfl (i := 2) rfl dX10_readAbove_23 ?_
    refine J_i2l dX10_readAbove_24 ?_
    obtain ⟨v2, hc1, hw⟩ := hw
    refine J_callS (as := [.long (Int32.toInt64 (mm 63 23)), .long (Int32.toInt64 x1), .long (Int32.toInt64 x2)]) (st := []) cal_X10_isIn cas_X10_isIn gw_1573 ⟨by decide, by decide⟩ cnt_X10_isIn rfl (Nat.le_of_ble_eq_true rfl) dX10_readAbove_25 (Nat.zero_add _).symm (Nat.zero_add _).symm hc1 ?_
    refine J_if_ne (tgt := 39) dX10_readAbove_28 (by decide) (fun hb20 => ?_) (fun hb20 => ?_)
    · replace hw := hw.1 hb20
      refine J_aload_n rfl (i := 0) rfl dX10_readAbove_39 ?_
      refine J_geti kls_10 (q := 63) (k := 23) sh_63 (by decide) rfl gw_1456 dX10_readAbove_40 ?_
      refine J_iload_n rfl (i := 3) rfl dX10_readAbove_43 ?_
      refine J_icmp_gt (tgt := 52) dX10_readAbove_44 (by decide) (fun hb13 => ?_) (fun hb13 => ?_)
      · replace hw := hw.1 hb13
        refine J_aload_n rfl (i := 0) rfl dX10_readAbove_52 ?_
        refine J_geti kls_10 (q := 63) (k := 23) sh_63 (by decide) rfl gw_1456 dX10_readAbove_53 ?_
        refine J_istore [(4, .int (mm 63 23)), (0, .ref 63), (1, .int x1), (2, .int x2), (3, .int x3)] (i := 4) (by decide) rfl dX10_readAbove_56 ?_
        refine J_aload_n rfl (i := 0) rfl dX10_readAbove_58 ?_
        obtain ⟨m6, hc4, hw⟩ := hw
        refine J_callV (as := []) (k := 63) (st := []) cal_X10_next cai_X10_next gw_1580 ⟨by decide, by decide⟩ cnt_X10_next sh_63 rfl rfl (Nat.le_of_ble_eq_true rfl) dX10_readAbove_59 (Nat.zero_add _).symm (Nat.zero_add _).symm hc4 ?_
        refine J_iload (i := 4) rfl dX10_readAbove_62 ?_
        exact J_fini (ty := .int) rfl rfl dX10_readAbove_64 hw
      · replace hw := hw.2 hb13
        refine J_aload_n rfl (i := 0) rfl dX10_readAbove_47 ?_
        refine J_iconst (v := 3) (by decide) dX10_readAbove_48 ?_
        obtain ⟨m9, hc7, hw⟩ := hw
        refine J_callV (as := [.int 3]) (k := 63) (st := []) cal_X10_fail cai_X10_fail gw_1619 ⟨by decide, by decide⟩ cnt_X10_fail sh_63 rfl rfl (Nat.le_of_ble_eq_true rfl) dX10_readAbove_49 (Nat.zero_add _).symm (Nat.zero_add _).symm hc7 ?_
        refine J_aload_n rfl (i := 0) rfl dX10_readAbove_52 ?_
        refine J_geti kls_10 (q := 63) (k := 23) sh_63 (by decide) rfl gw_1456 dX10_readAbove_53 ?_
        refine J_istore [(4, .int (m9 63 23)), (0, .ref 63), (1, .int x1), (2, .int x2), (3, .int x3)] (i := 4) (by decide) rfl dX10_readAbove_56 ?_
        refine J_aload_n rfl (i := 0) rfl dX10_readAbove_58 ?_
        obtain ⟨m12, hc10, hw⟩ := hw
        refine J_callV (as := []) (k := 63) (st := []) cal_X10_next cai_X10_next gw_1580 ⟨by decide, by decide⟩ cnt_X10_next sh_63 rfl rfl (Nat.le_of_ble_eq_true rfl) dX10_readAbove_59 (Nat.zero_add _).symm (Nat.zero_add _).symm hc10 ?_
        refine J_iload (i := 4) rfl dX10_readAbove_62 ?_
        exact J_fini (ty := .int) rfl rfl dX10_readAbove_64 hw
    · replace hw := hw.2 hb20
      refine J_aload_n rfl (i := 0) rfl dX10_readAbove_31 ?_
      refine J_iconst (v := 2) (by decide) dX10_readAbove_32 ?_
      obtain ⟨m16, hc14, hw⟩ := hw
      refine J_callV (as := [.int 2]) (k := 63) (st := []) cal_X10_fail cai_X10_fail gw_1619 ⟨by decide, by decide⟩ cnt_X10_fail sh_63 rfl rfl (Nat.le_of_ble_eq_true rfl) dX10_readAbove_33 (Nat.zero_add _).symm (Nat.zero_add _).symm hc14 ?_
      refine J_goto (tgt := 52) dX10_readAbove_36 (by decide) ?_
      refine J_aload_n rfl (i := 0) rfl dX10_readAbove_52 ?_
      refine J_geti kls_10 (q := 63) (k := 23) sh_63 (by decide) rfl gw_1456 dX10_readAbove_53 ?_
      refine J_istore [(4, .int (m16 63 23)), (0, .ref 63), (1, .int x1), (2, .int x2), (3, .int x3)] (i := 4) (by decide) rfl dX10_readAbove_56 ?_
      refine J_aload_n rfl (i := 0) rfl dX10_readAbove_58 ?_
      obtain ⟨m19, hc17, hw⟩ := hw
      refine J_callV (as := []) (k := 63) (st := []) cal_X10_next cai_X10_next gw_1580 ⟨by decide, by decide⟩ cnt_X10_next sh_63 rfl rfl (Nat.le_of_ble_eq_true rfl) dX10_readAbove_59 (Nat.zero_add _).symm (Nat.zero_add _).symm hc17 ?_
      refine J_iload (i := 4) rfl dX10_readAbove_62 ?_
      exact J_fini (ty := .int) rfl rfl dX10_readAbove_64 hw
  · replace hw := hw.2 hb27
    refine J_aload_n rfl (i := 0) rfl dX10_readAbove_8 ?_
    refine J_iconst (v := 1) (by decide) dX10_readAbove_9 ?_
    obtain ⟨m23, hc21, hw⟩ := hw
    refine J_callV (as := [.int 1]) (k := 63) (st := []) cal_X10_fail cai_X10_fail gw_1619 ⟨by decide, by decide⟩ cnt_X10_fail sh_63 rfl rfl (Nat.le_of_ble_eq_true rfl) dX10_readAbove_10 (Nat.zero_add _).symm (Nat.zero_add _).symm hc21 ?_
    refine J_goto (tgt := 52) dX10_readAbove_13 (by decide) ?_
    refine J_aload_n rfl (i := 0) rfl dX10_readAbove_52 ?_
    refine J_geti kls_10 (q := 63) (k := 23) sh_63 (by decide) rfl gw_1456 dX10_readAbove_53 ?_
    refine J_istore [(4, .int (m23 63 23)), (0, .ref 63), (1, .int x1), (2, .int x2), (3, .int x3)] (i := 4) (by decide) rfl dX10_readAbove_56 ?_
    refine J_aload_n rfl (i := 0) rfl dX10_readAbove_58 ?_
    obtain ⟨m26, hc24, hw⟩ := hw
    refine J_callV (as := []) (k := 63) (st := []) cal_X10_next cai_X10_next gw_1580 ⟨by decide, by decide⟩ cnt_X10_next sh_63 rfl rfl (Nat.le_of_ble_eq_true rfl) dX10_readAbove_59 (Nat.zero_add _).symm (Nat.zero_add _).symm hc24 ?_
    refine J_iload (i := 4) rfl dX10_readAbove_62 ?_
    exact J_fini (ty := .int) rfl rfl dX10_readAbove_64 hw
theorem dX10_readIn_0 : decode cX10_readIn 0 = .ok (.aload_n 0, 1) := by decide +kernel
theorem dX10_readIn_1 : decode cX10_readIn 1 = .ok (.iload_n 1, 1) := by decide +kernel
theorem dX10_readIn_2 : decode cX10_readIn 2 = .ok (.iload_n 2, 1) := by decide +kernel
theorem dX10_readIn_3 : decode cX10_readIn 3 = .ok (.iload_n 1, 1) := by decide +kernel
theorem dX10_readIn_4 : decode cX10_readIn 4 = .ok (.iconst 1, 1) := by decide +kernel
theorem dX10_readIn_5 : decode cX10_readIn 5 = .ok (.isub, 1) := by decide +kernel
theorem dX10_readIn_6 : decode cX10_readIn 6 = .ok (.invokevirtual 152, 3) := by decide +kernel
theorem dX10_readIn_9 : decode cX10_readIn 9 = .ok (.ireturn, 1) := by decide +kernel
set_option maxRecDepth 20000 in
theorem bX10_readIn_0 {G : Gx} {mm : Nat → Nat → Int32} {lm : Nat → Int64} {x1 : Int32} {x2 : Int32} {o : Ou} {z : Wd} {a b : Nat} (hw : ∃ (v2 : Int32) (m3 : Nat → Nat → Int32), Ct G M_X10_readAbove [.ref 63, .int x1, .int x2, .int (x1 - 1)] (SH, mm, lm) false (.inl (some (.int v2))) (SH, m3, lm) false 0 0 ∧ o = .inl (some (.int v2)) ∧ z = (SH, m3, lm)) :
    J G M_X10_readIn 0 [(0, .ref 63), (1, .int x1), (2, .int x2)] [] (SH, mm, lm) false o z false a b := by
  refine J_aload_n rfl (i := 0) rfl dX10_readIn_0 ?_
  refine J_iload_n rfl (i := 1) rfl dX10_readIn_1 ?_
  refine J_iload_n rfl (i := 2) rfl dX10_readIn_2 ?_
  refine J_iload_n rfl (i := 1) rfl dX10_readIn_3 ?_
  refine J_iconst (v := 1) (by decide) dX10_readIn_4 ?_
  refine J_isub dX10_readIn_5 ?_
  obtain ⟨v2, m3, hc1, hw⟩ := hw
  refine J_callV (as := [.int x1, .int x2, .int (x1 - 1)]) (k := 63) (st := []) cal_X10_readAbove cai_X10_readAbove gw_1627 ⟨by decide, by decide⟩ cnt_X10_readAbove sh_63 rfl rfl (Nat.le_of_ble_eq_true rfl) dX10_readIn_6 (Nat.zero_add _).symm (Nat.zero_add _).symm hc1 ?_
  exact J_fini (ty := .int) rfl rfl dX10_readIn_9 hw
theorem dX10_expectSemicolon_0 : decode cX10_expectSemicolon 0 = .ok (.aload_n 0, 1) := by decide +kernel
theorem dX10_expectSemicolon_1 : decode cX10_expectSemicolon 1 = .ok (.getfield 123, 3) := by decide +kernel
theorem dX10_expectSemicolon_4 : decode cX10_expectSemicolon 4 = .ok (.iconst 4, 1) := by decide +kernel
theorem dX10_expectSemicolon_5 : decode cX10_expectSemicolon 5 = .ok (.if_icmp .eq 8, 3) := by decide +kernel
theorem dX10_expectSemicolon_8 : decode cX10_expectSemicolon 8 = .ok (.aload_n 0, 1) := by decide +kernel
theorem dX10_expectSemicolon_9 : decode cX10_expectSemicolon 9 = .ok (.iconst 1, 1) := by decide +kernel
theorem dX10_expectSemicolon_10 : decode cX10_expectSemicolon 10 = .ok (.invokevirtual 146, 3) := by decide +kernel
theorem dX10_expectSemicolon_13 : decode cX10_expectSemicolon 13 = .ok (.aload_n 0, 1) := by decide +kernel
theorem dX10_expectSemicolon_14 : decode cX10_expectSemicolon 14 = .ok (.invokevirtual 149, 3) := by decide +kernel
theorem dX10_expectSemicolon_17 : decode cX10_expectSemicolon 17 = .ok (.return_, 1) := by decide +kernel
set_option maxRecDepth 20000 in
theorem bX10_expectSemicolon_0 {G : Gx} {mm : Nat → Nat → Int32} {lm : Nat → Int64}  {o : Ou} {z : Wd} {a b : Nat} (hw : (((mm 63 22) = 4) → ∃ (m3 : Nat → Nat → Int32), Ct G M_X10_next [.ref 63] (SH, mm, lm) false (.inl none) (SH, m3, lm) false 0 0 ∧ o = .inl none ∧ z = (SH, m3, lm)) ∧ ((¬ (mm 63 22) = 4) → ∃ (m6 : Nat → Nat → Int32), Ct G M_X10_fail [.ref 63, .int 1] (SH, mm, lm) false (.inl none) (SH, m6, lm) false 0 0 ∧ ∃ (m9 : Nat → Nat → Int32), Ct G M_X10_next [.ref 63] (SH, m6, lm) false (.inl none) (SH, m9, lm) false 0 0 ∧ o = .inl none ∧ z = (SH, m9, lm))) :
    J G M_X10_expectSemicolon 0 [(0, .ref 63)] [] (SH, mm, lm) false o z false a b := by
  refine J_aload_n rfl (i := 0) rfl dX10_expectSemicolon_0 ?_
  refine J_geti kls_10 (q := 63) (k := 22) sh_63 (by decide) rfl gw_1455 dX10_expectSemicolon_1 ?_
  refine J_iconst (v := 4) (by decide) dX10_expectSemicolon_4 ?_
  refine J_icmp_eq (tgt := 13) dX10_expectSemicolon_5 (by decide) (fun hb10 => ?_) (fun hb10 => ?_)
  · replace hw := hw.1 hb10
    refine J_aload_n rfl (i := 0) rfl dX10_expectSemicolon_13 ?_
    obtain ⟨m3, hc1, hw⟩ := hw
    refine J_callV (as := []) (k := 63) (st := []) cal_X10_next cai_X10_next gw_1580 ⟨by decide, by decide⟩ cnt_X10_next sh_63 rfl rfl (Nat.le_of_ble_eq_true rfl) dX10_expectSemicolon_14 (Nat.zero_add _).symm (Nat.zero_add _).symm hc1 ?_
    exact J_finv rfl dX10_expectSemicolon_17 hw
  · replace hw := hw.2 hb10
    refine J_aload_n rfl (i := 0) rfl dX10_expectSemicolon_8 ?_
    refine J_iconst (v := 1) (by decide) dX10_expectSemicolon_9 ?_
    obtain ⟨m6, hc4, hw⟩ := hw
    refine J_callV (as := [.int 1]) (k := 63) (st := []) cal_X10_fail cai_X10_fail gw_1619 ⟨by decide, by decide⟩ cnt_X10_fail sh_63 rfl rfl (Nat.le_of_ble_eq_true rfl) dX10_expectSemicolon_10 (Nat.zero_add _).symm (Nat.zero_add _).symm hc4 ?_
    refine J_aload_n rfl (i := 0) rfl dX10_expectSemicolon_13 ?_
    obtain ⟨m9, hc7, hw⟩ := hw
    refine J_callV (as := []) (k := 63) (st := []) cal_X10_next cai_X10_next gw_1580 ⟨by decide, by decide⟩ cnt_X10_next sh_63 rfl rfl (Nat.le_of_ble_eq_true rfl) dX10_expectSemicolon_14 (Nat.zero_add _).symm (Nat.zero_add _).symm hc7 ?_
    exact J_finv rfl dX10_expectSemicolon_17 hw
theorem dX10_begins_0 : decode cX10_begins 0 = .ok (.iload_n 1, 1) := by decide +kernel
theorem dX10_begins_1 : decode cX10_begins 1 = .ok (.iload_n 2, 1) := by decide +kernel
theorem dX10_begins_2 : decode cX10_begins 2 = .ok (.if_icmp .ne 8, 3) := by decide +kernel
theorem dX10_begins_5 : decode cX10_begins 5 = .ok (.aload_n 0, 1) := by decide +kernel
theorem dX10_begins_6 : decode cX10_begins 6 = .ok (.iconst 4, 1) := by decide +kernel
theorem dX10_begins_7 : decode cX10_begins 7 = .ok (.invokevirtual 146, 3) := by decide +kernel
theorem dX10_begins_10 : decode cX10_begins 10 = .ok (.aload_n 0, 1) := by decide +kernel
theorem dX10_begins_11 : decode cX10_begins 11 = .ok (.invokevirtual 149, 3) := by decide +kernel
theorem dX10_begins_14 : decode cX10_begins 14 = .ok (.aload_n 0, 1) := by decide +kernel
theorem dX10_begins_15 : decode cX10_begins 15 = .ok (.invokevirtual 113, 3) := by decide +kernel
theorem dX10_begins_18 : decode cX10_begins 18 = .ok (.ireturn, 1) := by decide +kernel
set_option maxRecDepth 20000 in
theorem bX10_begins_0 {G : Gx} {mm : Nat → Nat → Int32} {lm : Nat → Int64} {x1 : Int32} {x2 : Int32} {o : Ou} {z : Wd} {a b : Nat} (hw : ((¬ x1 = x2) → ∃ (m3 : Nat → Nat → Int32), Ct G M_X10_next [.ref 63] (SH, mm, lm) false (.inl none) (SH, m3, lm) false 0 0 ∧ ∃ (v5 : Int32), Ct G M_X10_isFine [.ref 63] (SH, m3, lm) false (.inl (some (.int v5))) (SH, m3, lm) false 0 0 ∧ narrow .boolean (.int v5) = .int v5 ∧ o = .inl (some (.int v5)) ∧ z = (SH, m3, lm)) ∧ ((x1 = x2) → ∃ (m9 : Nat → Nat → Int32), Ct G M_X10_fail [.ref 63, .int 4] (SH, mm, lm) false (.inl none) (SH, m9, lm) false 0 0 ∧ ∃ (m12 : Nat → Nat → Int32), Ct G M_X10_next [.ref 63] (SH, m9, lm) false (.inl none) (SH, m12, lm) false 0 0 ∧ ∃ (v14 : Int32), Ct G M_X10_isFine [.ref 63] (SH, m12, lm) false (.inl (some (.int v14))) (SH, m12, lm) false 0 0 ∧ narrow .boolean (.int v14) = .int v14 ∧ o = .inl (some (.int v14)) ∧ z = (SH, m12, lm))) :
    J G M_X10_begins 0 [(0, .ref 63), (1, .int x1), (2, .int x2)] [] (SH, mm, lm) false o z false a b := by
  refine J_iload_n rfl (i := 1) rfl dX10_begins_0 ?_
  refine J_iload_n rfl (i := 2) rfl dX10_begins_1 ?_
  refine J_icmp_ne (tgt := 10) dX10_begins_2 (by decide) (fun hb16 => ?_) (fun hb16 => ?_)
  · replace hw := hw.1 hb16
    refine J_aload_n rfl (i := 0) rfl dX10_begins_10 ?_
    obtain ⟨m3, hc1, hw⟩ := hw
    refine J_callV (as := []) (k := 63) (st := []) cal_X10_next cai_X10_next gw_1580 ⟨by decide, by decide⟩ cnt_X10_next sh_63 rfl rfl (Nat.le_of_ble_eq_true rfl) dX10_begins_11 (Nat.zero_add _).symm (Nat.zero_add _).symm hc1 ?_
    refine J_aload_n rfl (i := 0) rfl dX10_begins_14 ?_
    obtain ⟨v5, hc4, hw⟩ := hw
    refine J_callV (as := []) (k := 63) (st := []) cal_X10_isFine cai_X10_isFine gw_1584 ⟨by decide, by decide⟩ cnt_X10_isFine sh_63 rfl rfl (Nat.le_of_ble_eq_true rfl) dX10_begins_15 (Nat.zero_add _).symm (Nat.zero_add _).symm hc4 ?_
    exact J_fini (ty := .boolean) rfl hw.1 dX10_begins_18 hw.2
  · replace hw := hw.2 hb16
    refine J_aload_n rfl (i := 0) rfl dX10_begins_5 ?_
    refine J_iconst (v := 4) (by decide) dX10_begins_6 ?_
    obtain ⟨m9, hc7, hw⟩ := hw
    refine J_callV (as := [.int 4]) (k := 63) (st := []) cal_X10_fail cai_X10_fail gw_1619 ⟨by decide, by decide⟩ cnt_X10_fail sh_63 rfl rfl (Nat.le_of_ble_eq_true rfl) dX10_begins_7 (Nat.zero_add _).symm (Nat.zero_add _).symm hc7 ?_
    refine J_aload_n rfl (i := 0) rfl dX10_begins_10 ?_
    obtain ⟨m12, hc10, hw⟩ := hw
    refine J_callV (as := []) (k := 63) (st := []) cal_X10_next cai_X10_next gw_1580 ⟨by decide, by decide⟩ cnt_X10_next sh_63 rfl rfl (Nat.le_of_ble_eq_true rfl) dX10_begins_11 (Nat.zero_add _).symm (Nat.zero_add _).symm hc10 ?_
    refine J_aload_n rfl (i := 0) rfl dX10_begins_14 ?_
    obtain ⟨v14, hc13, hw⟩ := hw
    refine J_callV (as := []) (k := 63) (st := []) cal_X10_isFine cai_X10_isFine gw_1584 ⟨by decide, by decide⟩ cnt_X10_isFine sh_63 rfl rfl (Nat.le_of_ble_eq_true rfl) dX10_begins_15 (Nat.zero_add _).symm (Nat.zero_add _).symm hc13 ?_
    exact J_fini (ty := .boolean) rfl hw.1 dX10_begins_18 hw.2
theorem dX10_readBeams_0 : decode cX10_readBeams 0 = .ok (.aload_n 0, 1) := by decide +kernel
theorem dX10_readBeams_1 : decode cX10_readBeams 1 = .ok (.iconst 0, 1) := by decide +kernel
theorem dX10_readBeams_2 : decode cX10_readBeams 2 = .ok (.putfield 156, 3) := by decide +kernel
theorem dX10_readBeams_5 : decode cX10_readBeams 5 = .ok (.aload_n 0, 1) := by decide +kernel
theorem dX10_readBeams_6 : decode cX10_readBeams 6 = .ok (.ldc 159, 2) := by decide +kernel
theorem dX10_readBeams_8 : decode cX10_readBeams 8 = .ok (.invokevirtual 161, 3) := by decide +kernel
theorem dX10_readBeams_11 : decode cX10_readBeams 11 = .ok (.ifCond .eq 73, 3) := by decide +kernel
theorem dX10_readBeams_14 : decode cX10_readBeams 14 = .ok (.aload_n 0, 1) := by decide +kernel
theorem dX10_readBeams_15 : decode cX10_readBeams 15 = .ok (.aload_n 0, 1) := by decide +kernel
theorem dX10_readBeams_16 : decode cX10_readBeams 16 = .ok (.getfield 156, 3) := by decide +kernel
theorem dX10_readBeams_19 : decode cX10_readBeams 19 = .ok (.iconst 4, 1) := by decide +kernel
theorem dX10_readBeams_20 : decode cX10_readBeams 20 = .ok (.invokevirtual 165, 3) := by decide +kernel
theorem dX10_readBeams_23 : decode cX10_readBeams 23 = .ok (.ifCond .eq 61, 3) := by decide +kernel
theorem dX10_readBeams_26 : decode cX10_readBeams 26 = .ok (.aload_n 0, 1) := by decide +kernel
theorem dX10_readBeams_27 : decode cX10_readBeams 27 = .ok (.getfield 47, 3) := by decide +kernel
theorem dX10_readBeams_30 : decode cX10_readBeams 30 = .ok (.iconst 2, 1) := by decide +kernel
theorem dX10_readBeams_31 : decode cX10_readBeams 31 = .ok (.aload_n 0, 1) := by decide +kernel
theorem dX10_readBeams_32 : decode cX10_readBeams 32 = .ok (.getfield 156, 3) := by decide +kernel
theorem dX10_readBeams_35 : decode cX10_readBeams 35 = .ok (.imul, 1) := by decide +kernel
theorem dX10_readBeams_36 : decode cX10_readBeams 36 = .ok (.aload_n 0, 1) := by decide +kernel
theorem dX10_readBeams_37 : decode cX10_readBeams 37 = .ok (.sipush 300, 3) := by decide +kernel
theorem dX10_readBeams_40 : decode cX10_readBeams 40 = .ok (.sipush 5000, 3) := by decide +kernel
theorem dX10_readBeams_43 : decode cX10_readBeams 43 = .ok (.invokevirtual 169, 3) := by decide +kernel
theorem dX10_readBeams_46 : decode cX10_readBeams 46 = .ok (.iastore, 1) := by decide +kernel
theorem dX10_readBeams_47 : decode cX10_readBeams 47 = .ok (.aload_n 0, 1) := by decide +kernel
theorem dX10_readBeams_48 : decode cX10_readBeams 48 = .ok (.getfield 47, 3) := by decide +kernel
theorem dX10_readBeams_51 : decode cX10_readBeams 51 = .ok (.iconst 2, 1) := by decide +kernel
theorem dX10_readBeams_52 : decode cX10_readBeams 52 = .ok (.aload_n 0, 1) := by decide +kernel
theorem dX10_readBeams_53 : decode cX10_readBeams 53 = .ok (.getfield 156, 3) := by decide +kernel
theorem dX10_readBeams_56 : decode cX10_readBeams 56 = .ok (.imul, 1) := by decide +kernel
theorem dX10_readBeams_57 : decode cX10_readBeams 57 = .ok (.iconst 1, 1) := by decide +kernel
theorem dX10_readBeams_58 : decode cX10_readBeams 58 = .ok (.iadd, 1) := by decide +kernel
theorem dX10_readBeams_59 : decode cX10_readBeams 59 = .ok (.aload_n 0, 1) := by decide +kernel
theorem dX10_readBeams_60 : decode cX10_readBeams 60 = .ok (.iconst 0, 1) := by decide +kernel
theorem dX10_readBeams_61 : decode cX10_readBeams 61 = .ok (.ldc 173, 2) := by decide +kernel
theorem dX10_readBeams_63 : decode cX10_readBeams 63 = .ok (.invokevirtual 169, 3) := by decide +kernel
theorem dX10_readBeams_66 : decode cX10_readBeams 66 = .ok (.iastore, 1) := by decide +kernel
theorem dX10_readBeams_67 : decode cX10_readBeams 67 = .ok (.aload_n 0, 1) := by decide +kernel
theorem dX10_readBeams_68 : decode cX10_readBeams 68 = .ok (.invokevirtual 174, 3) := by decide +kernel
theorem dX10_readBeams_71 : decode cX10_readBeams 71 = .ok (.aload_n 0, 1) := by decide +kernel
theorem dX10_readBeams_72 : decode cX10_readBeams 72 = .ok (.dup, 1) := by decide +kernel
theorem dX10_readBeams_73 : decode cX10_readBeams 73 = .ok (.getfield 156, 3) := by decide +kernel
theorem dX10_readBeams_76 : decode cX10_readBeams 76 = .ok (.iconst 1, 1) := by decide +kernel
theorem dX10_readBeams_77 : decode cX10_readBeams 77 = .ok (.iadd, 1) := by decide +kernel
theorem dX10_readBeams_78 : decode cX10_readBeams 78 = .ok (.putfield 156, 3) := by decide +kernel
theorem dX10_readBeams_81 : decode cX10_readBeams 81 = .ok (.goto (-76), 3) := by decide +kernel
theorem dX10_readBeams_84 : decode cX10_readBeams 84 = .ok (.aload_n 0, 1) := by decide +kernel
theorem dX10_readBeams_85 : decode cX10_readBeams 85 = .ok (.getfield 156, 3) := by decide +kernel
theorem dX10_readBeams_88 : decode cX10_readBeams 88 = .ok (.ifCond .ne 8, 3) := by decide +kernel
theorem dX10_readBeams_91 : decode cX10_readBeams 91 = .ok (.aload_n 0, 1) := by decide +kernel
theorem dX10_readBeams_92 : decode cX10_readBeams 92 = .ok (.iconst 1, 1) := by decide +kernel
theorem dX10_readBeams_93 : decode cX10_readBeams 93 = .ok (.invokevirtual 146, 3) := by decide +kernel
theorem dX10_readBeams_96 : decode cX10_readBeams 96 = .ok (.return_, 1) := by decide +kernel
set_option maxRecDepth 20000 in
theorem bX10_readBeams_0 {G : Gx} {mm : Nat → Nat → Int32} {lm : Nat → Int64}  {o : Ou} {z : Wd} {a b : Nat} (hw : J G M_X10_readBeams 5 [(0, .ref 63)] [] (SH, (mset mm 63 27 0), lm) false o z false a b) :
    J G M_X10_readBeams 0 [(0, .ref 63)] [] (SH, mm, lm) false o z false a b := by
  refine J_aload_n rfl (i := 0) rfl dX10_readBeams_0 ?_
  refine J_iconst (v := 0) (by decide) dX10_readBeams_1 ?_
  refine J_puti kls_10 (q := 63) (k := 27) sh_63 (by decide) rfl rfl (fun _ => rfl) (fun _ => rfl) gw_1460 dX10_readBeams_2 ?_
  exact hw
set_option maxRecDepth 20000 in
theorem bX10_readBeams_5 {G : Gx} {mm : Nat → Nat → Int32} {lm : Nat → Int64}  {o : Ou} {z : Wd} {a b : Nat} (hw : ∃ (v2 : Int32), Ct G M_X10_isKeyword [.ref 63, .ref 1010] (SH, mm, lm) false (.inl (some (.int v2))) (SH, mm, lm) false 0 0 ∧ ((v2 = 0) → ((¬ (mm 63 27) = 0) → o = .inl none ∧ z = (SH, mm, lm)) ∧ (((mm 63 27) = 0) → ∃ (m6 : Nat → Nat → Int32), Ct G M_X10_fail [.ref 63, .int 1] (SH, mm, lm) false (.inl none) (SH, m6, lm) false 0 0 ∧ o = .inl none ∧ z = (SH, m6, lm))) ∧ ((¬ v2 = 0) → ∃ (v9 : Int32) (m10 : Nat → Nat → Int32), Ct G M_X10_begins [.ref 63, .int (mm 63 27), .int 4] (SH, mm, lm) false (.inl (some (.int v9))) (SH, m10, lm) false 0 0 ∧ ((v9 = 0) → ((¬ (m10 63 27) = 0) → o = .inl none ∧ z = (SH, m10, lm)) ∧ (((m10 63 27) = 0) → ∃ (m13 : Nat → Nat → Int32), Ct G M_X10_fail [.ref 63, .int 1] (SH, m10, lm) false (.inl none) (SH, m13, lm) false 0 0 ∧ o = .inl none ∧ z = (SH, m13, lm))) ∧ ((¬ v9 = 0) → ∃ (v16 : Int32) (m17 : Nat → Nat → Int32), Ct G M_X10_readIn [.ref 63, .int 300, .int 5000] (SH, m10, lm) false (.inl (some (.int v16))) (SH, m17, lm) false 0 0 ∧ ∃ j18 : Nat, (2 * (m10 63 27)) = nI j18 ∧ j18 < 64 ∧ ∃ (v20 : Int32) (m21 : Nat → Nat → Int32), Ct G M_X10_readIn [.ref 63, .int 0, .int 50000] (SH, (mset m17 75 j18 v16), lm) false (.inl (some (.int v20))) (SH, m21, lm) false 0 0 ∧ ∃ j22 : Nat, ((2 * ((mset m17 75 j18 v16) 63 27)) + 1) = nI j22 ∧ j22 < 64 ∧ ∃ (m25 : Nat → Nat → Int32), Ct G M_X10_expectSemicolon [.ref 63] (SH, (mset m21 75 j22 v20), lm) false (.inl none) (SH, m25, lm) false 0 0 ∧ J G M_X10_readBeams 5 [(0, .ref 63)] [] (SH, (mset m25 63 27 ((m25 63 27) + 1)), lm) false o z false a b))) :
    J G M_X10_readBeams 5 [(0, .ref 63)] [] (SH, mm, lm) false o z false a b := by
  refine J_aload_n rfl (i := 0) rfl dX10_readBeams_5 ?_
  refine J_ldcS st_RX10_159 dX10_readBeams_6 ?_
  obtain ⟨v2, hc1, hw⟩ := hw
  refine J_callV (as := [.ref 1010]) (k := 63) (st := []) cal_X10_isKeyword cai_X10_isKeyword gw_1609 ⟨by decide, by decide⟩ cnt_X10_isKeyword sh_63 rfl rfl (Nat.le_of_ble_eq_true rfl) dX10_readBeams_8 (Nat.zero_add _).symm (Nat.zero_add _).symm hc1 ?_
  refine J_if_eq (tgt := 84) dX10_readBeams_11 (by decide) (fun hb27 => ?_) (fun hb27 => ?_)
  · replace hw := hw.1 hb27
    refine J_aload_n rfl (i := 0) rfl dX10_readBeams_84 ?_
    refine J_geti kls_10 (q := 63) (k := 27) sh_63 (by decide) rfl gw_1460 dX10_readBeams_85 ?_
    refine J_if_ne (tgt := 96) dX10_readBeams_88 (by decide) (fun hb7 => ?_) (fun hb7 => ?_)
    · replace hw := hw.1 hb7
      exact J_finv rfl dX10_readBeams_96 hw
    · replace hw := hw.2 hb7
      refine J_aload_n rfl (i := 0) rfl dX10_readBeams_91 ?_
      refine J_iconst (v := 1) (by decide) dX10_readBeams_92 ?_
      obtain ⟨m6, hc4, hw⟩ := hw
      refine J_callV (as := [.int 1]) (k := 63) (st := []) cal_X10_fail cai_X10_fail gw_1619 ⟨by decide, by decide⟩ cnt_X10_fail sh_63 rfl rfl (Nat.le_of_ble_eq_true rfl) dX10_readBeams_93 (Nat.zero_add _).symm (Nat.zero_add _).symm hc4 ?_
      exact J_finv rfl dX10_readBeams_96 hw
  · replace hw := hw.2 hb27
    refine J_aload_n rfl (i := 0) rfl dX10_readBeams_14 ?_
    refine J_aload_n rfl (i := 0) rfl dX10_readBeams_15 ?_
    refine J_geti kls_10 (q := 63) (k := 27) sh_63 (by decide) rfl gw_1460 dX10_readBeams_16 ?_
    refine J_iconst (v := 4) (by decide) dX10_readBeams_19 ?_
    obtain ⟨v9, m10, hc8, hw⟩ := hw
    refine J_callV (as := [.int (mm 63 27), .int 4]) (k := 63) (st := []) cal_X10_begins cai_X10_begins gw_1615 ⟨by decide, by decide⟩ cnt_X10_begins sh_63 rfl rfl (Nat.le_of_ble_eq_true rfl) dX10_readBeams_20 (Nat.zero_add _).symm (Nat.zero_add _).symm hc8 ?_
    refine J_if_eq (tgt := 84) dX10_readBeams_23 (by decide) (fun hb26 => ?_) (fun hb26 => ?_)
    · replace hw := hw.1 hb26
      refine J_aload_n rfl (i := 0) rfl dX10_readBeams_84 ?_
      refine J_geti kls_10 (q := 63) (k := 27) sh_63 (by decide) rfl gw_1460 dX10_readBeams_85 ?_
      refine J_if_ne (tgt := 96) dX10_readBeams_88 (by decide) (fun hb14 => ?_) (fun hb14 => ?_)
      · replace hw := hw.1 hb14
        exact J_finv rfl dX10_readBeams_96 hw
      · replace hw := hw.2 hb14
        refine J_aload_n rfl (i := 0) rfl dX10_readBeams_91 ?_
        refine J_iconst (v := 1) (by decide) dX10_readBeams_92 ?_
        obtain ⟨m13, hc11, hw⟩ := hw
        refine J_callV (as := [.int 1]) (k := 63) (st := []) cal_X10_fail cai_X10_fail gw_1619 ⟨by decide, by decide⟩ cnt_X10_fail sh_63 rfl rfl (Nat.le_of_ble_eq_true rfl) dX10_readBeams_93 (Nat.zero_add _).symm (Nat.zero_add _).symm hc11 ?_
        exact J_finv rfl dX10_readBeams_96 hw
    · replace hw := hw.2 hb26
      refine J_aload_n rfl (i := 0) rfl dX10_readBeams_26 ?_
      refine J_getr kls_10 (q := 63) (k := 26) sh_63 (by decide) rfl gw_1459 dX10_readBeams_27 ?_
      refine J_iconst (v := 2) (by decide) dX10_readBeams_30 ?_
      refine J_aload_n rfl (i := 0) rfl dX10_readBeams_31 ?_
      refine J_geti kls_10 (q := 63) (k := 27) sh_63 (by decide) rfl gw_1460 dX10_readBeams_32 ?_
      refine J_imul dX10_readBeams_35 ?_
      refine J_aload_n rfl (i := 0) rfl dX10_readBeams_36 ?_
      refine J_sipush (v := 300) (by decide) dX10_readBeams_37 ?_
      refine J_sipush (v := 5000) (by decide) dX10_readBeams_40 ?_
      obtain ⟨v16, m17, hc15, hw⟩ := hw
      refine J_callV (as := [.int 300, .int 5000]) (k := 63) (st := [.int (2 * (m10 63 27)), .ref 75]) cal_X10_readIn cai_X10_readIn gw_1623 ⟨by decide, by decide⟩ cnt_X10_readIn sh_63 rfl rfl (Nat.le_of_ble_eq_true rfl) dX10_readBeams_43 (Nat.zero_add _).symm (Nat.zero_add _).symm hc15 ?_
      obtain ⟨j18, ej18, hj18, hw⟩ := hw
      refine J_iast sh_75 ej18 hj18 (by decide) dX10_readBeams_46 ?_
      refine J_aload_n rfl (i := 0) rfl dX10_readBeams_47 ?_
      refine J_getr kls_10 (q := 63) (k := 26) sh_63 (by decide) rfl gw_1459 dX10_readBeams_48 ?_
      refine J_iconst (v := 2) (by decide) dX10_readBeams_51 ?_
      refine J_aload_n rfl (i := 0) rfl dX10_readBeams_52 ?_
      refine J_geti kls_10 (q := 63) (k := 27) sh_63 (by decide) rfl gw_1460 dX10_readBeams_53 ?_
      refine J_imul dX10_readBeams_56 ?_
      refine J_iconst (v := 1) (by decide) dX10_readBeams_57 ?_
      refine J_iadd dX10_readBeams_58 ?_
      refine J_aload_n rfl (i := 0) rfl dX10_readBeams_59 ?_
      refine J_iconst (v := 0) (by decide) dX10_readBeams_60 ?_
      refine J_ldc gw_1631 dX10_readBeams_61 ?_
      obtain ⟨v20, m21, hc19, hw⟩ := hw
      refine J_callV (as := [.int 0, .int 50000]) (k := 63) (st := [.int ((2 * ((mset m17 75 j18 v16) 63 27)) + 1), .ref 75]) cal_X10_readIn cai_X10_readIn gw_1623 ⟨by decide, by decide⟩ cnt_X10_readIn sh_63 rfl rfl (Nat.le_of_ble_eq_true rfl) dX10_readBeams_63 (Nat.zero_add _).symm (Nat.zero_add _).symm hc19 ?_
      obtain ⟨j22, ej22, hj22, hw⟩ := hw
      refine J_iast sh_75 ej22 hj22 (by decide) dX10_readBeams_66 ?_
      refine J_aload_n rfl (i := 0) rfl dX10_readBeams_67 ?_
      obtain ⟨m25, hc23, hw⟩ := hw
      refine J_callV (as := []) (k := 63) (st := []) cal_X10_expectSemicolon cai_X10_expectSemicolon gw_1632 ⟨by decide, by decide⟩ cnt_X10_expectSemicolon sh_63 rfl rfl (Nat.le_of_ble_eq_true rfl) dX10_readBeams_68 (Nat.zero_add _).symm (Nat.zero_add _).symm hc23 ?_
      refine J_aload_n rfl (i := 0) rfl dX10_readBeams_71 ?_
      refine J_dupr dX10_readBeams_72 ?_
      refine J_geti kls_10 (q := 63) (k := 27) sh_63 (by decide) rfl gw_1460 dX10_readBeams_73 ?_
      refine J_iconst (v := 1) (by decide) dX10_readBeams_76 ?_
      refine J_iadd dX10_readBeams_77 ?_
      refine J_puti kls_10 (q := 63) (k := 27) sh_63 (by decide) rfl rfl (fun _ => rfl) (fun _ => rfl) gw_1460 dX10_readBeams_78 ?_
      refine J_goto (tgt := 5) dX10_readBeams_81 (by decide) ?_
      exact hw
theorem dX10_readBells_0 : decode cX10_readBells 0 = .ok (.aload_n 0, 1) := by decide +kernel
theorem dX10_readBells_1 : decode cX10_readBells 1 = .ok (.iconst 0, 1) := by decide +kernel
theorem dX10_readBells_2 : decode cX10_readBells 2 = .ok (.putfield 177, 3) := by decide +kernel
theorem dX10_readBells_5 : decode cX10_readBells 5 = .ok (.aload_n 0, 1) := by decide +kernel
theorem dX10_readBells_6 : decode cX10_readBells 6 = .ok (.ldc 180, 2) := by decide +kernel
theorem dX10_readBells_8 : decode cX10_readBells 8 = .ok (.invokevirtual 161, 3) := by decide +kernel
theorem dX10_readBells_11 : decode cX10_readBells 11 = .ok (.ifCond .eq 102, 3) := by decide +kernel
theorem dX10_readBells_14 : decode cX10_readBells 14 = .ok (.aload_n 0, 1) := by decide +kernel
theorem dX10_readBells_15 : decode cX10_readBells 15 = .ok (.aload_n 0, 1) := by decide +kernel
theorem dX10_readBells_16 : decode cX10_readBells 16 = .ok (.getfield 177, 3) := by decide +kernel
theorem dX10_readBells_19 : decode cX10_readBells 19 = .ok (.bipush 8, 2) := by decide +kernel
theorem dX10_readBells_21 : decode cX10_readBells 21 = .ok (.invokevirtual 165, 3) := by decide +kernel
theorem dX10_readBells_24 : decode cX10_readBells 24 = .ok (.ifCond .eq 89, 3) := by decide +kernel
theorem dX10_readBells_27 : decode cX10_readBells 27 = .ok (.aload_n 0, 1) := by decide +kernel
theorem dX10_readBells_28 : decode cX10_readBells 28 = .ok (.getfield 47, 3) := by decide +kernel
theorem dX10_readBells_31 : decode cX10_readBells 31 = .ok (.bipush 8, 2) := by decide +kernel
theorem dX10_readBells_33 : decode cX10_readBells 33 = .ok (.iconst 3, 1) := by decide +kernel
theorem dX10_readBells_34 : decode cX10_readBells 34 = .ok (.aload_n 0, 1) := by decide +kernel
theorem dX10_readBells_35 : decode cX10_readBells 35 = .ok (.getfield 177, 3) := by decide +kernel
theorem dX10_readBells_38 : decode cX10_readBells 38 = .ok (.imul, 1) := by decide +kernel
theorem dX10_readBells_39 : decode cX10_readBells 39 = .ok (.iadd, 1) := by decide +kernel
theorem dX10_readBells_40 : decode cX10_readBells 40 = .ok (.aload_n 0, 1) := by decide +kernel
theorem dX10_readBells_41 : decode cX10_readBells 41 = .ok (.bipush 10, 2) := by decide +kernel
theorem dX10_readBells_43 : decode cX10_readBells 43 = .ok (.sipush 3000, 3) := by decide +kernel
theorem dX10_readBells_46 : decode cX10_readBells 46 = .ok (.invokevirtual 169, 3) := by decide +kernel
theorem dX10_readBells_49 : decode cX10_readBells 49 = .ok (.iastore, 1) := by decide +kernel
theorem dX10_readBells_50 : decode cX10_readBells 50 = .ok (.aload_n 0, 1) := by decide +kernel
theorem dX10_readBells_51 : decode cX10_readBells 51 = .ok (.getfield 47, 3) := by decide +kernel
theorem dX10_readBells_54 : decode cX10_readBells 54 = .ok (.bipush 8, 2) := by decide +kernel
theorem dX10_readBells_56 : decode cX10_readBells 56 = .ok (.iconst 3, 1) := by decide +kernel
theorem dX10_readBells_57 : decode cX10_readBells 57 = .ok (.aload_n 0, 1) := by decide +kernel
theorem dX10_readBells_58 : decode cX10_readBells 58 = .ok (.getfield 177, 3) := by decide +kernel
theorem dX10_readBells_61 : decode cX10_readBells 61 = .ok (.imul, 1) := by decide +kernel
theorem dX10_readBells_62 : decode cX10_readBells 62 = .ok (.iadd, 1) := by decide +kernel
theorem dX10_readBells_63 : decode cX10_readBells 63 = .ok (.iconst 1, 1) := by decide +kernel
theorem dX10_readBells_64 : decode cX10_readBells 64 = .ok (.iadd, 1) := by decide +kernel
theorem dX10_readBells_65 : decode cX10_readBells 65 = .ok (.aload_n 0, 1) := by decide +kernel
theorem dX10_readBells_66 : decode cX10_readBells 66 = .ok (.iconst 2, 1) := by decide +kernel
theorem dX10_readBells_67 : decode cX10_readBells 67 = .ok (.bipush 10, 2) := by decide +kernel
theorem dX10_readBells_69 : decode cX10_readBells 69 = .ok (.invokevirtual 169, 3) := by decide +kernel
theorem dX10_readBells_72 : decode cX10_readBells 72 = .ok (.iastore, 1) := by decide +kernel
theorem dX10_readBells_73 : decode cX10_readBells 73 = .ok (.aload_n 0, 1) := by decide +kernel
theorem dX10_readBells_74 : decode cX10_readBells 74 = .ok (.getfield 47, 3) := by decide +kernel
theorem dX10_readBells_77 : decode cX10_readBells 77 = .ok (.bipush 8, 2) := by decide +kernel
theorem dX10_readBells_79 : decode cX10_readBells 79 = .ok (.iconst 3, 1) := by decide +kernel
theorem dX10_readBells_80 : decode cX10_readBells 80 = .ok (.aload_n 0, 1) := by decide +kernel
theorem dX10_readBells_81 : decode cX10_readBells 81 = .ok (.getfield 177, 3) := by decide +kernel
theorem dX10_readBells_84 : decode cX10_readBells 84 = .ok (.imul, 1) := by decide +kernel
theorem dX10_readBells_85 : decode cX10_readBells 85 = .ok (.iadd, 1) := by decide +kernel
theorem dX10_readBells_86 : decode cX10_readBells 86 = .ok (.iconst 2, 1) := by decide +kernel
theorem dX10_readBells_87 : decode cX10_readBells 87 = .ok (.iadd, 1) := by decide +kernel
theorem dX10_readBells_88 : decode cX10_readBells 88 = .ok (.aload_n 0, 1) := by decide +kernel
theorem dX10_readBells_89 : decode cX10_readBells 89 = .ok (.iconst 4, 1) := by decide +kernel
theorem dX10_readBells_90 : decode cX10_readBells 90 = .ok (.bipush 40, 2) := by decide +kernel
theorem dX10_readBells_92 : decode cX10_readBells 92 = .ok (.invokevirtual 169, 3) := by decide +kernel
theorem dX10_readBells_95 : decode cX10_readBells 95 = .ok (.iastore, 1) := by decide +kernel
theorem dX10_readBells_96 : decode cX10_readBells 96 = .ok (.aload_n 0, 1) := by decide +kernel
theorem dX10_readBells_97 : decode cX10_readBells 97 = .ok (.invokevirtual 174, 3) := by decide +kernel
theorem dX10_readBells_100 : decode cX10_readBells 100 = .ok (.aload_n 0, 1) := by decide +kernel
theorem dX10_readBells_101 : decode cX10_readBells 101 = .ok (.dup, 1) := by decide +kernel
theorem dX10_readBells_102 : decode cX10_readBells 102 = .ok (.getfield 177, 3) := by decide +kernel
theorem dX10_readBells_105 : decode cX10_readBells 105 = .ok (.iconst 1, 1) := by decide +kernel
theorem dX10_readBells_106 : decode cX10_readBells 106 = .ok (.iadd, 1) := by decide +kernel
theorem dX10_readBells_107 : decode cX10_readBells 107 = .ok (.putfield 177, 3) := by decide +kernel
theorem dX10_readBells_110 : decode cX10_readBells 110 = .ok (.goto (-105), 3) := by decide +kernel
theorem dX10_readBells_113 : decode cX10_readBells 113 = .ok (.aload_n 0, 1) := by decide +kernel
theorem dX10_readBells_114 : decode cX10_readBells 114 = .ok (.getfield 177, 3) := by decide +kernel
theorem dX10_readBells_117 : decode cX10_readBells 117 = .ok (.ifCond .ne 8, 3) := by decide +kernel
theorem dX10_readBells_120 : decode cX10_readBells 120 = .ok (.aload_n 0, 1) := by decide +kernel
theorem dX10_readBells_121 : decode cX10_readBells 121 = .ok (.iconst 1, 1) := by decide +kernel
theorem dX10_readBells_122 : decode cX10_readBells 122 = .ok (.invokevirtual 146, 3) := by decide +kernel
theorem dX10_readBells_125 : decode cX10_readBells 125 = .ok (.return_, 1) := by decide +kernel
set_option maxRecDepth 20000 in
theorem bX10_readBells_0 {G : Gx} {mm : Nat → Nat → Int32} {lm : Nat → Int64}  {o : Ou} {z : Wd} {a b : Nat} (hw : J G M_X10_readBells 5 [(0, .ref 63)] [] (SH, (mset mm 63 28 0), lm) false o z false a b) :
    J G M_X10_readBells 0 [(0, .ref 63)] [] (SH, mm, lm) false o z false a b := by
  refine J_aload_n rfl (i := 0) rfl dX10_readBells_0 ?_
  refine J_iconst (v := 0) (by decide) dX10_readBells_1 ?_
  refine J_puti kls_10 (q := 63) (k := 28) sh_63 (by decide) rfl rfl (fun _ => rfl) (fun _ => rfl) gw_1461 dX10_readBells_2 ?_
  exact hw
set_option maxRecDepth 20000 in
theorem bX10_readBells_5 {G : Gx} {mm : Nat → Nat → Int32} {lm : Nat → Int64}  {o : Ou} {z : Wd} {a b : Nat} (hw : ∃ (v2 : Int32), Ct G M_X10_isKeyword [.ref 63, .ref 1011] (SH, mm, lm) false (.inl (some (.int v2))) (SH, mm, lm) false 0 0 ∧ ((v2 = 0) → ((¬ (mm 63 28) = 0) → o = .inl none ∧ z = (SH, mm, lm)) ∧ (((mm 63 28) = 0) → ∃ (m6 : Nat → Nat → Int32), Ct G M_X10_fail [.ref 63, .int 1] (SH, mm, lm) false (.inl none) (SH, m6, lm) false 0 0 ∧ o = .inl none ∧ z = (SH, m6, lm))) ∧ ((¬ v2 = 0) → ∃ (v9 : Int32) (m10 : Nat → Nat → Int32), Ct G M_X10_begins [.ref 63, .int (mm 63 28), .int 8] (SH, mm, lm) false (.inl (some (.int v9))) (SH, m10, lm) false 0 0 ∧ ((v9 = 0) → ((¬ (m10 63 28) = 0) → o = .inl none ∧ z = (SH, m10, lm)) ∧ (((m10 63 28) = 0) → ∃ (m13 : Nat → Nat → Int32), Ct G M_X10_fail [.ref 63, .int 1] (SH, m10, lm) false (.inl none) (SH, m13, lm) false 0 0 ∧ o = .inl none ∧ z = (SH, m13, lm))) ∧ ((¬ v9 = 0) → ∃ (v16 : Int32) (m17 : Nat → Nat → Int32), Ct G M_X10_readIn [.ref 63, .int 10, .int 3000] (SH, m10, lm) false (.inl (some (.int v16))) (SH, m17, lm) false 0 0 ∧ ∃ j18 : Nat, (8 + (3 * (m10 63 28))) = nI j18 ∧ j18 < 64 ∧ ∃ (v20 : Int32) (m21 : Nat → Nat → Int32), Ct G M_X10_readIn [.ref 63, .int 2, .int 10] (SH, (mset m17 75 j18 v16), lm) false (.inl (some (.int v20))) (SH, m21, lm) false 0 0 ∧ ∃ j22 : Nat, ((8 + (3 * ((mset m17 75 j18 v16) 63 28))) + 1) = nI j22 ∧ j22 < 64 ∧ ∃ (v24 : Int32) (m25 : Nat → Nat → Int32), Ct G M_X10_readIn [.ref 63, .int 4, .int 40] (SH, (mset m21 75 j22 v20), lm) false (.inl (some (.int v24))) (SH, m25, lm) false 0 0 ∧ ∃ j26 : Nat, ((8 + (3 * ((mset m21 75 j22 v20) 63 28))) + 2) = nI j26 ∧ j26 < 64 ∧ ∃ (m29 : Nat → Nat → Int32), Ct G M_X10_expectSemicolon [.ref 63] (SH, (mset m25 75 j26 v24), lm) false (.inl none) (SH, m29, lm) false 0 0 ∧ J G M_X10_readBells 5 [(0, .ref 63)] [] (SH, (mset m29 63 28 ((m29 63 28) + 1)), lm) false o z false a b))) :
    J G M_X10_readBells 5 [(0, .ref 63)] [] (SH, mm, lm) false o z false a b := by
  refine J_aload_n rfl (i := 0) rfl dX10_readBells_5 ?_
  refine J_ldcS st_RX10_180 dX10_readBells_6 ?_
  obtain ⟨v2, hc1, hw⟩ := hw
  refine J_callV (as := [.ref 1011]) (k := 63) (st := []) cal_X10_isKeyword cai_X10_isKeyword gw_1609 ⟨by decide, by decide⟩ cnt_X10_isKeyword sh_63 rfl rfl (Nat.le_of_ble_eq_true rfl) dX10_readBells_8 (Nat.zero_add _).symm (Nat.zero_add _).symm hc1 ?_
  refine J_if_eq (tgt := 113) dX10_readBells_11 (by decide) (fun hb31 => ?_) (fun hb31 => ?_)
  · replace hw := hw.1 hb31
    refine J_aload_n rfl (i := 0) rfl dX10_readBells_113 ?_
    refine J_geti kls_10 (q := 63) (k := 28) sh_63 (by decide) rfl gw_1461 dX10_readBells_114 ?_
    refine J_if_ne (tgt := 125) dX10_readBells_117 (by decide) (fun hb7 => ?_) (fun hb7 => ?_)
    · replace hw := hw.1 hb7
      exact J_finv rfl dX10_readBells_125 hw
    · replace hw := hw.2 hb7
      refine J_aload_n rfl (i := 0) rfl dX10_readBells_120 ?_
      refine J_iconst (v := 1) (by decide) dX10_readBells_121 ?_
      obtain ⟨m6, hc4, hw⟩ := hw
      refine J_callV (as := [.int 1]) (k := 63) (st := []) cal_X10_fail cai_X10_fail gw_1619 ⟨by decide, by decide⟩ cnt_X10_fail sh_63 rfl rfl (Nat.le_of_ble_eq_true rfl) dX10_readBells_122 (Nat.zero_add _).symm (Nat.zero_add _).symm hc4 ?_
      exact J_finv rfl dX10_readBells_125 hw
  · replace hw := hw.2 hb31
    refine J_aload_n rfl (i := 0) rfl dX10_readBells_14 ?_
    refine J_aload_n rfl (i := 0) rfl dX10_readBells_15 ?_
    refine J_geti kls_10 (q := 63) (k := 28) sh_63 (by decide) rfl gw_1461 dX10_readBells_16 ?_
    refine J_bipush (v := 8) (by decide) dX10_readBells_19 ?_
    obtain ⟨v9, m10, hc8, hw⟩ := hw
    refine J_callV (as := [.int (mm 63 28), .int 8]) (k := 63) (st := []) cal_X10_begins cai_X10_begins gw_1615 ⟨by decide, by decide⟩ cnt_X10_begins sh_63 rfl rfl (Nat.le_of_ble_eq_true rfl) dX10_readBells_21 (Nat.zero_add _).symm (Nat.zero_add _).symm hc8 ?_
    refine J_if_eq (tgt := 113) dX10_readBells_24 (by decide) (fun hb30 => ?_) (fun hb30 => ?_)
    · replace hw := hw.1 hb30
      refine J_aload_n rfl (i := 0) rfl dX10_readBells_113 ?_
      refine J_geti kls_10 (q := 63) (k := 28) sh_63 (by decide) rfl gw_1461 dX10_readBells_114 ?_
      refine J_if_ne (tgt := 125) dX10_readBells_117 (by decide) (fun hb14 => ?_) (fun hb14 => ?_)
      · replace hw := hw.1 hb14
        exact J_finv rfl dX10_readBells_125 hw
      · replace hw := hw.2 hb14
        refine J_aload_n rfl (i := 0) rfl dX10_readBells_120 ?_
        refine J_iconst (v := 1) (by decide) dX10_readBells_121 ?_
        obtain ⟨m13, hc11, hw⟩ := hw
        refine J_callV (as := [.int 1]) (k := 63) (st := []) cal_X10_fail cai_X10_fail gw_1619 ⟨by decide, by decide⟩ cnt_X10_fail sh_63 rfl rfl (Nat.le_of_ble_eq_true rfl) dX10_readBells_122 (Nat.zero_add _).symm (Nat.zero_add _).symm hc11 ?_
        exact J_finv rfl dX10_readBells_125 hw
    · replace hw := hw.2 hb30
      refine J_aload_n rfl (i := 0) rfl dX10_readBells_27 ?_
      refine J_getr kls_10 (q := 63) (k := 26) sh_63 (by decide) rfl gw_1459 dX10_readBells_28 ?_
      refine J_bipush (v := 8) (by decide) dX10_readBells_31 ?_
      refine J_iconst (v := 3) (by decide) dX10_readBells_33 ?_
      refine J_aload_n rfl (i := 0) rfl dX10_readBells_34 ?_
      refine J_geti kls_10 (q := 63) (k := 28) sh_63 (by decide) rfl gw_1461 dX10_readBells_35 ?_
      refine J_imul dX10_readBells_38 ?_
      refine J_iadd dX10_readBells_39 ?_
      refine J_aload_n rfl (i := 0) rfl dX10_readBells_40 ?_
      refine J_bipush (v := 10) (by decide) dX10_readBells_41 ?_
      refine J_sipush (v := 3000) (by decide) dX10_readBells_43 ?_
      obtain ⟨v16, m17, hc15, hw⟩ := hw
      refine J_callV (as := [.int 10, .int 3000]) (k := 63) (st := [.int (8 + (3 * (m10 63 28))), .ref 75]) cal_X10_readIn cai_X10_readIn gw_1623 ⟨by decide, by decide⟩ cnt_X10_readIn sh_63 rfl rfl (Nat.le_of_ble_eq_true rfl) dX10_readBells_46 (Nat.zero_add _).symm (Nat.zero_add _).symm hc15 ?_
      obtain ⟨j18, ej18, hj18, hw⟩ := hw
      refine J_iast sh_75 ej18 hj18 (by decide) dX10_readBells_49 ?_
      refine J_aload_n rfl (i := 0) rfl dX10_readBells_50 ?_
      refine J_getr kls_10 (q := 63) (k := 26) sh_63 (by decide) rfl gw_1459 dX10_readBells_51 ?_
      refine J_bipush (v := 8) (by decide) dX10_readBells_54 ?_
      refine J_iconst (v := 3) (by decide) dX10_readBells_56 ?_
      refine J_aload_n rfl (i := 0) rfl dX10_readBells_57 ?_
      refine J_geti kls_10 (q := 63) (k := 28) sh_63 (by decide) rfl gw_1461 dX10_readBells_58 ?_
      refine J_imul dX10_readBells_61 ?_
      refine J_iadd dX10_readBells_62 ?_
      refine J_iconst (v := 1) (by decide) dX10_readBells_63 ?_
      refine J_iadd dX10_readBells_64 ?_
      refine J_aload_n rfl (i := 0) rfl dX10_readBells_65 ?_
      refine J_iconst (v := 2) (by decide) dX10_readBells_66 ?_
      refine J_bipush (v := 10) (by decide) dX10_readBells_67 ?_
      obtain ⟨v20, m21, hc19, hw⟩ := hw
      refine J_callV (as := [.int 2, .int 10]) (k := 63) (st := [.int ((8 + (3 * ((mset m17 75 j18 v16) 63 28))) + 1), .ref 75]) cal_X10_readIn cai_X10_readIn gw_1623 ⟨by decide, by decide⟩ cnt_X10_readIn sh_63 rfl rfl (Nat.le_of_ble_eq_true rfl) dX10_readBells_69 (Nat.zero_add _).symm (Nat.zero_add _).symm hc19 ?_
      obtain ⟨j22, ej22, hj22, hw⟩ := hw
      refine J_iast sh_75 ej22 hj22 (by decide) dX10_readBells_72 ?_
      refine J_aload_n rfl (i := 0) rfl dX10_readBells_73 ?_
      refine J_getr kls_10 (q := 63) (k := 26) sh_63 (by decide) rfl gw_1459 dX10_readBells_74 ?_
      refine J_bipush (v := 8) (by decide) dX10_readBells_77 ?_
      refine J_iconst (v := 3) (by decide) dX10_readBells_79 ?_
      refine J_aload_n rfl (i := 0) rfl dX10_readBells_80 ?_
      refine J_geti kls_10 (q := 63) (k := 28) sh_63 (by decide) rfl gw_1461 dX10_readBells_81 ?_
      refine J_imul dX10_readBells_84 ?_
      refine J_iadd dX10_readBells_85 ?_
      refine J_iconst (v := 2) (by decide) dX10_readBells_86 ?_
      refine J_iadd dX10_readBells_87 ?_
      refine J_aload_n rfl (i := 0) rfl dX10_readBells_88 ?_
      refine J_iconst (v := 4) (by decide) dX10_readBells_89 ?_
      refine J_bipush (v := 40) (by decide) dX10_readBells_90 ?_
      obtain ⟨v24, m25, hc23, hw⟩ := hw
      refine J_callV (as := [.int 4, .int 40]) (k := 63) (st := [.int ((8 + (3 * ((mset m21 75 j22 v20) 63 28))) + 2), .ref 75]) cal_X10_readIn cai_X10_readIn gw_1623 ⟨by decide, by decide⟩ cnt_X10_readIn sh_63 rfl rfl (Nat.le_of_ble_eq_true rfl) dX10_readBells_92 (Nat.zero_add _).symm (Nat.zero_add _).symm hc23 ?_
      obtain ⟨j26, ej26, hj26, hw⟩ := hw
      refine J_iast sh_75 ej26 hj26 (by decide) dX10_readBells_95 ?_
      refine J_aload_n rfl (i := 0) rfl dX10_readBells_96 ?_
      obtain ⟨m29, hc27, hw⟩ := hw
      refine J_callV (as := []) (k := 63) (st := []) cal_X10_expectSemicolon cai_X10_expectSemicolon gw_1632 ⟨by decide, by decide⟩ cnt_X10_expectSemicolon sh_63 rfl rfl (Nat.le_of_ble_eq_true rfl) dX10_readBells_97 (Nat.zero_add _).symm (Nat.zero_add _).symm hc27 ?_
      refine J_aload_n rfl (i := 0) rfl dX10_readBells_100 ?_
      refine J_dupr dX10_readBells_101 ?_
      refine J_geti kls_10 (q := 63) (k := 28) sh_63 (by decide) rfl gw_1461 dX10_readBells_102 ?_
      refine J_iconst (v := 1) (by decide) dX10_readBells_105 ?_
      refine J_iadd dX10_readBells_106 ?_
      refine J_puti kls_10 (q := 63) (k := 28) sh_63 (by decide) rfl rfl (fun _ => rfl) (fun _ => rfl) gw_1461 dX10_readBells_107 ?_
      refine J_goto (tgt := 5) dX10_readBells_110 (by decide) ?_
      exact hw
theorem dX10_readQuiets_0 : decode cX10_readQuiets 0 = .ok (.aload_n 0, 1) := by decide +kernel
theorem dX10_readQuiets_1 : decode cX10_readQuiets 1 = .ok (.iconst 0, 1) := by decide +kernel
theorem dX10_readQuiets_2 : decode cX10_readQuiets 2 = .ok (.putfield 182, 3) := by decide +kernel
theorem dX10_readQuiets_5 : decode cX10_readQuiets 5 = .ok (.aload_n 0, 1) := by decide +kernel
theorem dX10_readQuiets_6 : decode cX10_readQuiets 6 = .ok (.ldc 185, 2) := by decide +kernel
theorem dX10_readQuiets_8 : decode cX10_readQuiets 8 = .ok (.invokevirtual 161, 3) := by decide +kernel
theorem dX10_readQuiets_11 : decode cX10_readQuiets 11 = .ok (.ifCond .eq 82, 3) := by decide +kernel
theorem dX10_readQuiets_14 : decode cX10_readQuiets 14 = .ok (.aload_n 0, 1) := by decide +kernel
theorem dX10_readQuiets_15 : decode cX10_readQuiets 15 = .ok (.aload_n 0, 1) := by decide +kernel
theorem dX10_readQuiets_16 : decode cX10_readQuiets 16 = .ok (.getfield 182, 3) := by decide +kernel
theorem dX10_readQuiets_19 : decode cX10_readQuiets 19 = .ok (.bipush 6, 2) := by decide +kernel
theorem dX10_readQuiets_21 : decode cX10_readQuiets 21 = .ok (.invokevirtual 165, 3) := by decide +kernel
theorem dX10_readQuiets_24 : decode cX10_readQuiets 24 = .ok (.ifCond .eq 69, 3) := by decide +kernel
theorem dX10_readQuiets_27 : decode cX10_readQuiets 27 = .ok (.aload_n 0, 1) := by decide +kernel
theorem dX10_readQuiets_28 : decode cX10_readQuiets 28 = .ok (.iconst 0, 1) := by decide +kernel
theorem dX10_readQuiets_29 : decode cX10_readQuiets 29 = .ok (.sipush 1439, 3) := by decide +kernel
theorem dX10_readQuiets_32 : decode cX10_readQuiets 32 = .ok (.invokevirtual 169, 3) := by decide +kernel
theorem dX10_readQuiets_35 : decode cX10_readQuiets 35 = .ok (.istore_n 1, 1) := by decide +kernel
theorem dX10_readQuiets_36 : decode cX10_readQuiets 36 = .ok (.aload_n 0, 1) := by decide +kernel
theorem dX10_readQuiets_37 : decode cX10_readQuiets 37 = .ok (.getfield 47, 3) := by decide +kernel
theorem dX10_readQuiets_40 : decode cX10_readQuiets 40 = .ok (.bipush 32, 2) := by decide +kernel
theorem dX10_readQuiets_42 : decode cX10_readQuiets 42 = .ok (.iconst 2, 1) := by decide +kernel
theorem dX10_readQuiets_43 : decode cX10_readQuiets 43 = .ok (.aload_n 0, 1) := by decide +kernel
theorem dX10_readQuiets_44 : decode cX10_readQuiets 44 = .ok (.getfield 182, 3) := by decide +kernel
theorem dX10_readQuiets_47 : decode cX10_readQuiets 47 = .ok (.imul, 1) := by decide +kernel
theorem dX10_readQuiets_48 : decode cX10_readQuiets 48 = .ok (.iadd, 1) := by decide +kernel
theorem dX10_readQuiets_49 : decode cX10_readQuiets 49 = .ok (.iload_n 1, 1) := by decide +kernel
theorem dX10_readQuiets_50 : decode cX10_readQuiets 50 = .ok (.iastore, 1) := by decide +kernel
theorem dX10_readQuiets_51 : decode cX10_readQuiets 51 = .ok (.aload_n 0, 1) := by decide +kernel
theorem dX10_readQuiets_52 : decode cX10_readQuiets 52 = .ok (.getfield 47, 3) := by decide +kernel
theorem dX10_readQuiets_55 : decode cX10_readQuiets 55 = .ok (.bipush 32, 2) := by decide +kernel
theorem dX10_readQuiets_57 : decode cX10_readQuiets 57 = .ok (.iconst 2, 1) := by decide +kernel
theorem dX10_readQuiets_58 : decode cX10_readQuiets 58 = .ok (.aload_n 0, 1) := by decide +kernel
theorem dX10_readQuiets_59 : decode cX10_readQuiets 59 = .ok (.getfield 182, 3) := by decide +kernel
theorem dX10_readQuiets_62 : decode cX10_readQuiets 62 = .ok (.imul, 1) := by decide +kernel
theorem dX10_readQuiets_63 : decode cX10_readQuiets 63 = .ok (.iadd, 1) := by decide +kernel
theorem dX10_readQuiets_64 : decode cX10_readQuiets 64 = .ok (.iconst 1, 1) := by decide +kernel
theorem dX10_readQuiets_65 : decode cX10_readQuiets 65 = .ok (.iadd, 1) := by decide +kernel
theorem dX10_readQuiets_66 : decode cX10_readQuiets 66 = .ok (.aload_n 0, 1) := by decide +kernel
theorem dX10_readQuiets_67 : decode cX10_readQuiets 67 = .ok (.iconst 1, 1) := by decide +kernel
theorem dX10_readQuiets_68 : decode cX10_readQuiets 68 = .ok (.sipush 1440, 3) := by decide +kernel
theorem dX10_readQuiets_71 : decode cX10_readQuiets 71 = .ok (.iload_n 1, 1) := by decide +kernel
theorem dX10_readQuiets_72 : decode cX10_readQuiets 72 = .ok (.invokevirtual 152, 3) := by decide +kernel
theorem dX10_readQuiets_75 : decode cX10_readQuiets 75 = .ok (.iastore, 1) := by decide +kernel
theorem dX10_readQuiets_76 : decode cX10_readQuiets 76 = .ok (.aload_n 0, 1) := by decide +kernel
theorem dX10_readQuiets_77 : decode cX10_readQuiets 77 = .ok (.invokevirtual 174, 3) := by decide +kernel
theorem dX10_readQuiets_80 : decode cX10_readQuiets 80 = .ok (.aload_n 0, 1) := by decide +kernel
theorem dX10_readQuiets_81 : decode cX10_readQuiets 81 = .ok (.dup, 1) := by decide +kernel
theorem dX10_readQuiets_82 : decode cX10_readQuiets 82 = .ok (.getfield 182, 3) := by decide +kernel
theorem dX10_readQuiets_85 : decode cX10_readQuiets 85 = .ok (.iconst 1, 1) := by decide +kernel
theorem dX10_readQuiets_86 : decode cX10_readQuiets 86 = .ok (.iadd, 1) := by decide +kernel
theorem dX10_readQuiets_87 : decode cX10_readQuiets 87 = .ok (.putfield 182, 3) := by decide +kernel
theorem dX10_readQuiets_90 : decode cX10_readQuiets 90 = .ok (.goto (-85), 3) := by decide +kernel
theorem dX10_readQuiets_93 : decode cX10_readQuiets 93 = .ok (.return_, 1) := by decide +kernel
set_option maxRecDepth 20000 in
theorem bX10_readQuiets_0 {G : Gx} {mm : Nat → Nat → Int32} {lm : Nat → Int64}  {o : Ou} {z : Wd} {a b : Nat} (hw : J G M_X10_readQuiets 5 [(0, .ref 63)] [] (SH, (mset mm 63 29 0), lm) false o z false a b) :
    J G M_X10_readQuiets 0 [(0, .ref 63)] [] (SH, mm, lm) false o z false a b := by
  refine J_aload_n rfl (i := 0) rfl dX10_readQuiets_0 ?_
  refine J_iconst (v := 0) (by decide) dX10_readQuiets_1 ?_
  refine J_puti kls_10 (q := 63) (k := 29) sh_63 (by decide) rfl rfl (fun _ => rfl) (fun _ => rfl) gw_1462 dX10_readQuiets_2 ?_
  exact hw
set_option maxRecDepth 20000 in
theorem bX10_readQuiets_5 {G : Gx} {mm : Nat → Nat → Int32} {lm : Nat → Int64}  {o : Ou} {z : Wd} {a b : Nat} (hw : ∃ (v2 : Int32), Ct G M_X10_isKeyword [.ref 63, .ref 1012] (SH, mm, lm) false (.inl (some (.int v2))) (SH, mm, lm) false 0 0 ∧ ((v2 = 0) → o = .inl none ∧ z = (SH, mm, lm)) ∧ ((¬ v2 = 0) → ∃ (v5 : Int32) (m6 : Nat → Nat → Int32), Ct G M_X10_begins [.ref 63, .int (mm 63 29), .int 6] (SH, mm, lm) false (.inl (some (.int v5))) (SH, m6, lm) false 0 0 ∧ ((v5 = 0) → o = .inl none ∧ z = (SH, m6, lm)) ∧ ((¬ v5 = 0) → ∃ (v8 : Int32) (m9 : Nat → Nat → Int32), Ct G M_X10_readIn [.ref 63, .int 0, .int 1439] (SH, m6, lm) false (.inl (some (.int v8))) (SH, m9, lm) false 0 0 ∧ ∃ j10 : Nat, (32 + (2 * (m9 63 29))) = nI j10 ∧ j10 < 64 ∧ ∃ (v12 : Int32) (m13 : Nat → Nat → Int32), Ct G M_X10_readAbove [.ref 63, .int 1, .int 1440, .int v8] (SH, (mset m9 75 j10 v8), lm) false (.inl (some (.int v12))) (SH, m13, lm) false 0 0 ∧ ∃ j14 : Nat, ((32 + (2 * ((mset m9 75 j10 v8) 63 29))) + 1) = nI j14 ∧ j14 < 64 ∧ ∃ (m17 : Nat → Nat → Int32), Ct G M_X10_expectSemicolon [.ref 63] (SH, (mset m13 75 j14 v12), lm) false (.inl none) (SH, m17, lm) false 0 0 ∧ J G M_X10_readQuiets 5 [(0, .ref 63)] [] (SH, (mset m17 63 29 ((m17 63 29) + 1)), lm) false o z false a b))) :
    J G M_X10_readQuiets 5 [(0, .ref 63)] [] (SH, mm, lm) false o z false a b := by
  refine J_aload_n rfl (i := 0) rfl dX10_readQuiets_5 ?_
  refine J_ldcS st_RX10_185 dX10_readQuiets_6 ?_
  obtain ⟨v2, hc1, hw⟩ := hw
  refine J_callV (as := [.ref 1012]) (k := 63) (st := []) cal_X10_isKeyword cai_X10_isKeyword gw_1609 ⟨by decide, by decide⟩ cnt_X10_isKeyword sh_63 rfl rfl (Nat.le_of_ble_eq_true rfl) dX10_readQuiets_8 (Nat.zero_add _).symm (Nat.zero_add _).symm hc1 ?_
  refine J_if_eq (tgt := 93) dX10_readQuiets_11 (by decide) (fun hb19 => ?_) (fun hb19 => ?_)
  · replace hw := hw.1 hb19
    exact J_finv rfl dX10_readQuiets_93 hw
  · replace hw := hw.2 hb19
    refine J_aload_n rfl (i := 0) rfl dX10_readQuiets_14 ?_
    refine J_aload_n rfl (i := 0) rfl dX10_readQuiets_15 ?_
    refine J_geti kls_10 (q := 63) (k := 29) sh_63 (by decide) rfl gw_1462 dX10_readQuiets_16 ?_
    refine J_bipush (v := 6) (by decide) dX10_readQuiets_19 ?_
    obtain ⟨v5, m6, hc4, hw⟩ := hw
    refine J_callV (as := [.int (mm 63 29), .int 6]) (k := 63) (st := []) cal_X10_begins cai_X10_begins gw_1615 ⟨by decide, by decide⟩ cnt_X10_begins sh_63 rfl rfl (Nat.le_of_ble_eq_true rfl) dX10_readQuiets_21 (Nat.zero_add _).symm (Nat.zero_add _).symm hc4 ?_
    refine J_if_eq (tgt := 93) dX10_readQuiets_24 (by decide) (fun hb18 => ?_) (fun hb18 => ?_)
    · replace hw := hw.1 hb18
      exact J_finv rfl dX10_readQuiets_93 hw
    · replace hw := hw.2 hb18
      refine J_aload_n rfl (i := 0) rfl dX10_readQuiets_27 ?_
      refine J_iconst (v := 0) (by decide) dX10_readQuiets_28 ?_
      refine J_sipush (v := 1439) (by decide) dX10_readQuiets_29 ?_
      obtain ⟨v8, m9, hc7, hw⟩ := hw
      refine J_callV (as := [.int 0, .int 1439]) (k := 63) (st := []) cal_X10_readIn cai_X10_readIn gw_1623 ⟨by decide, by decide⟩ cnt_X10_readIn sh_63 rfl rfl (Nat.le_of_ble_eq_true rfl) dX10_readQuiets_32 (Nat.zero_add _).symm (Nat.zero_add _).symm hc7 ?_
      refine J_istore_n [(1, .int v8), (0, .ref 63)] rfl (i := 1) (by decide) rfl dX10_readQuiets_35 ?_
      refine J_aload_n rfl (i := 0) rfl dX10_readQuiets_36 ?_
      refine J_getr kls_10 (q := 63) (k := 26) sh_63 (by decide) rfl gw_1459 dX10_readQuiets_37 ?_
      refine J_bipush (v := 32) (by decide) dX10_readQuiets_40 ?_
      refine J_iconst (v := 2) (by decide) dX10_readQuiets_42 ?_
      refine J_aload_n rfl (i := 0) rfl dX10_readQuiets_43 ?_
      refine J_geti kls_10 (q := 63) (k := 29) sh_63 (by decide) rfl gw_1462 dX10_readQuiets_44 ?_
      refine J_imul dX10_readQuiets_47 ?_
      refine J_iadd dX10_readQuiets_48 ?_
      refine J_iload_n rfl (i := 1) rfl dX10_readQuiets_49 ?_
      obtain ⟨j10, ej10, hj10, hw⟩ := hw
      refine J_iast sh_75 ej10 hj10 (by decide) dX10_readQuiets_50 ?_
      refine J_aload_n rfl (i := 0) rfl dX10_readQuiets_51 ?_
      refine J_getr kls_10 (q := 63) (k := 26) sh_63 (by decide) rfl gw_1459 dX10_readQuiets_52 ?_
      refine J_bipush (v := 32) (by decide) dX10_readQuiets_55 ?_
      refine J_iconst (v := 2) (by decide) dX10_readQuiets_57 ?_
      refine J_aload_n rfl (i := 0) rfl dX10_readQuiets_58 ?_
      refine J_geti kls_10 (q := 63) (k := 29) sh_63 (by decide) rfl gw_1462 dX10_readQuiets_59 ?_
      refine J_imul dX10_readQuiets_62 ?_
      refine J_iadd dX10_readQuiets_63 ?_
      refine J_iconst (v := 1) (by decide) dX10_readQuiets_64 ?_
      refine J_iadd dX10_readQuiets_65 ?_
      refine J_aload_n rfl (i := 0) rfl dX10_readQuiets_66 ?_
      refine J_iconst (v := 1) (by decide) dX10_readQuiets_67 ?_
      refine J_sipush (v := 1440) (by decide) dX10_readQuiets_68 ?_
      refine J_iload_n rfl (i := 1) rfl dX10_readQuiets_71 ?_
      obtain ⟨v12, m13, hc11, hw⟩ := hw
      refine J_callV (as := [.int 1, .int 1440, .int v8]) (k := 63) (st := [.int ((32 + (2 * ((mset m9 75 j10 v8) 63 29))) + 1), .ref 75]) cal_X10_readAbove cai_X10_readAbove gw_1627 ⟨by decide, by decide⟩ cnt_X10_readAbove sh_63 rfl rfl (Nat.le_of_ble_eq_true rfl) dX10_readQuiets_72 (Nat.zero_add _).symm (Nat.zero_add _).symm hc11 ?_
      obtain ⟨j14, ej14, hj14, hw⟩ := hw
      refine J_iast sh_75 ej14 hj14 (by decide) dX10_readQuiets_75 ?_
      refine J_aload_n rfl (i := 0) rfl dX10_readQuiets_76 ?_
      obtain ⟨m17, hc15, hw⟩ := hw
      refine J_callV (as := []) (k := 63) (st := []) cal_X10_expectSemicolon cai_X10_expectSemicolon gw_1632 ⟨by decide, by decide⟩ cnt_X10_expectSemicolon sh_63 rfl rfl (Nat.le_of_ble_eq_true rfl) dX10_readQuiets_77 (Nat.zero_add _).symm (Nat.zero_add _).symm hc15 ?_
      refine J_aload_n rfl (i := 0) rfl dX10_readQuiets_80 ?_
      refine J_dupr dX10_readQuiets_81 ?_
      refine J_geti kls_10 (q := 63) (k := 29) sh_63 (by decide) rfl gw_1462 dX10_readQuiets_82 ?_
      refine J_iconst (v := 1) (by decide) dX10_readQuiets_85 ?_
      refine J_iadd dX10_readQuiets_86 ?_
      refine J_puti kls_10 (q := 63) (k := 29) sh_63 (by decide) rfl rfl (fun _ => rfl) (fun _ => rfl) gw_1462 dX10_readQuiets_87 ?_
      refine J_goto (tgt := 5) dX10_readQuiets_90 (by decide) ?_
      exact J_sub [1] rfl hw
theorem dX10_readRopes_0 : decode cX10_readRopes 0 = .ok (.aload_n 0, 1) := by decide +kernel
theorem dX10_readRopes_1 : decode cX10_readRopes 1 = .ok (.iconst 0, 1) := by decide +kernel
theorem dX10_readRopes_2 : decode cX10_readRopes 2 = .ok (.putfield 187, 3) := by decide +kernel
theorem dX10_readRopes_5 : decode cX10_readRopes 5 = .ok (.aload_n 0, 1) := by decide +kernel
theorem dX10_readRopes_6 : decode cX10_readRopes 6 = .ok (.ldc 190, 2) := by decide +kernel
theorem dX10_readRopes_8 : decode cX10_readRopes 8 = .ok (.invokevirtual 161, 3) := by decide +kernel
theorem dX10_readRopes_11 : decode cX10_readRopes 11 = .ok (.ifCond .eq 54, 3) := by decide +kernel
theorem dX10_readRopes_14 : decode cX10_readRopes 14 = .ok (.aload_n 0, 1) := by decide +kernel
theorem dX10_readRopes_15 : decode cX10_readRopes 15 = .ok (.aload_n 0, 1) := by decide +kernel
theorem dX10_readRopes_16 : decode cX10_readRopes 16 = .ok (.getfield 187, 3) := by decide +kernel
theorem dX10_readRopes_19 : decode cX10_readRopes 19 = .ok (.bipush 8, 2) := by decide +kernel
theorem dX10_readRopes_21 : decode cX10_readRopes 21 = .ok (.invokevirtual 165, 3) := by decide +kernel
theorem dX10_readRopes_24 : decode cX10_readRopes 24 = .ok (.ifCond .eq 41, 3) := by decide +kernel
theorem dX10_readRopes_27 : decode cX10_readRopes 27 = .ok (.aload_n 0, 1) := by decide +kernel
theorem dX10_readRopes_28 : decode cX10_readRopes 28 = .ok (.getfield 47, 3) := by decide +kernel
theorem dX10_readRopes_31 : decode cX10_readRopes 31 = .ok (.bipush 44, 2) := by decide +kernel
theorem dX10_readRopes_33 : decode cX10_readRopes 33 = .ok (.aload_n 0, 1) := by decide +kernel
theorem dX10_readRopes_34 : decode cX10_readRopes 34 = .ok (.getfield 187, 3) := by decide +kernel
theorem dX10_readRopes_37 : decode cX10_readRopes 37 = .ok (.iadd, 1) := by decide +kernel
theorem dX10_readRopes_38 : decode cX10_readRopes 38 = .ok (.aload_n 0, 1) := by decide +kernel
theorem dX10_readRopes_39 : decode cX10_readRopes 39 = .ok (.bipush 100, 2) := by decide +kernel
theorem dX10_readRopes_41 : decode cX10_readRopes 41 = .ok (.sipush 9999, 3) := by decide +kernel
theorem dX10_readRopes_44 : decode cX10_readRopes 44 = .ok (.invokevirtual 169, 3) := by decide +kernel
theorem dX10_readRopes_47 : decode cX10_readRopes 47 = .ok (.iastore, 1) := by decide +kernel
theorem dX10_readRopes_48 : decode cX10_readRopes 48 = .ok (.aload_n 0, 1) := by decide +kernel
theorem dX10_readRopes_49 : decode cX10_readRopes 49 = .ok (.invokevirtual 174, 3) := by decide +kernel
theorem dX10_readRopes_52 : decode cX10_readRopes 52 = .ok (.aload_n 0, 1) := by decide +kernel
theorem dX10_readRopes_53 : decode cX10_readRopes 53 = .ok (.dup, 1) := by decide +kernel
theorem dX10_readRopes_54 : decode cX10_readRopes 54 = .ok (.getfield 187, 3) := by decide +kernel
theorem dX10_readRopes_57 : decode cX10_readRopes 57 = .ok (.iconst 1, 1) := by decide +kernel
theorem dX10_readRopes_58 : decode cX10_readRopes 58 = .ok (.iadd, 1) := by decide +kernel
theorem dX10_readRopes_59 : decode cX10_readRopes 59 = .ok (.putfield 187, 3) := by decide +kernel
theorem dX10_readRopes_62 : decode cX10_readRopes 62 = .ok (.goto (-57), 3) := by decide +kernel
theorem dX10_readRopes_65 : decode cX10_readRopes 65 = .ok (.return_, 1) := by decide +kernel
set_option maxRecDepth 20000 in
theorem bX10_readRopes_0 {G : Gx} {mm : Nat → Nat → Int32} {lm : Nat → Int64}  {o : Ou} {z : Wd} {a b : Nat} (hw : J G M_X10_readRopes 5 [(0, .ref 63)] [] (SH, (mset mm 63 30 0), lm) false o z false a b) :
    J G M_X10_readRopes 0 [(0, .ref 63)] [] (SH, mm, lm) false o z false a b := by
  refine J_aload_n rfl (i := 0) rfl dX10_readRopes_0 ?_
  refine J_iconst (v := 0) (by decide) dX10_readRopes_1 ?_
  refine J_puti kls_10 (q := 63) (k := 30) sh_63 (by decide) rfl rfl (fun _ => rfl) (fun _ => rfl) gw_1463 dX10_readRopes_2 ?_
  exact hw
set_option maxRecDepth 20000 in
theorem bX10_readRopes_5 {G : Gx} {mm : Nat → Nat → Int32} {lm : Nat → Int64}  {o : Ou} {z : Wd} {a b : Nat} (hw : ∃ (v2 : Int32), Ct G M_X10_isKeyword [.ref 63, .ref 1013] (SH, mm, lm) false (.inl (some (.int v2))) (SH, mm, lm) false 0 0 ∧ ((v2 = 0) → o = .inl none ∧ z = (SH, mm, lm)) ∧ ((¬ v2 = 0) → ∃ (v5 : Int32) (m6 : Nat → Nat → Int32), Ct G M_X10_begins [.ref 63, .int (mm 63 30), .int 8] (SH, mm, lm) false (.inl (some (.int v5))) (SH, m6, lm) false 0 0 ∧ ((v5 = 0) → o = .inl none ∧ z = (SH, m6, lm)) ∧ ((¬ v5 = 0) → ∃ (v8 : Int32) (m9 : Nat → Nat → Int32), Ct G M_X10_readIn [.ref 63, .int 100, .int 9999] (SH, m6, lm) false (.inl (some (.int v8))) (SH, m9, lm) false 0 0 ∧ ∃ j10 : Nat, (44 + (m6 63 30)) = nI j10 ∧ j10 < 64 ∧ ∃ (m13 : Nat → Nat → Int32), Ct G M_X10_expectSemicolon [.ref 63] (SH, (mset m9 75 j10 v8), lm) false (.inl none) (SH, m13, lm) false 0 0 ∧ J G M_X10_readRopes 5 [(0, .ref 63)] [] (SH, (mset m13 63 30 ((m13 63 30) + 1)), lm) false o z false a b))) :
    J G M_X10_readRopes 5 [(0, .ref 63)] [] (SH, mm, lm) false o z false a b := by
  refine J_aload_n rfl (i := 0) rfl dX10_readRopes_5 ?_
  refine J_ldcS st_RX10_190 dX10_readRopes_6 ?_
  obtain ⟨v2, hc1, hw⟩ := hw
  refine J_callV (as := [.ref 1013]) (k := 63) (st := []) cal_X10_isKeyword cai_X10_isKeyword gw_1609 ⟨by decide, by decide⟩ cnt_X10_isKeyword sh_63 rfl rfl (Nat.le_of_ble_eq_true rfl) dX10_readRopes_8 (Nat.zero_add _).symm (Nat.zero_add _).symm hc1 ?_
  refine J_if_eq (tgt := 65) dX10_readRopes_11 (by decide) (fun hb15 => ?_) (fun hb15 => ?_)
  · replace hw := hw.1 hb15
    exact J_finv rfl dX10_readRopes_65 hw
  · replace hw := hw.2 hb15
    refine J_aload_n rfl (i := 0) rfl dX10_readRopes_14 ?_
    refine J_aload_n rfl (i := 0) rfl dX10_readRopes_15 ?_
    refine J_geti kls_10 (q := 63) (k := 30) sh_63 (by decide) rfl gw_1463 dX10_readRopes_16 ?_
    refine J_bipush (v := 8) (by decide) dX10_readRopes_19 ?_
    obtain ⟨v5, m6, hc4, hw⟩ := hw
    refine J_callV (as := [.int (mm 63 30), .int 8]) (k := 63) (st := []) cal_X10_begins cai_X10_begins gw_1615 ⟨by decide, by decide⟩ cnt_X10_begins sh_63 rfl rfl (Nat.le_of_ble_eq_true rfl) dX10_readRopes_21 (Nat.zero_add _).symm (Nat.zero_add _).symm hc4 ?_
    refine J_if_eq (tgt := 65) dX10_readRopes_24 (by decide) (fun hb14 => ?_) (fun hb14 => ?_)
    · replace hw := hw.1 hb14
      exact J_finv rfl dX10_readRopes_65 hw
    · replace hw := hw.2 hb14
      refine J_aload_n rfl (i := 0) rfl dX10_readRopes_27 ?_
      refine J_getr kls_10 (q := 63) (k := 26) sh_63 (by decide) rfl gw_1459 dX10_readRopes_28 ?_
      refine J_bipush (v := 44) (by decide) dX10_readRopes_31 ?_
      refine J_aload_n rfl (i := 0) rfl dX10_readRopes_33 ?_
      refine J_geti kls_10 (q := 63) (k := 30) sh_63 (by decide) rfl gw_1463 dX10_readRopes_34 ?_
      refine J_iadd dX10_readRopes_37 ?_
      refine J_aload_n rfl (i := 0) rfl dX10_readRopes_38 ?_
      refine J_bipush (v := 100) (by decide) dX10_readRopes_39 ?_
      refine J_sipush (v := 9999) (by decide) dX10_readRopes_41 ?_
      obtain ⟨v8, m9, hc7, hw⟩ := hw
      refine J_callV (as := [.int 100, .int 9999]) (k := 63) (st := [.int (44 + (m6 63 30)), .ref 75]) cal_X10_readIn cai_X10_readIn gw_1623 ⟨by decide, by decide⟩ cnt_X10_readIn sh_63 rfl rfl (Nat.le_of_ble_eq_true rfl) dX10_readRopes_44 (Nat.zero_add _).symm (Nat.zero_add _).symm hc7 ?_
      obtain ⟨j10, ej10, hj10, hw⟩ := hw
      refine J_iast sh_75 ej10 hj10 (by decide) dX10_readRopes_47 ?_
      refine J_aload_n rfl (i := 0) rfl dX10_readRopes_48 ?_
      obtain ⟨m13, hc11, hw⟩ := hw
      refine J_callV (as := []) (k := 63) (st := []) cal_X10_expectSemicolon cai_X10_expectSemicolon gw_1632 ⟨by decide, by decide⟩ cnt_X10_expectSemicolon sh_63 rfl rfl (Nat.le_of_ble_eq_true rfl) dX10_readRopes_49 (Nat.zero_add _).symm (Nat.zero_add _).symm hc11 ?_
      refine J_aload_n rfl (i := 0) rfl dX10_readRopes_52 ?_
      refine J_dupr dX10_readRopes_53 ?_
      refine J_geti kls_10 (q := 63) (k := 30) sh_63 (by decide) rfl gw_1463 dX10_readRopes_54 ?_
      refine J_iconst (v := 1) (by decide) dX10_readRopes_57 ?_
      refine J_iadd dX10_readRopes_58 ?_
      refine J_puti kls_10 (q := 63) (k := 30) sh_63 (by decide) rfl rfl (fun _ => rfl) (fun _ => rfl) gw_1463 dX10_readRopes_59 ?_
      refine J_goto (tgt := 5) dX10_readRopes_62 (by decide) ?_
      exact hw
theorem dX10_load_0 : decode cX10_load 0 = .ok (.aload_n 0, 1) := by decide +kernel
theorem dX10_load_1 : decode cX10_load 1 = .ok (.iconst 0, 1) := by decide +kernel
theorem dX10_load_2 : decode cX10_load 2 = .ok (.putfield 77, 3) := by decide +kernel
theorem dX10_load_5 : decode cX10_load 5 = .ok (.aload_n 0, 1) := by decide +kernel
theorem dX10_load_6 : decode cX10_load 6 = .ok (.aload_n 0, 1) := by decide +kernel
theorem dX10_load_7 : decode cX10_load 7 = .ok (.getfield 84, 3) := by decide +kernel
theorem dX10_load_10 : decode cX10_load 10 = .ok (.putfield 95, 3) := by decide +kernel
theorem dX10_load_13 : decode cX10_load 13 = .ok (.aload_n 0, 1) := by decide +kernel
theorem dX10_load_14 : decode cX10_load 14 = .ok (.iconst 0, 1) := by decide +kernel
theorem dX10_load_15 : decode cX10_load 15 = .ok (.putfield 84, 3) := by decide +kernel
theorem dX10_load_18 : decode cX10_load 18 = .ok (.aload_n 0, 1) := by decide +kernel
theorem dX10_load_19 : decode cX10_load 19 = .ok (.iconst 0, 1) := by decide +kernel
theorem dX10_load_20 : decode cX10_load 20 = .ok (.putfield 117, 3) := by decide +kernel
theorem dX10_load_23 : decode cX10_load 23 = .ok (.aload_n 0, 1) := by decide +kernel
theorem dX10_load_24 : decode cX10_load 24 = .ok (.iconst 0, 1) := by decide +kernel
theorem dX10_load_25 : decode cX10_load 25 = .ok (.putfield 110, 3) := by decide +kernel
theorem dX10_load_28 : decode cX10_load 28 = .ok (.aload_n 0, 1) := by decide +kernel
theorem dX10_load_29 : decode cX10_load 29 = .ok (.iconst (-1), 1) := by decide +kernel
theorem dX10_load_30 : decode cX10_load 30 = .ok (.putfield 43, 3) := by decide +kernel
theorem dX10_load_33 : decode cX10_load 33 = .ok (.aload_n 0, 1) := by decide +kernel
theorem dX10_load_34 : decode cX10_load 34 = .ok (.invokevirtual 149, 3) := by decide +kernel
theorem dX10_load_37 : decode cX10_load 37 = .ok (.aload_n 0, 1) := by decide +kernel
theorem dX10_load_38 : decode cX10_load 38 = .ok (.invokevirtual 191, 3) := by decide +kernel
theorem dX10_load_41 : decode cX10_load 41 = .ok (.aload_n 0, 1) := by decide +kernel
theorem dX10_load_42 : decode cX10_load 42 = .ok (.invokevirtual 194, 3) := by decide +kernel
theorem dX10_load_45 : decode cX10_load 45 = .ok (.aload_n 0, 1) := by decide +kernel
theorem dX10_load_46 : decode cX10_load 46 = .ok (.invokevirtual 197, 3) := by decide +kernel
theorem dX10_load_49 : decode cX10_load 49 = .ok (.aload_n 0, 1) := by decide +kernel
theorem dX10_load_50 : decode cX10_load 50 = .ok (.invokevirtual 200, 3) := by decide +kernel
theorem dX10_load_53 : decode cX10_load 53 = .ok (.aload_n 0, 1) := by decide +kernel
theorem dX10_load_54 : decode cX10_load 54 = .ok (.getfield 123, 3) := by decide +kernel
theorem dX10_load_57 : decode cX10_load 57 = .ok (.ifCond .eq 8, 3) := by decide +kernel
theorem dX10_load_60 : decode cX10_load 60 = .ok (.aload_n 0, 1) := by decide +kernel
theorem dX10_load_61 : decode cX10_load 61 = .ok (.iconst 1, 1) := by decide +kernel
theorem dX10_load_62 : decode cX10_load 62 = .ok (.invokevirtual 146, 3) := by decide +kernel
theorem dX10_load_65 : decode cX10_load 65 = .ok (.aload_n 0, 1) := by decide +kernel
theorem dX10_load_66 : decode cX10_load 66 = .ok (.invokevirtual 113, 3) := by decide +kernel
theorem dX10_load_69 : decode cX10_load 69 = .ok (.ifCond .ne 11, 3) := by decide +kernel
theorem dX10_load_72 : decode cX10_load 72 = .ok (.bipush (-10), 2) := by decide +kernel
theorem dX10_load_74 : decode cX10_load 74 = .ok (.aload_n 0, 1) := by decide +kernel
theorem dX10_load_75 : decode cX10_load 75 = .ok (.getfield 110, 3) := by decide +kernel
theorem dX10_load_78 : decode cX10_load 78 = .ok (.isub, 1) := by decide +kernel
theorem dX10_load_79 : decode cX10_load 79 = .ok (.ireturn, 1) := by decide +kernel
theorem dX10_load_80 : decode cX10_load 80 = .ok (.aload_n 0, 1) := by decide +kernel
theorem dX10_load_81 : decode cX10_load 81 = .ok (.invokevirtual 203, 3) := by decide +kernel
theorem dX10_load_84 : decode cX10_load 84 = .ok (.aload_n 0, 1) := by decide +kernel
theorem dX10_load_85 : decode cX10_load 85 = .ok (.getfield 206, 3) := by decide +kernel
theorem dX10_load_88 : decode cX10_load 88 = .ok (.ireturn, 1) := by decide +kernel
set_option maxRecDepth 20000 in
theorem bX10_load_0 {G : Gx} {mm : Nat → Nat → Int32} {lm : Nat → Int64}  {o : Ou} {z : Wd} {a b : Nat} (hw : ∃ (m3 : Nat → Nat → Int32), Ct G M_X10_next [.ref 63] (SH, (mset (mset (mset (mset (mset (mset mm 63 4 0) 63 19 ((mset mm 63 4 0) 63 18)) 63 18 0) 63 20 0) 63 24 0) 63 25 (-1)), lm) false (.inl none) (SH, m3, lm) false 0 0 ∧ ∃ (m6 : Nat → Nat → Int32), Ct G M_X10_readBeams [.ref 63] (SH, m3, lm) false (.inl none) (SH, m6, lm) false 0 0 ∧ ∃ (m9 : Nat → Nat → Int32), Ct G M_X10_readBells [.ref 63] (SH, m6, lm) false (.inl none) (SH, m9, lm) false 0 0 ∧ ∃ (m12 : Nat → Nat → Int32), Ct G M_X10_readQuiets [.ref 63] (SH, m9, lm) false (.inl none) (SH, m12, lm) false 0 0 ∧ ∃ (m15 : Nat → Nat → Int32), Ct G M_X10_readRopes [.ref 63] (SH, m12, lm) false (.inl none) (SH, m15, lm) false 0 0 ∧ (((m15 63 22) = 0) → ∃ (v17 : Int32), Ct G M_X10_isFine [.ref 63] (SH, m15, lm) false (.inl (some (.int v17))) (SH, m15, lm) false 0 0 ∧ ((¬ v17 = 0) → ∃ (m21 : Nat → Nat → Int32), Ct G M_X10_takeOver [.ref 63] (SH, m15, lm) false (.inl none) (SH, m21, lm) false 0 0 ∧ o = .inl (some (.int (m21 63 8))) ∧ z = (SH, m21, lm)) ∧ ((v17 = 0) → o = .inl (some (.int ((-10) - (m15 63 24)))) ∧ z = (SH, m15, lm))) ∧ ((¬ (m15 63 22) = 0) → ∃ (m25 : Nat → Nat → Int32), Ct G M_X10_fail [.ref 63, .int 1] (SH, m15, lm) false (.inl none) (SH, m25, lm) false 0 0 ∧ ∃ (v27 : Int32), Ct G M_X10_isFine [.ref 63] (SH, m25, lm) false (.inl (some (.int v27))) (SH, m25, lm) false 0 0 ∧ ((¬ v27 = 0) → ∃ (m31 : Nat → Nat → Int32), Ct G M_X10_takeOver [.ref 63] (SH, m25, lm) false (.inl none) (SH, m31, lm) false 0 0 ∧ o = .inl (some (.int (m31 63 8))) ∧ z = (SH, m31, lm)) ∧ ((v27 = 0) → o = .inl (some (.int ((-10) - (m25 63 24)))) ∧ z = (SH, m25, lm)))) :
    J G M_X10_load 0 [(0, .ref 63)] [] (SH, mm, lm) false o z false a b := by
  refine J_aload_n rfl (i := 0) rfl dX10_load_0 ?_
  refine J_iconst (v := 0) (by decide) dX10_load_1 ?_
  refine J_puti kls_10 (q := 63) (k := 4) sh_63 (by decide) rfl rfl (fun _ => rfl) (fun _ => rfl) gw_1437 dX10_load_2 ?_
  refine J_aload_n rfl (i := 0) rfl dX10_load_5 ?_
  refine J_aload_n rfl (i := 0) rfl dX10_load_6 ?_
  refine J_geti kls_10 (q := 63) (k := 18) sh_63 (by decide) rfl gw_1451 dX10_load_7 ?_
  refine J_puti kls_10 (q := 63) (k := 19) sh_63 (by decide) rfl rfl (fun _ => rfl) (fun _ => rfl) gw_1452 dX10_load_10 ?_
  refine J_aload_n rfl (i := 0) rfl dX10_load_13 ?_
  refine J_iconst (v := 0) (by decide) dX10_load_14 ?_
  refine J_puti kls_10 (q := 63) (k := 18) sh_63 (by decide) rfl rfl (fun _ => rfl) (fun _ => rfl) gw_1451 dX10_load_15 ?_
  refine J_aload_n rfl (i := 0) rfl dX10_load_18 ?_
  refine J_iconst (v := 0) (by decide) dX10_load_19 ?_
  refine J_puti kls_10 (q := 63) (k := 20) sh_63 (by decide) rfl rfl (fun _ => rfl) (fun _ => rfl) gw_1453 dX10_load_20 ?_
  refine J_aload_n rfl (i := 0) rfl dX10_load_23 ?_
  refine J_iconst (v := 0) (by decide) dX10_load_24 ?_
  refine J_puti kls_10 (q := 63) (k := 24) sh_63 (by decide) rfl rfl (fun _ => rfl) (fun _ => rfl) gw_1457 dX10_load_25 ?_
  refine J_aload_n rfl (i := 0) rfl dX10_load_28 ?_
  refine J_iconst (v := (-1)) (by decide) dX10_load_29 ?_
  refine J_puti kls_10 (q := 63) (k := 25) sh_63 (by decide) rfl rfl (fun _ => rfl) (fun _ => rfl) gw_1458 dX10_load_30 ?_
  refine J_aload_n rfl (i := 0) rfl dX10_load_33 ?_
  obtain ⟨m3, hc1, hw⟩ := hw
  refine J_callV (as := []) (k := 63) (st := []) cal_X10_next cai_X10_next gw_1580 ⟨by decide, by decide⟩ cnt_X10_next sh_63 rfl rfl (Nat.le_of_ble_eq_true rfl) dX10_load_34 (Nat.zero_add _).symm (Nat.zero_add _).symm hc1 ?_
  refine J_aload_n rfl (i := 0) rfl dX10_load_37 ?_
  obtain ⟨m6, hc4, hw⟩ := hw
  refine J_callV (as := []) (k := 63) (st := []) cal_X10_readBeams cai_X10_readBeams gw_1604 ⟨by decide, by decide⟩ cnt_X10_readBeams sh_63 rfl rfl (Nat.le_of_ble_eq_true rfl) dX10_load_38 (Nat.zero_add _).symm (Nat.zero_add _).symm hc4 ?_
  refine J_aload_n rfl (i := 0) rfl dX10_load_41 ?_
  obtain ⟨m9, hc7, hw⟩ := hw
  refine J_callV (as := []) (k := 63) (st := []) cal_X10_readBells cai_X10_readBells gw_1636 ⟨by decide, by decide⟩ cnt_X10_readBells sh_63 rfl rfl (Nat.le_of_ble_eq_true rfl) dX10_load_42 (Nat.zero_add _).symm (Nat.zero_add _).symm hc7 ?_
  refine J_aload_n rfl (i := 0) rfl dX10_load_45 ?_
  obtain ⟨m12, hc10, hw⟩ := hw
  refine J_callV (as := []) (k := 63) (st := []) cal_X10_readQuiets cai_X10_readQuiets gw_1641 ⟨by decide, by decide⟩ cnt_X10_readQuiets sh_63 rfl rfl (Nat.le_of_ble_eq_true rfl) dX10_load_46 (Nat.zero_add _).symm (Nat.zero_add _).symm hc10 ?_
  refine J_aload_n rfl (i := 0) rfl dX10_load_49 ?_
  obtain ⟨m15, hc13, hw⟩ := hw
  refine J_callV (as := []) (k := 63) (st := []) cal_X10_readRopes cai_X10_readRopes gw_1646 ⟨by decide, by decide⟩ cnt_X10_readRopes sh_63 rfl rfl (Nat.le_of_ble_eq_true rfl) dX10_load_50 (Nat.zero_add _).symm (Nat.zero_add _).symm hc13 ?_
  refine J_aload_n rfl (i := 0) rfl dX10_load_53 ?_
  refine J_geti kls_10 (q := 63) (k := 22) sh_63 (by decide) rfl gw_1455 dX10_load_54 ?_
  refine J_if_eq (tgt := 65) dX10_load_57 (by decide) (fun hb33 => ?_) (fun hb33 => ?_)
  · replace hw := hw.1 hb33
    refine J_aload_n rfl (i := 0) rfl dX10_load_65 ?_
    obtain ⟨v17, hc16, hw⟩ := hw
    refine J_callV (as := []) (k := 63) (st := []) cal_X10_isFine cai_X10_isFine gw_1584 ⟨by decide, by decide⟩ cnt_X10_isFine sh_63 rfl rfl (Nat.le_of_ble_eq_true rfl) dX10_load_66 (Nat.zero_add _).symm (Nat.zero_add _).symm hc16 ?_
    refine J_if_ne (tgt := 80) dX10_load_69 (by decide) (fun hb22 => ?_) (fun hb22 => ?_)
    · replace hw := hw.1 hb22
      refine J_aload_n rfl (i := 0) rfl dX10_load_80 ?_
      obtain ⟨m21, hc19, hw⟩ := hw
      refine J_callV (as := []) (k := 63) (st := []) cal_X10_takeOver cai_X10_takeOver gw_1651 ⟨by decide, by decide⟩ cnt_X10_takeOver sh_63 rfl rfl (Nat.le_of_ble_eq_true rfl) dX10_load_81 (Nat.zero_add _).symm (Nat.zero_add _).symm hc19 ?_
      refine J_aload_n rfl (i := 0) rfl dX10_load_84 ?_
      refine J_geti kls_10 (q := 63) (k := 8) sh_63 (by decide) rfl gw_1441 dX10_load_85 ?_
      exact J_fini (ty := .int) rfl rfl dX10_load_88 hw
    · replace hw := hw.2 hb22
      refine J_bipush (v := (-10)) (by decide) dX10_load_72 ?_
      refine J_aload_n rfl (i := 0) rfl dX10_load_74 ?_
      refine J_geti kls_10 (q := 63) (k := 24) sh_63 (by decide) rfl gw_1457 dX10_load_75 ?_
      refine J_isub dX10_load_78 ?_
      exact J_fini (ty := .int) rfl rfl dX10_load_79 hw
  · replace hw := hw.2 hb33
    refine J_aload_n rfl (i := 0) rfl dX10_load_60 ?_
    refine J_iconst (v := 1) (by decide) dX10_load_61 ?_
    obtain ⟨m25, hc23, hw⟩ := hw
    refine J_callV (as := [.int 1]) (k := 63) (st := []) cal_X10_fail cai_X10_fail gw_1619 ⟨by decide, by decide⟩ cnt_X10_fail sh_63 rfl rfl (Nat.le_of_ble_eq_true rfl) dX10_load_62 (Nat.zero_add _).symm (Nat.zero_add _).symm hc23 ?_
    refine J_aload_n rfl (i := 0) rfl dX10_load_65 ?_
    obtain ⟨v27, hc26, hw⟩ := hw
    refine J_callV (as := []) (k := 63) (st := []) cal_X10_isFine cai_X10_isFine gw_1584 ⟨by decide, by decide⟩ cnt_X10_isFine sh_63 rfl rfl (Nat.le_of_ble_eq_true rfl) dX10_load_66 (Nat.zero_add _).symm (Nat.zero_add _).symm hc26 ?_
    refine J_if_ne (tgt := 80) dX10_load_69 (by decide) (fun hb32 => ?_) (fun hb32 => ?_)
    · replace hw := hw.1 hb32
      refine J_aload_n rfl (i := 0) rfl dX10_load_80 ?_
      obtain ⟨m31, hc29, hw⟩ := hw
      refine J_callV (as := []) (k := 63) (st := []) cal_X10_takeOver cai_X10_takeOver gw_1651 ⟨by decide, by decide⟩ cnt_X10_takeOver sh_63 rfl rfl (Nat.le_of_ble_eq_true rfl) dX10_load_81 (Nat.zero_add _).symm (Nat.zero_add _).symm hc29 ?_
      refine J_aload_n rfl (i := 0) rfl dX10_load_84 ?_
      refine J_geti kls_10 (q := 63) (k := 8) sh_63 (by decide) rfl gw_1441 dX10_load_85 ?_
      exact J_fini (ty := .int) rfl rfl dX10_load_88 hw
    · replace hw := hw.2 hb32
      refine J_bipush (v := (-10)) (by decide) dX10_load_72 ?_
      refine J_aload_n rfl (i := 0) rfl dX10_load_74 ?_
      refine J_geti kls_10 (q := 63) (k := 24) sh_63 (by decide) rfl gw_1457 dX10_load_75 ?_
      refine J_isub dX10_load_78 ?_
      exact J_fini (ty := .int) rfl rfl dX10_load_79 hw
theorem dX10_takeOver_0 : decode cX10_takeOver 0 = .ok (.aload_n 0, 1) := by decide +kernel
theorem dX10_takeOver_1 : decode cX10_takeOver 1 = .ok (.iconst 1, 1) := by decide +kernel
theorem dX10_takeOver_2 : decode cX10_takeOver 2 = .ok (.putfield 80, 3) := by decide +kernel
theorem dX10_takeOver_5 : decode cX10_takeOver 5 = .ok (.aload_n 0, 1) := by decide +kernel
theorem dX10_takeOver_6 : decode cX10_takeOver 6 = .ok (.aload_n 0, 1) := by decide +kernel
theorem dX10_takeOver_7 : decode cX10_takeOver 7 = .ok (.getfield 156, 3) := by decide +kernel
theorem dX10_takeOver_10 : decode cX10_takeOver 10 = .ok (.putfield 209, 3) := by decide +kernel
theorem dX10_takeOver_13 : decode cX10_takeOver 13 = .ok (.aload_n 0, 1) := by decide +kernel
theorem dX10_takeOver_14 : decode cX10_takeOver 14 = .ok (.aload_n 0, 1) := by decide +kernel
theorem dX10_takeOver_15 : decode cX10_takeOver 15 = .ok (.getfield 177, 3) := by decide +kernel
theorem dX10_takeOver_18 : decode cX10_takeOver 18 = .ok (.putfield 206, 3) := by decide +kernel
theorem dX10_takeOver_21 : decode cX10_takeOver 21 = .ok (.aload_n 0, 1) := by decide +kernel
theorem dX10_takeOver_22 : decode cX10_takeOver 22 = .ok (.aload_n 0, 1) := by decide +kernel
theorem dX10_takeOver_23 : decode cX10_takeOver 23 = .ok (.getfield 182, 3) := by decide +kernel
theorem dX10_takeOver_26 : decode cX10_takeOver 26 = .ok (.putfield 212, 3) := by decide +kernel
theorem dX10_takeOver_29 : decode cX10_takeOver 29 = .ok (.aload_n 0, 1) := by decide +kernel
theorem dX10_takeOver_30 : decode cX10_takeOver 30 = .ok (.aload_n 0, 1) := by decide +kernel
theorem dX10_takeOver_31 : decode cX10_takeOver 31 = .ok (.getfield 187, 3) := by decide +kernel
theorem dX10_takeOver_34 : decode cX10_takeOver 34 = .ok (.putfield 215, 3) := by decide +kernel
theorem dX10_takeOver_37 : decode cX10_takeOver 37 = .ok (.iconst 0, 1) := by decide +kernel
theorem dX10_takeOver_38 : decode cX10_takeOver 38 = .ok (.istore_n 1, 1) := by decide +kernel
theorem dX10_takeOver_39 : decode cX10_takeOver 39 = .ok (.iload_n 1, 1) := by decide +kernel
theorem dX10_takeOver_40 : decode cX10_takeOver 40 = .ok (.aload_n 0, 1) := by decide +kernel
theorem dX10_takeOver_41 : decode cX10_takeOver 41 = .ok (.getfield 209, 3) := by decide +kernel
theorem dX10_takeOver_44 : decode cX10_takeOver 44 = .ok (.if_icmp .ge 39, 3) := by decide +kernel
theorem dX10_takeOver_47 : decode cX10_takeOver 47 = .ok (.aload_n 0, 1) := by decide +kernel
theorem dX10_takeOver_48 : decode cX10_takeOver 48 = .ok (.getfield 16, 3) := by decide +kernel
theorem dX10_takeOver_51 : decode cX10_takeOver 51 = .ok (.iload_n 1, 1) := by decide +kernel
theorem dX10_takeOver_52 : decode cX10_takeOver 52 = .ok (.aload_n 0, 1) := by decide +kernel
theorem dX10_takeOver_53 : decode cX10_takeOver 53 = .ok (.getfield 47, 3) := by decide +kernel
theorem dX10_takeOver_56 : decode cX10_takeOver 56 = .ok (.iconst 2, 1) := by decide +kernel
theorem dX10_takeOver_57 : decode cX10_takeOver 57 = .ok (.iload_n 1, 1) := by decide +kernel
theorem dX10_takeOver_58 : decode cX10_takeOver 58 = .ok (.imul, 1) := by decide +kernel
theorem dX10_takeOver_59 : decode cX10_takeOver 59 = .ok (.iaload, 1) := by decide +kernel
theorem dX10_takeOver_60 : decode cX10_takeOver 60 = .ok (.iastore, 1) := by decide +kernel
theorem dX10_takeOver_61 : decode cX10_takeOver 61 = .ok (.aload_n 0, 1) := by decide +kernel
theorem dX10_takeOver_62 : decode cX10_takeOver 62 = .ok (.getfield 19, 3) := by decide +kernel
theorem dX10_takeOver_65 : decode cX10_takeOver 65 = .ok (.iload_n 1, 1) := by decide +kernel
theorem dX10_takeOver_66 : decode cX10_takeOver 66 = .ok (.aload_n 0, 1) := by decide +kernel
theorem dX10_takeOver_67 : decode cX10_takeOver 67 = .ok (.getfield 47, 3) := by decide +kernel
theorem dX10_takeOver_70 : decode cX10_takeOver 70 = .ok (.iconst 2, 1) := by decide +kernel
theorem dX10_takeOver_71 : decode cX10_takeOver 71 = .ok (.iload_n 1, 1) := by decide +kernel
theorem dX10_takeOver_72 : decode cX10_takeOver 72 = .ok (.imul, 1) := by decide +kernel
theorem dX10_takeOver_73 : decode cX10_takeOver 73 = .ok (.iconst 1, 1) := by decide +kernel
theorem dX10_takeOver_74 : decode cX10_takeOver 74 = .ok (.iadd, 1) := by decide +kernel
theorem dX10_takeOver_75 : decode cX10_takeOver 75 = .ok (.iaload, 1) := by decide +kernel
theorem dX10_takeOver_76 : decode cX10_takeOver 76 = .ok (.iastore, 1) := by decide +kernel
theorem dX10_takeOver_77 : decode cX10_takeOver 77 = .ok (.iinc 1 1, 3) := by decide +kernel
theorem dX10_takeOver_80 : decode cX10_takeOver 80 = .ok (.goto (-41), 3) := by decide +kernel
theorem dX10_takeOver_83 : decode cX10_takeOver 83 = .ok (.iconst 0, 1) := by decide +kernel
theorem dX10_takeOver_84 : decode cX10_takeOver 84 = .ok (.istore_n 1, 1) := by decide +kernel
theorem dX10_takeOver_85 : decode cX10_takeOver 85 = .ok (.iload_n 1, 1) := by decide +kernel
theorem dX10_takeOver_86 : decode cX10_takeOver 86 = .ok (.aload_n 0, 1) := by decide +kernel
theorem dX10_takeOver_87 : decode cX10_takeOver 87 = .ok (.getfield 206, 3) := by decide +kernel
theorem dX10_takeOver_90 : decode cX10_takeOver 90 = .ok (.if_icmp .ge 64, 3) := by decide +kernel
theorem dX10_takeOver_93 : decode cX10_takeOver 93 = .ok (.aload_n 0, 1) := by decide +kernel
theorem dX10_takeOver_94 : decode cX10_takeOver 94 = .ok (.getfield 22, 3) := by decide +kernel
theorem dX10_takeOver_97 : decode cX10_takeOver 97 = .ok (.iload_n 1, 1) := by decide +kernel
theorem dX10_takeOver_98 : decode cX10_takeOver 98 = .ok (.aload_n 0, 1) := by decide +kernel
theorem dX10_takeOver_99 : decode cX10_takeOver 99 = .ok (.getfield 47, 3) := by decide +kernel
theorem dX10_takeOver_102 : decode cX10_takeOver 102 = .ok (.bipush 8, 2) := by decide +kernel
theorem dX10_takeOver_104 : decode cX10_takeOver 104 = .ok (.iconst 3, 1) := by decide +kernel
theorem dX10_takeOver_105 : decode cX10_takeOver 105 = .ok (.iload_n 1, 1) := by decide +kernel
theorem dX10_takeOver_106 : decode cX10_takeOver 106 = .ok (.imul, 1) := by decide +kernel
theorem dX10_takeOver_107 : decode cX10_takeOver 107 = .ok (.iadd, 1) := by decide +kernel
theorem dX10_takeOver_108 : decode cX10_takeOver 108 = .ok (.iaload, 1) := by decide +kernel
theorem dX10_takeOver_109 : decode cX10_takeOver 109 = .ok (.iastore, 1) := by decide +kernel
theorem dX10_takeOver_110 : decode cX10_takeOver 110 = .ok (.aload_n 0, 1) := by decide +kernel
theorem dX10_takeOver_111 : decode cX10_takeOver 111 = .ok (.getfield 25, 3) := by decide +kernel
theorem dX10_takeOver_114 : decode cX10_takeOver 114 = .ok (.iload_n 1, 1) := by decide +kernel
theorem dX10_takeOver_115 : decode cX10_takeOver 115 = .ok (.aload_n 0, 1) := by decide +kernel
theorem dX10_takeOver_116 : decode cX10_takeOver 116 = .ok (.getfield 47, 3) := by decide +kernel
theorem dX10_takeOver_119 : decode cX10_takeOver 119 = .ok (.bipush 8, 2) := by decide +kernel
theorem dX10_takeOver_121 : decode cX10_takeOver 121 = .ok (.iconst 3, 1) := by decide +kernel
theorem dX10_takeOver_122 : decode cX10_takeOver 122 = .ok (.iload_n 1, 1) := by decide +kernel
theorem dX10_takeOver_123 : decode cX10_takeOver 123 = .ok (.imul, 1) := by decide +kernel
theorem dX10_takeOver_124 : decode cX10_takeOver 124 = .ok (.iadd, 1) := by decide +kernel
theorem dX10_takeOver_125 : decode cX10_takeOver 125 = .ok (.iconst 1, 1) := by decide +kernel
theorem dX10_takeOver_126 : decode cX10_takeOver 126 = .ok (.iadd, 1) := by decide +kernel
theorem dX10_takeOver_127 : decode cX10_takeOver 127 = .ok (.iaload, 1) := by decide +kernel
theorem dX10_takeOver_128 : decode cX10_takeOver 128 = .ok (.iastore, 1) := by decide +kernel
theorem dX10_takeOver_129 : decode cX10_takeOver 129 = .ok (.aload_n 0, 1) := by decide +kernel
theorem dX10_takeOver_130 : decode cX10_takeOver 130 = .ok (.getfield 28, 3) := by decide +kernel
theorem dX10_takeOver_133 : decode cX10_takeOver 133 = .ok (.iload_n 1, 1) := by decide +kernel
theorem dX10_takeOver_134 : decode cX10_takeOver 134 = .ok (.aload_n 0, 1) := by decide +kernel
theorem dX10_takeOver_135 : decode cX10_takeOver 135 = .ok (.getfield 47, 3) := by decide +kernel
theorem dX10_takeOver_138 : decode cX10_takeOver 138 = .ok (.bipush 8, 2) := by decide +kernel
theorem dX10_takeOver_140 : decode cX10_takeOver 140 = .ok (.iconst 3, 1) := by decide +kernel
theorem dX10_takeOver_141 : decode cX10_takeOver 141 = .ok (.iload_n 1, 1) := by decide +kernel
theorem dX10_takeOver_142 : decode cX10_takeOver 142 = .ok (.imul, 1) := by decide +kernel
theorem dX10_takeOver_143 : decode cX10_takeOver 143 = .ok (.iadd, 1) := by decide +kernel
theorem dX10_takeOver_144 : decode cX10_takeOver 144 = .ok (.iconst 2, 1) := by decide +kernel
theorem dX10_takeOver_145 : decode cX10_takeOver 145 = .ok (.iadd, 1) := by decide +kernel
theorem dX10_takeOver_146 : decode cX10_takeOver 146 = .ok (.iaload, 1) := by decide +kernel
theorem dX10_takeOver_147 : decode cX10_takeOver 147 = .ok (.iastore, 1) := by decide +kernel
theorem dX10_takeOver_148 : decode cX10_takeOver 148 = .ok (.iinc 1 1, 3) := by decide +kernel
theorem dX10_takeOver_151 : decode cX10_takeOver 151 = .ok (.goto (-66), 3) := by decide +kernel
theorem dX10_takeOver_154 : decode cX10_takeOver 154 = .ok (.iconst 0, 1) := by decide +kernel
theorem dX10_takeOver_155 : decode cX10_takeOver 155 = .ok (.istore_n 1, 1) := by decide +kernel
theorem dX10_takeOver_156 : decode cX10_takeOver 156 = .ok (.iload_n 1, 1) := by decide +kernel
theorem dX10_takeOver_157 : decode cX10_takeOver 157 = .ok (.aload_n 0, 1) := by decide +kernel
theorem dX10_takeOver_158 : decode cX10_takeOver 158 = .ok (.getfield 212, 3) := by decide +kernel
theorem dX10_takeOver_161 : decode cX10_takeOver 161 = .ok (.if_icmp .ge 45, 3) := by decide +kernel
theorem dX10_takeOver_164 : decode cX10_takeOver 164 = .ok (.aload_n 0, 1) := by decide +kernel
theorem dX10_takeOver_165 : decode cX10_takeOver 165 = .ok (.getfield 31, 3) := by decide +kernel
theorem dX10_takeOver_168 : decode cX10_takeOver 168 = .ok (.iload_n 1, 1) := by decide +kernel
theorem dX10_takeOver_169 : decode cX10_takeOver 169 = .ok (.aload_n 0, 1) := by decide +kernel
theorem dX10_takeOver_170 : decode cX10_takeOver 170 = .ok (.getfield 47, 3) := by decide +kernel
theorem dX10_takeOver_173 : decode cX10_takeOver 173 = .ok (.bipush 32, 2) := by decide +kernel
theorem dX10_takeOver_175 : decode cX10_takeOver 175 = .ok (.iconst 2, 1) := by decide +kernel
theorem dX10_takeOver_176 : decode cX10_takeOver 176 = .ok (.iload_n 1, 1) := by decide +kernel
theorem dX10_takeOver_177 : decode cX10_takeOver 177 = .ok (.imul, 1) := by decide +kernel
theorem dX10_takeOver_178 : decode cX10_takeOver 178 = .ok (.iadd, 1) := by decide +kernel
theorem dX10_takeOver_179 : decode cX10_takeOver 179 = .ok (.iaload, 1) := by decide +kernel
theorem dX10_takeOver_180 : decode cX10_takeOver 180 = .ok (.iastore, 1) := by decide +kernel
theorem dX10_takeOver_181 : decode cX10_takeOver 181 = .ok (.aload_n 0, 1) := by decide +kernel
theorem dX10_takeOver_182 : decode cX10_takeOver 182 = .ok (.getfield 34, 3) := by decide +kernel
theorem dX10_takeOver_185 : decode cX10_takeOver 185 = .ok (.iload_n 1, 1) := by decide +kernel
theorem dX10_takeOver_186 : decode cX10_takeOver 186 = .ok (.aload_n 0, 1) := by decide +kernel
theorem dX10_takeOver_187 : decode cX10_takeOver 187 = .ok (.getfield 47, 3) := by decide +kernel
theorem dX10_takeOver_190 : decode cX10_takeOver 190 = .ok (.bipush 32, 2) := by decide +kernel
theorem dX10_takeOver_192 : decode cX10_takeOver 192 = .ok (.iconst 2, 1) := by decide +kernel
theorem dX10_takeOver_193 : decode cX10_takeOver 193 = .ok (.iload_n 1, 1) := by decide +kernel
theorem dX10_takeOver_194 : decode cX10_takeOver 194 = .ok (.imul, 1) := by decide +kernel
theorem dX10_takeOver_195 : decode cX10_takeOver 195 = .ok (.iadd, 1) := by decide +kernel
theorem dX10_takeOver_196 : decode cX10_takeOver 196 = .ok (.iconst 1, 1) := by decide +kernel
theorem dX10_takeOver_197 : decode cX10_takeOver 197 = .ok (.iadd, 1) := by decide +kernel
theorem dX10_takeOver_198 : decode cX10_takeOver 198 = .ok (.iaload, 1) := by decide +kernel
theorem dX10_takeOver_199 : decode cX10_takeOver 199 = .ok (.iastore, 1) := by decide +kernel
theorem dX10_takeOver_200 : decode cX10_takeOver 200 = .ok (.iinc 1 1, 3) := by decide +kernel
theorem dX10_takeOver_203 : decode cX10_takeOver 203 = .ok (.goto (-47), 3) := by decide +kernel
theorem dX10_takeOver_206 : decode cX10_takeOver 206 = .ok (.iconst 0, 1) := by decide +kernel
theorem dX10_takeOver_207 : decode cX10_takeOver 207 = .ok (.istore_n 1, 1) := by decide +kernel
theorem dX10_takeOver_208 : decode cX10_takeOver 208 = .ok (.iload_n 1, 1) := by decide +kernel
theorem dX10_takeOver_209 : decode cX10_takeOver 209 = .ok (.aload_n 0, 1) := by decide +kernel
theorem dX10_takeOver_210 : decode cX10_takeOver 210 = .ok (.getfield 215, 3) := by decide +kernel
theorem dX10_takeOver_213 : decode cX10_takeOver 213 = .ok (.if_icmp .ge 24, 3) := by decide +kernel
theorem dX10_takeOver_216 : decode cX10_takeOver 216 = .ok (.aload_n 0, 1) := by decide +kernel
theorem dX10_takeOver_217 : decode cX10_takeOver 217 = .ok (.getfield 37, 3) := by decide +kernel
theorem dX10_takeOver_220 : decode cX10_takeOver 220 = .ok (.iload_n 1, 1) := by decide +kernel
theorem dX10_takeOver_221 : decode cX10_takeOver 221 = .ok (.aload_n 0, 1) := by decide +kernel
theorem dX10_takeOver_222 : decode cX10_takeOver 222 = .ok (.getfield 47, 3) := by decide +kernel
theorem dX10_takeOver_225 : decode cX10_takeOver 225 = .ok (.bipush 44, 2) := by decide +kernel
theorem dX10_takeOver_227 : decode cX10_takeOver 227 = .ok (.iload_n 1, 1) := by decide +kernel
theorem dX10_takeOver_228 : decode cX10_takeOver 228 = .ok (.iadd, 1) := by decide +kernel
theorem dX10_takeOver_229 : decode cX10_takeOver 229 = .ok (.iaload, 1) := by decide +kernel
theorem dX10_takeOver_230 : decode cX10_takeOver 230 = .ok (.iastore, 1) := by decide +kernel
theorem dX10_takeOver_231 : decode cX10_takeOver 231 = .ok (.iinc 1 1, 3) := by decide +kernel
theorem dX10_takeOver_234 : decode cX10_takeOver 234 = .ok (.goto (-26), 3) := by decide +kernel
theorem dX10_takeOver_237 : decode cX10_takeOver 237 = .ok (.iconst 0, 1) := by decide +kernel
theorem dX10_takeOver_238 : decode cX10_takeOver 238 = .ok (.istore_n 1, 1) := by decide +kernel
theorem dX10_takeOver_239 : decode cX10_takeOver 239 = .ok (.iload_n 1, 1) := by decide +kernel
theorem dX10_takeOver_240 : decode cX10_takeOver 240 = .ok (.bipush 80, 2) := by decide +kernel
theorem dX10_takeOver_242 : decode cX10_takeOver 242 = .ok (.if_icmp .ge 16, 3) := by decide +kernel
theorem dX10_takeOver_245 : decode cX10_takeOver 245 = .ok (.aload_n 0, 1) := by decide +kernel
theorem dX10_takeOver_246 : decode cX10_takeOver 246 = .ok (.getfield 7, 3) := by decide +kernel
theorem dX10_takeOver_249 : decode cX10_takeOver 249 = .ok (.iload_n 1, 1) := by decide +kernel
theorem dX10_takeOver_250 : decode cX10_takeOver 250 = .ok (.iconst (-1), 1) := by decide +kernel
theorem dX10_takeOver_251 : decode cX10_takeOver 251 = .ok (.iastore, 1) := by decide +kernel
theorem dX10_takeOver_252 : decode cX10_takeOver 252 = .ok (.iinc 1 1, 3) := by decide +kernel
theorem dX10_takeOver_255 : decode cX10_takeOver 255 = .ok (.goto (-16), 3) := by decide +kernel
theorem dX10_takeOver_258 : decode cX10_takeOver 258 = .ok (.aload_n 0, 1) := by decide +kernel
theorem dX10_takeOver_259 : decode cX10_takeOver 259 = .ok (.iconst 0, 1) := by decide +kernel
theorem dX10_takeOver_260 : decode cX10_takeOver 260 = .ok (.putfield 218, 3) := by decide +kernel
theorem dX10_takeOver_263 : decode cX10_takeOver 263 = .ok (.return_, 1) := by decide +kernel
set_option maxRecDepth 20000 in
theorem bX10_takeOver_0 {G : Gx} {mm : Nat → Nat → Int32} {lm : Nat → Int64}  {o : Ou} {z : Wd} {a b : Nat} (hw : J G M_X10_takeOver 39 [(0, .ref 63), (1, .int 0)] [] (SH, (mset (mset (mset (mset (mset mm 63 3 1) 63 5 ((mset mm 63 3 1) 63 27)) 63 8 ((mset (mset mm 63 3 1) 63 5 ((mset mm 63 3 1) 63 27)) 63 28)) 63 12 ((mset (mset (mset mm 63 3 1) 63 5 ((mset mm 63 3 1) 63 27)) 63 8 ((mset (mset mm 63 3 1) 63 5 ((mset mm 63 3 1) 63 27)) 63 28)) 63 29)) 63 15 ((mset (mset (mset (mset mm 63 3 1) 63 5 ((mset mm 63 3 1) 63 27)) 63 8 ((mset (mset mm 63 3 1) 63 5 ((mset mm 63 3 1) 63 27)) 63 28)) 63 12 ((mset (mset (mset mm 63 3 1) 63 5 ((mset mm 63 3 1) 63 27)) 63 8 ((mset (mset mm 63 3 1) 63 5 ((mset mm 63 3 1) 63 27)) 63 28)) 63 29)) 63 30)), lm) false o z false a b) :
    J G M_X10_takeOver 0 [(0, .ref 63)] [] (SH, mm, lm) false o z false a b := by
  refine J_aload_n rfl (i := 0) rfl dX10_takeOver_0 ?_
  refine J_iconst (v := 1) (by decide) dX10_takeOver_1 ?_
  refine J_puti kls_10 (q := 63) (k := 3) sh_63 (by decide) rfl rfl (fun _ => rfl) (fun _ => rfl) gw_1436 dX10_takeOver_2 ?_
  refine J_aload_n rfl (i := 0) rfl dX10_takeOver_5 ?_
  refine J_aload_n rfl (i := 0) rfl dX10_takeOver_6 ?_
  refine J_geti kls_10 (q := 63) (k := 27) sh_63 (by decide) rfl gw_1460 dX10_takeOver_7 ?_
  refine J_puti kls_10 (q := 63) (k := 5) sh_63 (by decide) rfl rfl (fun _ => rfl) (fun _ => rfl) gw_1438 dX10_takeOver_10 ?_
  refine J_aload_n rfl (i := 0) rfl dX10_takeOver_13 ?_
  refine J_aload_n rfl (i := 0) rfl dX10_takeOver_14 ?_
  refine J_geti kls_10 (q := 63) (k := 28) sh_63 (by decide) rfl gw_1461 dX10_takeOver_15 ?_
  refine J_puti kls_10 (q := 63) (k := 8) sh_63 (by decide) rfl rfl (fun _ => rfl) (fun _ => rfl) gw_1441 dX10_takeOver_18 ?_
  refine J_aload_n rfl (i := 0) rfl dX10_takeOver_21 ?_
  refine J_aload_n rfl (i := 0) rfl dX10_takeOver_22 ?_
  refine J_geti kls_10 (q := 63) (k := 29) sh_63 (by decide) rfl gw_1462 dX10_takeOver_23 ?_
  refine J_puti kls_10 (q := 63) (k := 12) sh_63 (by decide) rfl rfl (fun _ => rfl) (fun _ => rfl) gw_1445 dX10_takeOver_26 ?_
  refine J_aload_n rfl (i := 0) rfl dX10_takeOver_29 ?_
  refine J_aload_n rfl (i := 0) rfl dX10_takeOver_30 ?_
  refine J_geti kls_10 (q := 63) (k := 30) sh_63 (by decide) rfl gw_1463 dX10_takeOver_31 ?_
  refine J_puti kls_10 (q := 63) (k := 15) sh_63 (by decide) rfl rfl (fun _ => rfl) (fun _ => rfl) gw_1448 dX10_takeOver_34 ?_
  refine J_iconst (v := 0) (by decide) dX10_takeOver_37 ?_
  refine J_istore_n [(1, .int 0), (0, .ref 63)] rfl (i := 1) (by decide) rfl dX10_takeOver_38 ?_
  exact J_sub [1, 0] rfl hw
set_option maxRecDepth 20000 in
theorem bX10_takeOver_39 {G : Gx} {mm : Nat → Nat → Int32} {lm : Nat → Int64} {x1 : Int32} {o : Ou} {z : Wd} {a b : Nat} (hw : (((mm 63 5) ≤ x1) → J G M_X10_takeOver 85 [(0, .ref 63), (1, .int 0)] [] (SH, mm, lm) false o z false a b) ∧ ((¬ (mm 63 5) ≤ x1) → ∃ j1 : Nat, (2 * x1) = nI j1 ∧ j1 < 64 ∧ ∃ j2 : Nat, x1 = nI j2 ∧ j2 < 4 ∧ ∃ j3 : Nat, ((2 * x1) + 1) = nI j3 ∧ j3 < 64 ∧ ∃ j4 : Nat, x1 = nI j4 ∧ j4 < 4 ∧ J G M_X10_takeOver 39 [(0, .ref 63), (1, .int (x1 + 1))] [] (SH, (mset (mset mm 66 j2 (mm 75 j1)) 67 j4 ((mset mm 66 j2 (mm 75 j1)) 75 j3)), lm) false o z false a b)) :
    J G M_X10_takeOver 39 [(0, .ref 63), (1, .int x1)] [] (SH, mm, lm) false o z false a b := by
  refine J_iload_n rfl (i := 1) rfl dX10_takeOver_39 ?_
  refine J_aload_n rfl (i := 0) rfl dX10_takeOver_40 ?_
  refine J_geti kls_10 (q := 63) (k := 5) sh_63 (by decide) rfl gw_1438 dX10_takeOver_41 ?_
  refine J_icmp_ge (tgt := 83) dX10_takeOver_44 (by decide) (fun hb5 => ?_) (fun hb5 => ?_)
  · replace hw := hw.1 hb5
    refine J_iconst (v := 0) (by decide) dX10_takeOver_83 ?_
    refine J_istore_n [(1, .int 0), (0, .ref 63)] rfl (i := 1) (by decide) rfl dX10_takeOver_84 ?_
    exact J_sub [1, 0] rfl hw
  · replace hw := hw.2 hb5
    refine J_aload_n rfl (i := 0) rfl dX10_takeOver_47 ?_
    refine J_getr kls_10 (q := 63) (k := 6) sh_63 (by decide) rfl gw_1439 dX10_takeOver_48 ?_
    refine J_iload_n rfl (i := 1) rfl dX10_takeOver_51 ?_
    refine J_aload_n rfl (i := 0) rfl dX10_takeOver_52 ?_
    refine J_getr kls_10 (q := 63) (k := 26) sh_63 (by decide) rfl gw_1459 dX10_takeOver_53 ?_
    refine J_iconst (v := 2) (by decide) dX10_takeOver_56 ?_
    refine J_iload_n rfl (i := 1) rfl dX10_takeOver_57 ?_
    refine J_imul dX10_takeOver_58 ?_
    obtain ⟨j1, ej1, hj1, hw⟩ := hw
    refine J_iald sh_75 ej1 hj1 (by decide) dX10_takeOver_59 ?_
    obtain ⟨j2, ej2, hj2, hw⟩ := hw
    refine J_iast sh_66 ej2 hj2 (by decide) dX10_takeOver_60 ?_
    refine J_aload_n rfl (i := 0) rfl dX10_takeOver_61 ?_
    refine J_getr kls_10 (q := 63) (k := 7) sh_63 (by decide) rfl gw_1440 dX10_takeOver_62 ?_
    refine J_iload_n rfl (i := 1) rfl dX10_takeOver_65 ?_
    refine J_aload_n rfl (i := 0) rfl dX10_takeOver_66 ?_
    refine J_getr kls_10 (q := 63) (k := 26) sh_63 (by decide) rfl gw_1459 dX10_takeOver_67 ?_
    refine J_iconst (v := 2) (by decide) dX10_takeOver_70 ?_
    refine J_iload_n rfl (i := 1) rfl dX10_takeOver_71 ?_
    refine J_imul dX10_takeOver_72 ?_
    refine J_iconst (v := 1) (by decide) dX10_takeOver_73 ?_
    refine J_iadd dX10_takeOver_74 ?_
    obtain ⟨j3, ej3, hj3, hw⟩ := hw
    refine J_iald sh_75 ej3 hj3 (by decide) dX10_takeOver_75 ?_
    obtain ⟨j4, ej4, hj4, hw⟩ := hw
    refine J_iast sh_67 ej4 hj4 (by decide) dX10_takeOver_76 ?_
    refine J_iinc [(1, .int (x1 + 1)), (0, .ref 63)] (i := 1) (v := (x1 + 1)) rfl rfl (by decide) rfl dX10_takeOver_77 ?_
    refine J_goto (tgt := 39) dX10_takeOver_80 (by decide) ?_
    exact J_sub [1, 0] rfl hw
set_option maxRecDepth 20000 in
theorem bX10_takeOver_85 {G : Gx} {mm : Nat → Nat → Int32} {lm : Nat → Int64} {x1 : Int32} {o : Ou} {z : Wd} {a b : Nat} (hw : (((mm 63 8) ≤ x1) → J G M_X10_takeOver 156 [(0, .ref 63), (1, .int 0)] [] (SH, mm, lm) false o z false a b) ∧ ((¬ (mm 63 8) ≤ x1) → ∃ j1 : Nat, (8 + (3 * x1)) = nI j1 ∧ j1 < 64 ∧ ∃ j2 : Nat, x1 = nI j2 ∧ j2 < 8 ∧ ∃ j3 : Nat, ((8 + (3 * x1)) + 1) = nI j3 ∧ j3 < 64 ∧ ∃ j4 : Nat, x1 = nI j4 ∧ j4 < 8 ∧ ∃ j5 : Nat, ((8 + (3 * x1)) + 2) = nI j5 ∧ j5 < 64 ∧ ∃ j6 : Nat, x1 = nI j6 ∧ j6 < 8 ∧ J G M_X10_takeOver 85 [(0, .ref 63), (1, .int (x1 + 1))] [] (SH, (mset (mset (mset mm 68 j2 (mm 75 j1)) 69 j4 ((mset mm 68 j2 (mm 75 j1)) 75 j3)) 70 j6 ((mset (mset mm 68 j2 (mm 75 j1)) 69 j4 ((mset mm 68 j2 (mm 75 j1)) 75 j3)) 75 j5)), lm) false o z false a b)) :
    J G M_X10_takeOver 85 [(0, .ref 63), (1, .int x1)] [] (SH, mm, lm) false o z false a b := by
  refine J_iload_n rfl (i := 1) rfl dX10_takeOver_85 ?_
  refine J_aload_n rfl (i := 0) rfl dX10_takeOver_86 ?_
  refine J_geti kls_10 (q := 63) (k := 8) sh_63 (by decide) rfl gw_1441 dX10_takeOver_87 ?_
  refine J_icmp_ge (tgt := 154) dX10_takeOver_90 (by decide) (fun hb7 => ?_) (fun hb7 => ?_)
  · replace hw := hw.1 hb7
    refine J_iconst (v := 0) (by decide) dX10_takeOver_154 ?_
    refine J_istore_n [(1, .int 0), (0, .ref 63)] rfl (i := 1) (by decide) rfl dX10_takeOver_155 ?_
    exact J_sub [1, 0] rfl hw
  · replace hw := hw.2 hb7
    refine J_aload_n rfl (i := 0) rfl dX10_takeOver_93 ?_
    refine J_getr kls_10 (q := 63) (k := 9) sh_63 (by decide) rfl gw_1442 dX10_takeOver_94 ?_
    refine J_iload_n rfl (i := 1) rfl dX10_takeOver_97 ?_
    refine J_aload_n rfl (i := 0) rfl dX10_takeOver_98 ?_
    refine J_getr kls_10 (q := 63) (k := 26) sh_63 (by decide) rfl gw_1459 dX10_takeOver_99 ?_
    refine J_bipush (v := 8) (by decide) dX10_takeOver_102 ?_
    refine J_iconst (v := 3) (by decide) dX10_takeOver_104 ?_
    refine J_iload_n rfl (i := 1) rfl dX10_takeOver_105 ?_
    refine J_imul dX10_takeOver_106 ?_
    refine J_iadd dX10_takeOver_107 ?_
    obtain ⟨j1, ej1, hj1, hw⟩ := hw
    refine J_iald sh_75 ej1 hj1 (by decide) dX10_takeOver_108 ?_
    obtain ⟨j2, ej2, hj2, hw⟩ := hw
    refine J_iast sh_68 ej2 hj2 (by decide) dX10_takeOver_109 ?_
    refine J_aload_n rfl (i := 0) rfl dX10_takeOver_110 ?_
    refine J_getr kls_10 (q := 63) (k := 10) sh_63 (by decide) rfl gw_1443 dX10_takeOver_111 ?_
    refine J_iload_n rfl (i := 1) rfl dX10_takeOver_114 ?_
    refine J_aload_n rfl (i := 0) rfl dX10_takeOver_115 ?_
    refine J_getr kls_10 (q := 63) (k := 26) sh_63 (by decide) rfl gw_1459 dX10_takeOver_116 ?_
    refine J_bipush (v := 8) (by decide) dX10_takeOver_119 ?_
    refine J_iconst (v := 3) (by decide) dX10_takeOver_121 ?_
    refine J_iload_n rfl (i := 1) rfl dX10_takeOver_122 ?_
    refine J_imul dX10_takeOver_123 ?_
    refine J_iadd dX10_takeOver_124 ?_
    refine J_iconst (v := 1) (by decide) dX10_takeOver_125 ?_
    refine J_iadd dX10_takeOver_126 ?_
    obtain ⟨j3, ej3, hj3, hw⟩ := hw
    refine J_iald sh_75 ej3 hj3 (by decide) dX10_takeOver_127 ?_
    obtain ⟨j4, ej4, hj4, hw⟩ := hw
    refine J_iast sh_69 ej4 hj4 (by decide) dX10_takeOver_128 ?_
    refine J_aload_n rfl (i := 0) rfl dX10_takeOver_129 ?_
    refine J_getr kls_10 (q := 63) (k := 11) sh_63 (by decide) rfl gw_1444 dX10_takeOver_130 ?_
    refine J_iload_n rfl (i := 1) rfl dX10_takeOver_133 ?_
    refine J_aload_n rfl (i := 0) rfl dX10_takeOver_134 ?_
    refine J_getr kls_10 (q := 63) (k := 26) sh_63 (by decide) rfl gw_1459 dX10_takeOver_135 ?_
    refine J_bipush (v := 8) (by decide) dX10_takeOver_138 ?_
    refine J_iconst (v := 3) (by decide) dX10_takeOver_140 ?_
    refine J_iload_n rfl (i := 1) rfl dX10_takeOver_141 ?_
    refine J_imul dX10_takeOver_142 ?_
    refine J_iadd dX10_takeOver_143 ?_
    refine J_iconst (v := 2) (by decide) dX10_takeOver_144 ?_
    refine J_iadd dX10_takeOver_145 ?_
    obtain ⟨j5, ej5, hj5, hw⟩ := hw
    refine J_iald sh_75 ej5 hj5 (by decide) dX10_takeOver_146 ?_
    obtain ⟨j6, ej6, hj6, hw⟩ := hw
    refine J_iast sh_70 ej6 hj6 (by decide) dX10_takeOver_147 ?_
    refine J_iinc [(1, .int (x1 + 1)), (0, .ref 63)] (i := 1) (v := (x1 + 1)) rfl rfl (by decide) rfl dX10_takeOver_148 ?_
    refine J_goto (tgt := 85) dX10_takeOver_151 (by decide) ?_
    exact J_sub [1, 0] rfl hw
set_option maxRecDepth 20000 in
theorem bX10_takeOver_156 {G : Gx} {mm : Nat → Nat → Int32} {lm : Nat → Int64} {x1 : Int32} {o : Ou} {z : Wd} {a b : Nat} (hw : (((mm 63 12) ≤ x1) → J G M_X10_takeOver 208 [(0, .ref 63), (1, .int 0)] [] (SH, mm, lm) false o z false a b) ∧ ((¬ (mm 63 12) ≤ x1) → ∃ j1 : Nat, (32 + (2 * x1)) = nI j1 ∧ j1 < 64 ∧ ∃ j2 : Nat, x1 = nI j2 ∧ j2 < 6 ∧ ∃ j3 : Nat, ((32 + (2 * x1)) + 1) = nI j3 ∧ j3 < 64 ∧ ∃ j4 : Nat, x1 = nI j4 ∧ j4 < 6 ∧ J G M_X10_takeOver 156 [(0, .ref 63), (1, .int (x1 + 1))] [] (SH, (mset (mset mm 71 j2 (mm 75 j1)) 72 j4 ((mset mm 71 j2 (mm 75 j1)) 75 j3)), lm) false o z false a b)) :
    J G M_X10_takeOver 156 [(0, .ref 63), (1, .int x1)] [] (SH, mm, lm) false o z false a b := by
  refine J_iload_n rfl (i := 1) rfl dX10_takeOver_156 ?_
  refine J_aload_n rfl (i := 0) rfl dX10_takeOver_157 ?_
  refine J_geti kls_10 (q := 63) (k := 12) sh_63 (by decide) rfl gw_1445 dX10_takeOver_158 ?_
  refine J_icmp_ge (tgt := 206) dX10_takeOver_161 (by decide) (fun hb5 => ?_) (fun hb5 => ?_)
  · replace hw := hw.1 hb5
    refine J_iconst (v := 0) (by decide) dX10_takeOver_206 ?_
    refine J_istore_n [(1, .int 0), (0, .ref 63)] rfl (i := 1) (by decide) rfl dX10_takeOver_207 ?_
    exact J_sub [1, 0] rfl hw
  · replace hw := hw.2 hb5
    refine J_aload_n rfl (i := 0) rfl dX10_takeOver_164 ?_
    refine J_getr kls_10 (q := 63) (k := 13) sh_63 (by decide) rfl gw_1446 dX10_takeOver_165 ?_
    refine J_iload_n rfl (i := 1) rfl dX10_takeOver_168 ?_
    refine J_aload_n rfl (i := 0) rfl dX10_takeOver_169 ?_
    refine J_getr kls_10 (q := 63) (k := 26) sh_63 (by decide) rfl gw_1459 dX10_takeOver_170 ?_
    refine J_bipush (v := 32) (by decide) dX10_takeOver_173 ?_
    refine J_iconst (v := 2) (by decide) dX10_takeOver_175 ?_
    refine J_iload_n rfl (i := 1) rfl dX10_takeOver_176 ?_
    refine J_imul dX10_takeOver_177 ?_
    refine J_iadd dX10_takeOver_178 ?_
    obtain ⟨j1, ej1, hj1, hw⟩ := hw
    refine J_iald sh_75 ej1 hj1 (by decide) dX10_takeOver_179 ?_
    obtain ⟨j2, ej2, hj2, hw⟩ := hw
    refine J_iast sh_71 ej2 hj2 (by decide) dX10_takeOver_180 ?_
    refine J_aload_n rfl (i := 0) rfl dX10_takeOver_181 ?_
    refine J_getr kls_10 (q := 63) (k := 14) sh_63 (by decide) rfl gw_1447 dX10_takeOver_182 ?_
    refine J_iload_n rfl (i := 1) rfl dX10_takeOver_185 ?_
    refine J_aload_n rfl (i := 0) rfl dX10_takeOver_186 ?_
    refine J_getr kls_10 (q := 63) (k := 26) sh_63 (by decide) rfl gw_1459 dX10_takeOver_187 ?_
    refine J_bipush (v := 32) (by decide) dX10_takeOver_190 ?_
    refine J_iconst (v := 2) (by decide) dX10_takeOver_192 ?_
    refine J_iload_n rfl (i := 1) rfl dX10_takeOver_193 ?_
    refine J_imul dX10_takeOver_194 ?_
    refine J_iadd dX10_takeOver_195 ?_
    refine J_iconst (v := 1) (by decide) dX10_takeOver_196 ?_
    refine J_iadd dX10_takeOver_197 ?_
    obtain ⟨j3, ej3, hj3, hw⟩ := hw
    refine J_iald sh_75 ej3 hj3 (by decide) dX10_takeOver_198 ?_
    obtain ⟨j4, ej4, hj4, hw⟩ := hw
    refine J_iast sh_72 ej4 hj4 (by decide) dX10_takeOver_199 ?_
    refine J_iinc [(1, .int (x1 + 1)), (0, .ref 63)] (i := 1) (v := (x1 + 1)) rfl rfl (by decide) rfl dX10_takeOver_200 ?_
    refine J_goto (tgt := 156) dX10_takeOver_203 (by decide) ?_
    exact J_sub [1, 0] rfl hw
set_option maxRecDepth 20000 in
theorem bX10_takeOver_208 {G : Gx} {mm : Nat → Nat → Int32} {lm : Nat → Int64} {x1 : Int32} {o : Ou} {z : Wd} {a b : Nat} (hw : (((mm 63 15) ≤ x1) → J G M_X10_takeOver 239 [(0, .ref 63), (1, .int 0)] [] (SH, mm, lm) false o z false a b) ∧ ((¬ (mm 63 15) ≤ x1) → ∃ j1 : Nat, (44 + x1) = nI j1 ∧ j1 < 64 ∧ ∃ j2 : Nat, x1 = nI j2 ∧ j2 < 8 ∧ J G M_X10_takeOver 208 [(0, .ref 63), (1, .int (x1 + 1))] [] (SH, (mset mm 73 j2 (mm 75 j1)), lm) false o z false a b)) :
    J G M_X10_takeOver 208 [(0, .ref 63), (1, .int x1)] [] (SH, mm, lm) false o z false a b := by
  refine J_iload_n rfl (i := 1) rfl dX10_takeOver_208 ?_
  refine J_aload_n rfl (i := 0) rfl dX10_takeOver_209 ?_
  refine J_geti kls_10 (q := 63) (k := 15) sh_63 (by decide) rfl gw_1448 dX10_takeOver_210 ?_
  refine J_icmp_ge (tgt := 237) dX10_takeOver_213 (by decide) (fun hb3 => ?_) (fun hb3 => ?_)
  · replace hw := hw.1 hb3
    refine J_iconst (v := 0) (by decide) dX10_takeOver_237 ?_
    refine J_istore_n [(1, .int 0), (0, .ref 63)] rfl (i := 1) (by decide) rfl dX10_takeOver_238 ?_
    exact J_sub [1, 0] rfl hw
  · replace hw := hw.2 hb3
    refine J_aload_n rfl (i := 0) rfl dX10_takeOver_216 ?_
    refine J_getr kls_10 (q := 63) (k := 16) sh_63 (by decide) rfl gw_1449 dX10_takeOver_217 ?_
    refine J_iload_n rfl (i := 1) rfl dX10_takeOver_220 ?_
    refine J_aload_n rfl (i := 0) rfl dX10_takeOver_221 ?_
    refine J_getr kls_10 (q := 63) (k := 26) sh_63 (by decide) rfl gw_1459 dX10_takeOver_222 ?_
    refine J_bipush (v := 44) (by decide) dX10_takeOver_225 ?_
    refine J_iload_n rfl (i := 1) rfl dX10_takeOver_227 ?_
    refine J_iadd dX10_takeOver_228 ?_
    obtain ⟨j1, ej1, hj1, hw⟩ := hw
    refine J_iald sh_75 ej1 hj1 (by decide) dX10_takeOver_229 ?_
    obtain ⟨j2, ej2, hj2, hw⟩ := hw
    refine J_iast sh_73 ej2 hj2 (by decide) dX10_takeOver_230 ?_
    refine J_iinc [(1, .int (x1 + 1)), (0, .ref 63)] (i := 1) (v := (x1 + 1)) rfl rfl (by decide) rfl dX10_takeOver_231 ?_
    refine J_goto (tgt := 208) dX10_takeOver_234 (by decide) ?_
    exact J_sub [1, 0] rfl hw
set_option maxRecDepth 20000 in
theorem bX10_takeOver_239 {G : Gx} {mm : Nat → Nat → Int32} {lm : Nat → Int64} {x1 : Int32} {o : Ou} {z : Wd} {a b : Nat} (hw : ((80 ≤ x1) → o = .inl none ∧ z = (SH, (mset mm 63 2 0), lm)) ∧ ((¬ 80 ≤ x1) → ∃ j1 : Nat, x1 = nI j1 ∧ j1 < 80 ∧ J G M_X10_takeOver 239 [(0, .ref 63), (1, .int (x1 + 1))] [] (SH, (mset mm 64 j1 (-1)), lm) false o z false a b)) :
    J G M_X10_takeOver 239 [(0, .ref 63), (1, .int x1)] [] (SH, mm, lm) false o z false a b := by
  refine J_iload_n rfl (i := 1) rfl dX10_takeOver_239 ?_
  refine J_bipush (v := 80) (by decide) dX10_takeOver_240 ?_
  refine J_icmp_ge (tgt := 258) dX10_takeOver_242 (by decide) (fun hb2 => ?_) (fun hb2 => ?_)
  · replace hw := hw.1 hb2
    refine J_aload_n rfl (i := 0) rfl dX10_takeOver_258 ?_
    refine J_iconst (v := 0) (by decide) dX10_takeOver_259 ?_
    refine J_puti kls_10 (q := 63) (k := 2) sh_63 (by decide) rfl rfl (fun _ => rfl) (fun _ => rfl) gw_1435 dX10_takeOver_260 ?_
    exact J_finv rfl dX10_takeOver_263 hw
  · replace hw := hw.2 hb2
    refine J_aload_n rfl (i := 0) rfl dX10_takeOver_245 ?_
    refine J_getr kls_10 (q := 63) (k := 0) sh_63 (by decide) rfl gw_1433 dX10_takeOver_246 ?_
    refine J_iload_n rfl (i := 1) rfl dX10_takeOver_249 ?_
    refine J_iconst (v := (-1)) (by decide) dX10_takeOver_250 ?_
    obtain ⟨j1, ej1, hj1, hw⟩ := hw
    refine J_iast sh_64 ej1 hj1 (by decide) dX10_takeOver_251 ?_
    refine J_iinc [(1, .int (x1 + 1)), (0, .ref 63)] (i := 1) (v := (x1 + 1)) rfl rfl (by decide) rfl dX10_takeOver_252 ?_
    refine J_goto (tgt := 239) dX10_takeOver_255 (by decide) ?_
    exact J_sub [1, 0] rfl hw
theorem dX10_errorPosition_0 : decode cX10_errorPosition 0 = .ok (.aload_n 0, 1) := by decide +kernel
theorem dX10_errorPosition_1 : decode cX10_errorPosition 1 = .ok (.iconst 0, 1) := by decide +kernel
theorem dX10_errorPosition_2 : decode cX10_errorPosition 2 = .ok (.putfield 77, 3) := by decide +kernel
theorem dX10_errorPosition_5 : decode cX10_errorPosition 5 = .ok (.aload_n 0, 1) := by decide +kernel
theorem dX10_errorPosition_6 : decode cX10_errorPosition 6 = .ok (.getfield 43, 3) := by decide +kernel
theorem dX10_errorPosition_9 : decode cX10_errorPosition 9 = .ok (.ireturn, 1) := by decide +kernel
set_option maxRecDepth 20000 in
theorem bX10_errorPosition_0 {G : Gx} {mm : Nat → Nat → Int32} {lm : Nat → Int64}  {o : Ou} {z : Wd} {a b : Nat} (hw : o = .inl (some (.int ((mset mm 63 4 0) 63 25))) ∧ z = (SH, (mset mm 63 4 0), lm)) :
    J G M_X10_errorPosition 0 [(0, .ref 63)] [] (SH, mm, lm) false o z false a b := by
  refine J_aload_n rfl (i := 0) rfl dX10_errorPosition_0 ?_
  refine J_iconst (v := 0) (by decide) dX10_errorPosition_1 ?_
  refine J_puti kls_10 (q := 63) (k := 4) sh_63 (by decide) rfl rfl (fun _ => rfl) (fun _ => rfl) gw_1437 dX10_errorPosition_2 ?_
  refine J_aload_n rfl (i := 0) rfl dX10_errorPosition_5 ?_
  refine J_geti kls_10 (q := 63) (k := 25) sh_63 (by decide) rfl gw_1458 dX10_errorPosition_6 ?_
  exact J_fini (ty := .int) rfl rfl dX10_errorPosition_9 hw
theorem dX10_remember_0 : decode cX10_remember 0 = .ok (.aload_n 0, 1) := by decide +kernel
theorem dX10_remember_1 : decode cX10_remember 1 = .ok (.getfield 218, 3) := by decide +kernel
theorem dX10_remember_4 : decode cX10_remember 4 = .ok (.bipush 12, 2) := by decide +kernel
theorem dX10_remember_6 : decode cX10_remember 6 = .ok (.if_icmp .ne 44, 3) := by decide +kernel
theorem dX10_remember_9 : decode cX10_remember 9 = .ok (.bipush 80, 2) := by decide +kernel
theorem dX10_remember_11 : decode cX10_remember 11 = .ok (.istore_n 1, 1) := by decide +kernel
theorem dX10_remember_12 : decode cX10_remember 12 = .ok (.iload_n 1, 1) := by decide +kernel
theorem dX10_remember_13 : decode cX10_remember 13 = .ok (.sipush 960, 3) := by decide +kernel
theorem dX10_remember_16 : decode cX10_remember 16 = .ok (.if_icmp .ge 24, 3) := by decide +kernel
theorem dX10_remember_19 : decode cX10_remember 19 = .ok (.aload_n 0, 1) := by decide +kernel
theorem dX10_remember_20 : decode cX10_remember 20 = .ok (.getfield 13, 3) := by decide +kernel
theorem dX10_remember_23 : decode cX10_remember 23 = .ok (.iload_n 1, 1) := by decide +kernel
theorem dX10_remember_24 : decode cX10_remember 24 = .ok (.bipush 80, 2) := by decide +kernel
theorem dX10_remember_26 : decode cX10_remember 26 = .ok (.isub, 1) := by decide +kernel
theorem dX10_remember_27 : decode cX10_remember 27 = .ok (.aload_n 0, 1) := by decide +kernel
theorem dX10_remember_28 : decode cX10_remember 28 = .ok (.getfield 13, 3) := by decide +kernel
theorem dX10_remember_31 : decode cX10_remember 31 = .ok (.iload_n 1, 1) := by decide +kernel
theorem dX10_remember_32 : decode cX10_remember 32 = .ok (.iaload, 1) := by decide +kernel
theorem dX10_remember_33 : decode cX10_remember 33 = .ok (.iastore, 1) := by decide +kernel
theorem dX10_remember_34 : decode cX10_remember 34 = .ok (.iinc 1 1, 3) := by decide +kernel
theorem dX10_remember_37 : decode cX10_remember 37 = .ok (.goto (-25), 3) := by decide +kernel
theorem dX10_remember_40 : decode cX10_remember 40 = .ok (.aload_n 0, 1) := by decide +kernel
theorem dX10_remember_41 : decode cX10_remember 41 = .ok (.dup, 1) := by decide +kernel
theorem dX10_remember_42 : decode cX10_remember 42 = .ok (.getfield 218, 3) := by decide +kernel
theorem dX10_remember_45 : decode cX10_remember 45 = .ok (.iconst 1, 1) := by decide +kernel
theorem dX10_remember_46 : decode cX10_remember 46 = .ok (.isub, 1) := by decide +kernel
theorem dX10_remember_47 : decode cX10_remember 47 = .ok (.putfield 218, 3) := by decide +kernel
theorem dX10_remember_50 : decode cX10_remember 50 = .ok (.iconst 0, 1) := by decide +kernel
theorem dX10_remember_51 : decode cX10_remember 51 = .ok (.istore_n 1, 1) := by decide +kernel
theorem dX10_remember_52 : decode cX10_remember 52 = .ok (.iload_n 1, 1) := by decide +kernel
theorem dX10_remember_53 : decode cX10_remember 53 = .ok (.bipush 80, 2) := by decide +kernel
theorem dX10_remember_55 : decode cX10_remember 55 = .ok (.if_icmp .ge 29, 3) := by decide +kernel
theorem dX10_remember_58 : decode cX10_remember 58 = .ok (.aload_n 0, 1) := by decide +kernel
theorem dX10_remember_59 : decode cX10_remember 59 = .ok (.getfield 13, 3) := by decide +kernel
theorem dX10_remember_62 : decode cX10_remember 62 = .ok (.bipush 80, 2) := by decide +kernel
theorem dX10_remember_64 : decode cX10_remember 64 = .ok (.aload_n 0, 1) := by decide +kernel
theorem dX10_remember_65 : decode cX10_remember 65 = .ok (.getfield 218, 3) := by decide +kernel
theorem dX10_remember_68 : decode cX10_remember 68 = .ok (.imul, 1) := by decide +kernel
theorem dX10_remember_69 : decode cX10_remember 69 = .ok (.iload_n 1, 1) := by decide +kernel
theorem dX10_remember_70 : decode cX10_remember 70 = .ok (.iadd, 1) := by decide +kernel
theorem dX10_remember_71 : decode cX10_remember 71 = .ok (.aload_n 0, 1) := by decide +kernel
theorem dX10_remember_72 : decode cX10_remember 72 = .ok (.getfield 7, 3) := by decide +kernel
theorem dX10_remember_75 : decode cX10_remember 75 = .ok (.iload_n 1, 1) := by decide +kernel
theorem dX10_remember_76 : decode cX10_remember 76 = .ok (.iaload, 1) := by decide +kernel
theorem dX10_remember_77 : decode cX10_remember 77 = .ok (.iastore, 1) := by decide +kernel
theorem dX10_remember_78 : decode cX10_remember 78 = .ok (.iinc 1 1, 3) := by decide +kernel
theorem dX10_remember_81 : decode cX10_remember 81 = .ok (.goto (-29), 3) := by decide +kernel
theorem dX10_remember_84 : decode cX10_remember 84 = .ok (.aload_n 0, 1) := by decide +kernel
theorem dX10_remember_85 : decode cX10_remember 85 = .ok (.dup, 1) := by decide +kernel
theorem dX10_remember_86 : decode cX10_remember 86 = .ok (.getfield 218, 3) := by decide +kernel
theorem dX10_remember_89 : decode cX10_remember 89 = .ok (.iconst 1, 1) := by decide +kernel
theorem dX10_remember_90 : decode cX10_remember 90 = .ok (.iadd, 1) := by decide +kernel
theorem dX10_remember_91 : decode cX10_remember 91 = .ok (.putfield 218, 3) := by decide +kernel
theorem dX10_remember_94 : decode cX10_remember 94 = .ok (.return_, 1) := by decide +kernel
set_option maxRecDepth 20000 in
theorem bX10_remember_0 {G : Gx} {mm : Nat → Nat → Int32} {lm : Nat → Int64}  {o : Ou} {z : Wd} {a b : Nat} (hw : ((¬ (mm 63 2) = 12) → J G M_X10_remember 52 [(0, .ref 63), (1, .int 0)] [] (SH, mm, lm) false o z false a b) ∧ (((mm 63 2) = 12) → J G M_X10_remember 12 [(0, .ref 63), (1, .int 80)] [] (SH, mm, lm) false o z false a b)) :
    J G M_X10_remember 0 [(0, .ref 63)] [] (SH, mm, lm) false o z false a b := by
  refine J_aload_n rfl (i := 0) rfl dX10_remember_0 ?_
  refine J_geti kls_10 (q := 63) (k := 2) sh_63 (by decide) rfl gw_1435 dX10_remember_1 ?_
  refine J_bipush (v := 12) (by decide) dX10_remember_4 ?_
  refine J_icmp_ne (tgt := 50) dX10_remember_6 (by decide) (fun hb1 => ?_) (fun hb1 => ?_)
  · replace hw := hw.1 hb1
    refine J_iconst (v := 0) (by decide) dX10_remember_50 ?_
    refine J_istore_n [(1, .int 0), (0, .ref 63)] rfl (i := 1) (by decide) rfl dX10_remember_51 ?_
    exact J_sub [1, 0] rfl hw
  · replace hw := hw.2 hb1
    refine J_bipush (v := 80) (by decide) dX10_remember_9 ?_
    refine J_istore_n [(1, .int 80), (0, .ref 63)] rfl (i := 1) (by decide) rfl dX10_remember_11 ?_
    exact J_sub [1, 0] rfl hw
set_option maxRecDepth 20000 in
theorem bX10_remember_12 {G : Gx} {mm : Nat → Nat → Int32} {lm : Nat → Int64} {x1 : Int32} {o : Ou} {z : Wd} {a b : Nat} (hw : ((960 ≤ x1) → J G M_X10_remember 52 [(0, .ref 63), (1, .int 0)] [] (SH, (mset mm 63 2 ((mm 63 2) - 1)), lm) false o z false a b) ∧ ((¬ 960 ≤ x1) → ∃ j1 : Nat, x1 = nI j1 ∧ j1 < 960 ∧ ∃ j2 : Nat, (x1 - 80) = nI j2 ∧ j2 < 960 ∧ J G M_X10_remember 12 [(0, .ref 63), (1, .int (x1 + 1))] [] (SH, (mset mm 65 j2 (mm 65 j1)), lm) false o z false a b)) :
    J G M_X10_remember 12 [(0, .ref 63), (1, .int x1)] [] (SH, mm, lm) false o z false a b := by
  refine J_iload_n rfl (i := 1) rfl dX10_remember_12 ?_
  refine J_sipush (v := 960) (by decide) dX10_remember_13 ?_
  refine J_icmp_ge (tgt := 40) dX10_remember_16 (by decide) (fun hb3 => ?_) (fun hb3 => ?_)
  · replace hw := hw.1 hb3
    refine J_aload_n rfl (i := 0) rfl dX10_remember_40 ?_
    refine J_dupr dX10_remember_41 ?_
    refine J_geti kls_10 (q := 63) (k := 2) sh_63 (by decide) rfl gw_1435 dX10_remember_42 ?_
    refine J_iconst (v := 1) (by decide) dX10_remember_45 ?_
    refine J_isub dX10_remember_46 ?_
    refine J_puti kls_10 (q := 63) (k := 2) sh_63 (by decide) rfl rfl (fun _ => rfl) (fun _ => rfl) gw_1435 dX10_remember_47 ?_
    refine J_iconst (v := 0) (by decide) dX10_remember_50 ?_
    refine J_istore_n [(1, .int 0), (0, .ref 63)] rfl (i := 1) (by decide) rfl dX10_remember_51 ?_
    exact J_sub [1, 0] rfl hw
  · replace hw := hw.2 hb3
    refine J_aload_n rfl (i := 0) rfl dX10_remember_19 ?_
    refine J_getr kls_10 (q := 63) (k := 1) sh_63 (by decide) rfl gw_1434 dX10_remember_20 ?_
    refine J_iload_n rfl (i := 1) rfl dX10_remember_23 ?_
    refine J_bipush (v := 80) (by decide) dX10_remember_24 ?_
    refine J_isub dX10_remember_26 ?_
    refine J_aload_n rfl (i := 0) rfl dX10_remember_27 ?_
    refine J_getr kls_10 (q := 63) (k := 1) sh_63 (by decide) rfl gw_1434 dX10_remember_28 ?_
    refine J_iload_n rfl (i := 1) rfl dX10_remember_31 ?_
    obtain ⟨j1, ej1, hj1, hw⟩ := hw
    refine J_iald sh_65 ej1 hj1 (by decide) dX10_remember_32 ?_
    obtain ⟨j2, ej2, hj2, hw⟩ := hw
    refine J_iast sh_65 ej2 hj2 (by decide) dX10_remember_33 ?_
    refine J_iinc [(1, .int (x1 + 1)), (0, .ref 63)] (i := 1) (v := (x1 + 1)) rfl rfl (by decide) rfl dX10_remember_34 ?_
    refine J_goto (tgt := 12) dX10_remember_37 (by decide) ?_
    exact J_sub [1, 0] rfl hw
set_option maxRecDepth 20000 in
theorem bX10_remember_52 {G : Gx} {mm : Nat → Nat → Int32} {lm : Nat → Int64} {x1 : Int32} {o : Ou} {z : Wd} {a b : Nat} (hw : ((80 ≤ x1) → o = .inl none ∧ z = (SH, (mset mm 63 2 ((mm 63 2) + 1)), lm)) ∧ ((¬ 80 ≤ x1) → ∃ j1 : Nat, x1 = nI j1 ∧ j1 < 80 ∧ ∃ j2 : Nat, ((80 * (mm 63 2)) + x1) = nI j2 ∧ j2 < 960 ∧ J G M_X10_remember 52 [(0, .ref 63), (1, .int (x1 + 1))] [] (SH, (mset mm 65 j2 (mm 64 j1)), lm) false o z false a b)) :
    J G M_X10_remember 52 [(0, .ref 63), (1, .int x1)] [] (SH, mm, lm) false o z false a b := by
  refine J_iload_n rfl (i := 1) rfl dX10_remember_52 ?_
  refine J_bipush (v := 80) (by decide) dX10_remember_53 ?_
  refine J_icmp_ge (tgt := 84) dX10_remember_55 (by decide) (fun hb3 => ?_) (fun hb3 => ?_)
  · replace hw := hw.1 hb3
    refine J_aload_n rfl (i := 0) rfl dX10_remember_84 ?_
    refine J_dupr dX10_remember_85 ?_
    refine J_geti kls_10 (q := 63) (k := 2) sh_63 (by decide) rfl gw_1435 dX10_remember_86 ?_
    refine J_iconst (v := 1) (by decide) dX10_remember_89 ?_
    refine J_iadd dX10_remember_90 ?_
    refine J_puti kls_10 (q := 63) (k := 2) sh_63 (by decide) rfl rfl (fun _ => rfl) (fun _ => rfl) gw_1435 dX10_remember_91 ?_
    exact J_finv rfl dX10_remember_94 hw
  · replace hw := hw.2 hb3
    refine J_aload_n rfl (i := 0) rfl dX10_remember_58 ?_
    refine J_getr kls_10 (q := 63) (k := 1) sh_63 (by decide) rfl gw_1434 dX10_remember_59 ?_
    refine J_bipush (v := 80) (by decide) dX10_remember_62 ?_
    refine J_aload_n rfl (i := 0) rfl dX10_remember_64 ?_
    refine J_geti kls_10 (q := 63) (k := 2) sh_63 (by decide) rfl gw_1435 dX10_remember_65 ?_
    refine J_imul dX10_remember_68 ?_
    refine J_iload_n rfl (i := 1) rfl dX10_remember_69 ?_
    refine J_iadd dX10_remember_70 ?_
    refine J_aload_n rfl (i := 0) rfl dX10_remember_71 ?_
    refine J_getr kls_10 (q := 63) (k := 0) sh_63 (by decide) rfl gw_1433 dX10_remember_72 ?_
    refine J_iload_n rfl (i := 1) rfl dX10_remember_75 ?_
    obtain ⟨j1, ej1, hj1, hw⟩ := hw
    refine J_iald sh_64 ej1 hj1 (by decide) dX10_remember_76 ?_
    obtain ⟨j2, ej2, hj2, hw⟩ := hw
    refine J_iast sh_65 ej2 hj2 (by decide) dX10_remember_77 ?_
    refine J_iinc [(1, .int (x1 + 1)), (0, .ref 63)] (i := 1) (v := (x1 + 1)) rfl rfl (by decide) rfl dX10_remember_78 ?_
    refine J_goto (tgt := 52) dX10_remember_81 (by decide) ?_
    exact J_sub [1, 0] rfl hw
theorem dX10_undo_0 : decode cX10_undo 0 = .ok (.aload_n 0, 1) := by decide +kernel
theorem dX10_undo_1 : decode cX10_undo 1 = .ok (.iconst 1, 1) := by decide +kernel
theorem dX10_undo_2 : decode cX10_undo 2 = .ok (.invokevirtual 221, 3) := by decide +kernel
theorem dX10_undo_5 : decode cX10_undo 5 = .ok (.ifCond .eq 5, 3) := by decide +kernel
theorem dX10_undo_8 : decode cX10_undo 8 = .ok (.iconst 0, 1) := by decide +kernel
theorem dX10_undo_9 : decode cX10_undo 9 = .ok (.ireturn, 1) := by decide +kernel
theorem dX10_undo_10 : decode cX10_undo 10 = .ok (.aload_n 0, 1) := by decide +kernel
theorem dX10_undo_11 : decode cX10_undo 11 = .ok (.getfield 218, 3) := by decide +kernel
theorem dX10_undo_14 : decode cX10_undo 14 = .ok (.ifCond .ne 6, 3) := by decide +kernel
theorem dX10_undo_17 : decode cX10_undo 17 = .ok (.bipush (-2), 2) := by decide +kernel
theorem dX10_undo_19 : decode cX10_undo 19 = .ok (.ireturn, 1) := by decide +kernel
theorem dX10_undo_20 : decode cX10_undo 20 = .ok (.aload_n 0, 1) := by decide +kernel
theorem dX10_undo_21 : decode cX10_undo 21 = .ok (.dup, 1) := by decide +kernel
theorem dX10_undo_22 : decode cX10_undo 22 = .ok (.getfield 218, 3) := by decide +kernel
theorem dX10_undo_25 : decode cX10_undo 25 = .ok (.iconst 1, 1) := by decide +kernel
theorem dX10_undo_26 : decode cX10_undo 26 = .ok (.isub, 1) := by decide +kernel
theorem dX10_undo_27 : decode cX10_undo 27 = .ok (.putfield 218, 3) := by decide +kernel
theorem dX10_undo_30 : decode cX10_undo 30 = .ok (.iconst 0, 1) := by decide +kernel
theorem dX10_undo_31 : decode cX10_undo 31 = .ok (.istore_n 1, 1) := by decide +kernel
theorem dX10_undo_32 : decode cX10_undo 32 = .ok (.iload_n 1, 1) := by decide +kernel
theorem dX10_undo_33 : decode cX10_undo 33 = .ok (.bipush 80, 2) := by decide +kernel
theorem dX10_undo_35 : decode cX10_undo 35 = .ok (.if_icmp .ge 29, 3) := by decide +kernel
theorem dX10_undo_38 : decode cX10_undo 38 = .ok (.aload_n 0, 1) := by decide +kernel
theorem dX10_undo_39 : decode cX10_undo 39 = .ok (.getfield 7, 3) := by decide +kernel
theorem dX10_undo_42 : decode cX10_undo 42 = .ok (.iload_n 1, 1) := by decide +kernel
theorem dX10_undo_43 : decode cX10_undo 43 = .ok (.aload_n 0, 1) := by decide +kernel
theorem dX10_undo_44 : decode cX10_undo 44 = .ok (.getfield 13, 3) := by decide +kernel
theorem dX10_undo_47 : decode cX10_undo 47 = .ok (.bipush 80, 2) := by decide +kernel
theorem dX10_undo_49 : decode cX10_undo 49 = .ok (.aload_n 0, 1) := by decide +kernel
theorem dX10_undo_50 : decode cX10_undo 50 = .ok (.getfield 218, 3) := by decide +kernel
theorem dX10_undo_53 : decode cX10_undo 53 = .ok (.imul, 1) := by decide +kernel
theorem dX10_undo_54 : decode cX10_undo 54 = .ok (.iload_n 1, 1) := by decide +kernel
theorem dX10_undo_55 : decode cX10_undo 55 = .ok (.iadd, 1) := by decide +kernel
theorem dX10_undo_56 : decode cX10_undo 56 = .ok (.iaload, 1) := by decide +kernel
theorem dX10_undo_57 : decode cX10_undo 57 = .ok (.iastore, 1) := by decide +kernel
theorem dX10_undo_58 : decode cX10_undo 58 = .ok (.iinc 1 1, 3) := by decide +kernel
theorem dX10_undo_61 : decode cX10_undo 61 = .ok (.goto (-29), 3) := by decide +kernel
theorem dX10_undo_64 : decode cX10_undo 64 = .ok (.aload_n 0, 1) := by decide +kernel
theorem dX10_undo_65 : decode cX10_undo 65 = .ok (.getfield 218, 3) := by decide +kernel
theorem dX10_undo_68 : decode cX10_undo 68 = .ok (.ireturn, 1) := by decide +kernel
set_option maxRecDepth 20000 in
theorem bX10_undo_0 {G : Gx} {mm : Nat → Nat → Int32} {lm : Nat → Int64}  {o : Ou} {z : Wd} {a b : Nat} (hw : ∃ (v2 : Int32) (m3 : Nat → Nat → Int32), Ct G M_X10_isWrong [.ref 63, .int 1] (SH, mm, lm) false (.inl (some (.int v2))) (SH, m3, lm) false 0 0 ∧ ((v2 = 0) → J G M_X10_undo 10 [(0, .ref 63)] [] (SH, m3, lm) false o z false a b) ∧ ((¬ v2 = 0) → o = .inl (some (.int 0)) ∧ z = (SH, m3, lm))) :
    J G M_X10_undo 0 [(0, .ref 63)] [] (SH, mm, lm) false o z false a b := by
  refine J_aload_n rfl (i := 0) rfl dX10_undo_0 ?_
  refine J_iconst (v := 1) (by decide) dX10_undo_1 ?_
  obtain ⟨v2, m3, hc1, hw⟩ := hw
  refine J_callV (as := [.int 1]) (k := 63) (st := []) cal_X10_isWrong cai_X10_isWrong gw_1663 ⟨by decide, by decide⟩ cnt_X10_isWrong sh_63 rfl rfl (Nat.le_of_ble_eq_true rfl) dX10_undo_2 (Nat.zero_add _).symm (Nat.zero_add _).symm hc1 ?_
  refine J_if_eq (tgt := 10) dX10_undo_5 (by decide) (fun hb4 => ?_) (fun hb4 => ?_)
  · replace hw := hw.1 hb4
    exact hw
  · replace hw := hw.2 hb4
    refine J_iconst (v := 0) (by decide) dX10_undo_8 ?_
    exact J_fini (ty := .int) rfl rfl dX10_undo_9 hw
set_option maxRecDepth 20000 in
theorem bX10_undo_10 {G : Gx} {mm : Nat → Nat → Int32} {lm : Nat → Int64}  {o : Ou} {z : Wd} {a b : Nat} (hw : ((¬ (mm 63 2) = 0) → J G M_X10_undo 32 [(0, .ref 63), (1, .int 0)] [] (SH, (mset mm 63 2 ((mm 63 2) - 1)), lm) false o z false a b) ∧ (((mm 63 2) = 0) → o = .inl (some (.int (-2))) ∧ z = (SH, mm, lm))) :
    J G M_X10_undo 10 [(0, .ref 63)] [] (SH, mm, lm) false o z false a b := by
  refine J_aload_n rfl (i := 0) rfl dX10_undo_10 ?_
  refine J_geti kls_10 (q := 63) (k := 2) sh_63 (by decide) rfl gw_1435 dX10_undo_11 ?_
  refine J_if_ne (tgt := 20) dX10_undo_14 (by decide) (fun hb1 => ?_) (fun hb1 => ?_)
  · replace hw := hw.1 hb1
    refine J_aload_n rfl (i := 0) rfl dX10_undo_20 ?_
    refine J_dupr dX10_undo_21 ?_
    refine J_geti kls_10 (q := 63) (k := 2) sh_63 (by decide) rfl gw_1435 dX10_undo_22 ?_
    refine J_iconst (v := 1) (by decide) dX10_undo_25 ?_
    refine J_isub dX10_undo_26 ?_
    refine J_puti kls_10 (q := 63) (k := 2) sh_63 (by decide) rfl rfl (fun _ => rfl) (fun _ => rfl) gw_1435 dX10_undo_27 ?_
    refine J_iconst (v := 0) (by decide) dX10_undo_30 ?_
    refine J_istore_n [(1, .int 0), (0, .ref 63)] rfl (i := 1) (by decide) rfl dX10_undo_31 ?_
    exact J_sub [1, 0] rfl hw
  · replace hw := hw.2 hb1
    refine J_bipush (v := (-2)) (by decide) dX10_undo_17 ?_
    exact J_fini (ty := .int) rfl rfl dX10_undo_19 hw
set_option maxRecDepth 20000 in
theorem bX10_undo_32 {G : Gx} {mm : Nat → Nat → Int32} {lm : Nat → Int64} {x1 : Int32} {o : Ou} {z : Wd} {a b : Nat} (hw : ((80 ≤ x1) → o = .inl (some (.int (mm 63 2))) ∧ z = (SH, mm, lm)) ∧ ((¬ 80 ≤ x1) → ∃ j1 : Nat, ((80 * (mm 63 2)) + x1) = nI j1 ∧ j1 < 960 ∧ ∃ j2 : Nat, x1 = nI j2 ∧ j2 < 80 ∧ J G M_X10_undo 32 [(0, .ref 63), (1, .int (x1 + 1))] [] (SH, (mset mm 64 j2 (mm 65 j1)), lm) false o z false a b)) :
    J G M_X10_undo 32 [(0, .ref 63), (1, .int x1)] [] (SH, mm, lm) false o z false a b := by
  refine J_iload_n rfl (i := 1) rfl dX10_undo_32 ?_
  refine J_bipush (v := 80) (by decide) dX10_undo_33 ?_
  refine J_icmp_ge (tgt := 64) dX10_undo_35 (by decide) (fun hb3 => ?_) (fun hb3 => ?_)
  · replace hw := hw.1 hb3
    refine J_aload_n rfl (i := 0) rfl dX10_undo_64 ?_
    refine J_geti kls_10 (q := 63) (k := 2) sh_63 (by decide) rfl gw_1435 dX10_undo_65 ?_
    exact J_fini (ty := .int) rfl rfl dX10_undo_68 hw
  · replace hw := hw.2 hb3
    refine J_aload_n rfl (i := 0) rfl dX10_undo_38 ?_
    refine J_getr kls_10 (q := 63) (k := 0) sh_63 (by decide) rfl gw_1433 dX10_undo_39 ?_
    refine J_iload_n rfl (i := 1) rfl dX10_undo_42 ?_
    refine J_aload_n rfl (i := 0) rfl dX10_undo_43 ?_
    refine J_getr kls_10 (q := 63) (k := 1) sh_63 (by decide) rfl gw_1434 dX10_undo_44 ?_
    refine J_bipush (v := 80) (by decide) dX10_undo_47 ?_
    refine J_aload_n rfl (i := 0) rfl dX10_undo_49 ?_
    refine J_geti kls_10 (q := 63) (k := 2) sh_63 (by decide) rfl gw_1435 dX10_undo_50 ?_
    refine J_imul dX10_undo_53 ?_
    refine J_iload_n rfl (i := 1) rfl dX10_undo_54 ?_
    refine J_iadd dX10_undo_55 ?_
    obtain ⟨j1, ej1, hj1, hw⟩ := hw
    refine J_iald sh_65 ej1 hj1 (by decide) dX10_undo_56 ?_
    obtain ⟨j2, ej2, hj2, hw⟩ := hw
    refine J_iast sh_64 ej2 hj2 (by decide) dX10_undo_57 ?_
    refine J_iinc [(1, .int (x1 + 1)), (0, .ref 63)] (i := 1) (v := (x1 + 1)) rfl rfl (by decide) rfl dX10_undo_58 ?_
    refine J_goto (tgt := 32) dX10_undo_61 (by decide) ?_
    exact J_sub [1, 0] rfl hw
theorem dX10_of_0 : decode cX10_of 0 = .ok (.aload_n 0, 1) := by decide +kernel
theorem dX10_of_1 : decode cX10_of 1 = .ok (.getfield 7, 3) := by decide +kernel
theorem dX10_of_4 : decode cX10_of 4 = .ok (.bipush 10, 2) := by decide +kernel
theorem dX10_of_6 : decode cX10_of 6 = .ok (.iload_n 1, 1) := by decide +kernel
theorem dX10_of_7 : decode cX10_of 7 = .ok (.imul, 1) := by decide +kernel
theorem dX10_of_8 : decode cX10_of 8 = .ok (.iload_n 2, 1) := by decide +kernel
theorem dX10_of_9 : decode cX10_of 9 = .ok (.iadd, 1) := by decide +kernel
theorem dX10_of_10 : decode cX10_of 10 = .ok (.iaload, 1) := by decide +kernel
theorem dX10_of_11 : decode cX10_of 11 = .ok (.ireturn, 1) := by decide +kernel
set_option maxRecDepth 20000 in
theorem bX10_of_0 {G : Gx} {mm : Nat → Nat → Int32} {lm : Nat → Int64} {x1 : Int32} {x2 : Int32} {o : Ou} {z : Wd} {a b : Nat} (hw : ∃ j1 : Nat, ((10 * x1) + x2) = nI j1 ∧ j1 < 80 ∧ o = .inl (some (.int (mm 64 j1))) ∧ z = (SH, mm, lm)) :
    J G M_X10_of 0 [(0, .ref 63), (1, .int x1), (2, .int x2)] [] (SH, mm, lm) false o z false a b := by
  refine J_aload_n rfl (i := 0) rfl dX10_of_0 ?_
  refine J_getr kls_10 (q := 63) (k := 0) sh_63 (by decide) rfl gw_1433 dX10_of_1 ?_
  refine J_bipush (v := 10) (by decide) dX10_of_4 ?_
  refine J_iload_n rfl (i := 1) rfl dX10_of_6 ?_
  refine J_imul dX10_of_7 ?_
  refine J_iload_n rfl (i := 2) rfl dX10_of_8 ?_
  refine J_iadd dX10_of_9 ?_
  obtain ⟨j1, ej1, hj1, hw⟩ := hw
  refine J_iald sh_64 ej1 hj1 (by decide) dX10_of_10 ?_
  exact J_fini (ty := .int) rfl rfl dX10_of_11 hw
theorem dX10_set_0 : decode cX10_set 0 = .ok (.aload_n 0, 1) := by decide +kernel
theorem dX10_set_1 : decode cX10_set 1 = .ok (.getfield 7, 3) := by decide +kernel
theorem dX10_set_4 : decode cX10_set 4 = .ok (.bipush 10, 2) := by decide +kernel
theorem dX10_set_6 : decode cX10_set 6 = .ok (.iload_n 1, 1) := by decide +kernel
theorem dX10_set_7 : decode cX10_set 7 = .ok (.imul, 1) := by decide +kernel
theorem dX10_set_8 : decode cX10_set 8 = .ok (.iload_n 2, 1) := by decide +kernel
theorem dX10_set_9 : decode cX10_set 9 = .ok (.iadd, 1) := by decide +kernel
theorem dX10_set_10 : decode cX10_set 10 = .ok (.iload_n 3, 1) := by decide +kernel
theorem dX10_set_11 : decode cX10_set 11 = .ok (.iastore, 1) := by decide +kernel
theorem dX10_set_12 : decode cX10_set 12 = .ok (.return_, 1) := by decide +kernel
set_option maxRecDepth 20000 in
theorem bX10_set_0 {G : Gx} {mm : Nat → Nat → Int32} {lm : Nat → Int64} {x1 : Int32} {x2 : Int32} {x3 : Int32} {o : Ou} {z : Wd} {a b : Nat} (hw : ∃ j1 : Nat, ((10 * x1) + x2) = nI j1 ∧ j1 < 80 ∧ o = .inl none ∧ z = (SH, (mset mm 64 j1 x3), lm)) :
    J G M_X10_set 0 [(0, .ref 63), (1, .int x1), (2, .int x2), (3, .int x3)] [] (SH, mm, lm) false o z false a b := by
  refine J_aload_n rfl (i := 0) rfl dX10_set_0 ?_
  refine J_getr kls_10 (q := 63) (k := 0) sh_63 (by decide) rfl gw_1433 dX10_set_1 ?_
  refine J_bipush (v := 10) (by decide) dX10_set_4 ?_
  refine J_iload_n rfl (i := 1) rfl dX10_set_6 ?_
  refine J_imul dX10_set_7 ?_
  refine J_iload_n rfl (i := 2) rfl dX10_set_8 ?_
  refine J_iadd dX10_set_9 ?_
  refine J_iload_n rfl (i := 3) rfl dX10_set_10 ?_
  obtain ⟨j1, ej1, hj1, hw⟩ := hw
  refine J_iast sh_64 ej1 hj1 (by decide) dX10_set_11 ?_
  exact J_finv rfl dX10_set_12 hw
