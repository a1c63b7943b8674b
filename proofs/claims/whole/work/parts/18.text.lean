/-! ===== decode rows and walks between cut points, by program (wip/gen/mk10.py) ===== -/
theorem dX8_addWord_0 : decode cX8_addWord 0 = .ok (.bipush 24, 2) := by decide +kernel
theorem dX8_addWord_2 : decode cX8_addWord 2 = .ok (.istore_n 2, 1) := by decide +kernel
theorem dX8_addWord_3 : decode cX8_addWord 3 = .ok (.iload_n 2, 1) := by decide +kernel
theorem dX8_addWord_4 : decode cX8_addWord 4 = .ok (.ifCond .lt 42, 3) := by decide +kernel
theorem dX8_addWord_7 : decode cX8_addWord 7 = .ok (.aload_n 0, 1) := by decide +kernel
theorem dX8_addWord_8 : decode cX8_addWord 8 = .ok (.getfield 23, 3) := by decide +kernel
theorem dX8_addWord_11 : decode cX8_addWord 11 = .ok (.sipush 400, 3) := by decide +kernel
theorem dX8_addWord_14 : decode cX8_addWord 14 = .ok (.if_icmp .ge 32, 3) := by decide +kernel
theorem dX8_addWord_17 : decode cX8_addWord 17 = .ok (.aload_n 0, 1) := by decide +kernel
theorem dX8_addWord_18 : decode cX8_addWord 18 = .ok (.getfield 9, 3) := by decide +kernel
theorem dX8_addWord_21 : decode cX8_addWord 21 = .ok (.aload_n 0, 1) := by decide +kernel
theorem dX8_addWord_22 : decode cX8_addWord 22 = .ok (.getfield 23, 3) := by decide +kernel
theorem dX8_addWord_25 : decode cX8_addWord 25 = .ok (.iload_n 1, 1) := by decide +kernel
theorem dX8_addWord_26 : decode cX8_addWord 26 = .ok (.iload_n 2, 1) := by decide +kernel
theorem dX8_addWord_27 : decode cX8_addWord 27 = .ok (.ishr, 1) := by decide +kernel
theorem dX8_addWord_28 : decode cX8_addWord 28 = .ok (.i2b, 1) := by decide +kernel
theorem dX8_addWord_29 : decode cX8_addWord 29 = .ok (.bastore, 1) := by decide +kernel
theorem dX8_addWord_30 : decode cX8_addWord 30 = .ok (.aload_n 0, 1) := by decide +kernel
theorem dX8_addWord_31 : decode cX8_addWord 31 = .ok (.dup, 1) := by decide +kernel
theorem dX8_addWord_32 : decode cX8_addWord 32 = .ok (.getfield 23, 3) := by decide +kernel
theorem dX8_addWord_35 : decode cX8_addWord 35 = .ok (.iconst 1, 1) := by decide +kernel
theorem dX8_addWord_36 : decode cX8_addWord 36 = .ok (.iadd, 1) := by decide +kernel
theorem dX8_addWord_37 : decode cX8_addWord 37 = .ok (.putfield 23, 3) := by decide +kernel
theorem dX8_addWord_40 : decode cX8_addWord 40 = .ok (.iinc 2 (-8), 3) := by decide +kernel
theorem dX8_addWord_43 : decode cX8_addWord 43 = .ok (.goto (-40), 3) := by decide +kernel
theorem dX8_addWord_46 : decode cX8_addWord 46 = .ok (.return_, 1) := by decide +kernel
set_option maxRecDepth 20000 in
theorem bX8_addWord_0 {G : Gx} {mm : Nat → Nat → Int32} {lm : Nat → Int64} {x1 : Int32} {o : Ou} {z : Wd} {a b : Nat} (hw : J G M_X8_addWord 3 [(0, .ref 1), (1, .int x1), (2, .int 24)] [] (SH, mm, lm) false o z false a b) :
    J G M_X8_addWord 0 [(0, .ref 1), (1, .int x1)] [] (SH, mm, lm) false o z false a b := by
  refine J_bipush (v := 24) (by decide) dX8_addWord_0 ?_
  refine J_istore_n [(2, .int 24), (0, .ref 1), (1, .int x1)] rfl (i := 2) (by decide) rfl dX8_addWord_2 ?_
  exact J_sub [1, 2, 0] rfl hw
set_option maxRecDepth 20000 in
theorem bX8_addWord_3 {G : Gx} {mm : Nat → Nat → Int32} {lm : Nat → Int64} {x1 : Int32} {x2 : Int32} {o : Ou} {z : Wd} {a b : Nat} (hw : ((x2 < 0) → o = .inl none ∧ z = (SH, mm, lm)) ∧ ((¬ x2 < 0) → ((400 ≤ (mm 1 2)) → o = .inl none ∧ z = (SH, mm, lm)) ∧ ((¬ 400 ≤ (mm 1 2)) → ∃ j1 : Nat, (mm 1 2) = nI j1 ∧ j1 < 400 ∧ J G M_X8_addWord 3 [(0, .ref 1), (1, .int x1), (2, .int (x2 + (-8)))] [] (SH, (mset (mset mm 2 j1 (vp_nar .byte (Int8.toInt32 (Int32.toInt8 (x1 >>> (x2 &&& 31)))))) 1 2 (((mset mm 2 j1 (vp_nar .byte (Int8.toInt32 (Int32.toInt8 (x1 >>> (x2 &&& 31)))))) 1 2) + 1)), lm) false o z false a b))) :
    J G M_X8_addWord 3 [(0, .ref 1), (1, .int x1), (2, .int x2)] [] (SH, mm, lm) false o z false a b := by
  refine J_iload_n rfl (i := 2) rfl dX8_addWord_3 ?_
  refine J_if_lt (tgt := 46) dX8_addWord_4 (by decide) (fun hb3 => ?_) (fun hb3 => ?_)
  · replace hw := hw.1 hb3
    exact J_finv rfl dX8_addWord_46 hw
  · replace hw := hw.2 hb3
    refine J_aload_n rfl (i := 0) rfl dX8_addWord_7 ?_
    refine J_geti kls_8 (q := 1) (k := 2) sh_1 (by decide) rfl gw_149 dX8_addWord_8 ?_
    refine J_sipush (v := 400) (by decide) dX8_addWord_11 ?_
    refine J_icmp_ge (tgt := 46) dX8_addWord_14 (by decide) (fun hb2 => ?_) (fun hb2 => ?_)
    · replace hw := hw.1 hb2
      exact J_finv rfl dX8_addWord_46 hw
    · replace hw := hw.2 hb2
      refine J_aload_n rfl (i := 0) rfl dX8_addWord_17 ?_
      refine J_getr kls_8 (q := 1) (k := 0) sh_1 (by decide) rfl gw_146 dX8_addWord_18 ?_
      refine J_aload_n rfl (i := 0) rfl dX8_addWord_21 ?_
      refine J_geti kls_8 (q := 1) (k := 2) sh_1 (by decide) rfl gw_149 dX8_addWord_22 ?_
      refine J_iload_n rfl (i := 1) rfl dX8_addWord_25 ?_
      refine J_iload_n rfl (i := 2) rfl dX8_addWord_26 ?_
      refine J_ishr dX8_addWord_27 ?_
      refine J_i2b dX8_addWord_28 ?_
      obtain ⟨j1, ej1, hj1, hw⟩ := hw
      refine J_bast sh_2 ej1 hj1 (by decide) dX8_addWord_29 ?_
      refine J_aload_n rfl (i := 0) rfl dX8_addWord_30 ?_
      refine J_dupr dX8_addWord_31 ?_
      refine J_geti kls_8 (q := 1) (k := 2) sh_1 (by decide) rfl gw_149 dX8_addWord_32 ?_
      refine J_iconst (v := 1) (by decide) dX8_addWord_35 ?_
      refine J_iadd dX8_addWord_36 ?_
      refine J_puti kls_8 (q := 1) (k := 2) sh_1 (by decide) rfl rfl (fun _ => rfl) (fun _ => rfl) gw_149 dX8_addWord_37 ?_
      refine J_iinc [(2, .int (x2 + (-8))), (0, .ref 1), (1, .int x1)] (i := 2) (v := (x2 + (-8))) rfl (congrArg (fun y => x2 + y) (by decide : Int32.ofInt (-8) = (-8))) (by decide) rfl dX8_addWord_40 ?_
      refine J_goto (tgt := 3) dX8_addWord_43 (by decide) ?_
      exact J_sub [1, 2, 0] rfl hw
theorem dX8_parse_0 : decode cX8_parse 0 = .ok (.aload_n 1, 1) := by decide +kernel
theorem dX8_parse_1 : decode cX8_parse 1 = .ok (.invokevirtual 26, 3) := by decide +kernel
theorem dX8_parse_4 : decode cX8_parse 4 = .ok (.aload_n 0, 1) := by decide +kernel
theorem dX8_parse_5 : decode cX8_parse 5 = .ok (.iconst 0, 1) := by decide +kernel
theorem dX8_parse_6 : decode cX8_parse 6 = .ok (.putfield 31, 3) := by decide +kernel
theorem dX8_parse_9 : decode cX8_parse 9 = .ok (.aload_n 0, 1) := by decide +kernel
theorem dX8_parse_10 : decode cX8_parse 10 = .ok (.iconst (-1), 1) := by decide +kernel
theorem dX8_parse_11 : decode cX8_parse 11 = .ok (.putfield 19, 3) := by decide +kernel
theorem dX8_parse_14 : decode cX8_parse 14 = .ok (.aload_n 0, 1) := by decide +kernel
theorem dX8_parse_15 : decode cX8_parse 15 = .ok (.iconst 0, 1) := by decide +kernel
theorem dX8_parse_16 : decode cX8_parse 16 = .ok (.putfield 34, 3) := by decide +kernel
theorem dX8_parse_19 : decode cX8_parse 19 = .ok (.aload_n 0, 1) := by decide +kernel
theorem dX8_parse_20 : decode cX8_parse 20 = .ok (.invokevirtual 37, 3) := by decide +kernel
theorem dX8_parse_23 : decode cX8_parse 23 = .ok (.iconst 0, 1) := by decide +kernel
theorem dX8_parse_24 : decode cX8_parse 24 = .ok (.istore_n 2, 1) := by decide +kernel
theorem dX8_parse_25 : decode cX8_parse 25 = .ok (.iconst 0, 1) := by decide +kernel
theorem dX8_parse_26 : decode cX8_parse 26 = .ok (.istore_n 3, 1) := by decide +kernel
theorem dX8_parse_27 : decode cX8_parse 27 = .ok (.iload_n 3, 1) := by decide +kernel
theorem dX8_parse_28 : decode cX8_parse 28 = .ok (.sipush 400, 3) := by decide +kernel
theorem dX8_parse_31 : decode cX8_parse 31 = .ok (.if_icmp .gt 30, 3) := by decide +kernel
theorem dX8_parse_34 : decode cX8_parse 34 = .ok (.aload_n 0, 1) := by decide +kernel
theorem dX8_parse_35 : decode cX8_parse 35 = .ok (.getfield 31, 3) := by decide +kernel
theorem dX8_parse_38 : decode cX8_parse 38 = .ok (.ifCond .ne 23, 3) := by decide +kernel
theorem dX8_parse_41 : decode cX8_parse 41 = .ok (.aload_n 0, 1) := by decide +kernel
theorem dX8_parse_42 : decode cX8_parse 42 = .ok (.getfield 40, 3) := by decide +kernel
theorem dX8_parse_45 : decode cX8_parse 45 = .ok (.ifCond .eq 16, 3) := by decide +kernel
theorem dX8_parse_48 : decode cX8_parse 48 = .ok (.aload_n 0, 1) := by decide +kernel
theorem dX8_parse_49 : decode cX8_parse 49 = .ok (.aload_n 1, 1) := by decide +kernel
theorem dX8_parse_50 : decode cX8_parse 50 = .ok (.iload_n 2, 1) := by decide +kernel
theorem dX8_parse_51 : decode cX8_parse 51 = .ok (.invokevirtual 43, 3) := by decide +kernel
theorem dX8_parse_54 : decode cX8_parse 54 = .ok (.istore_n 2, 1) := by decide +kernel
theorem dX8_parse_55 : decode cX8_parse 55 = .ok (.iinc 3 1, 3) := by decide +kernel
theorem dX8_parse_58 : decode cX8_parse 58 = .ok (.goto (-31), 3) := by decide +kernel
theorem dX8_parse_61 : decode cX8_parse 61 = .ok (.aload_n 0, 1) := by decide +kernel
theorem dX8_parse_62 : decode cX8_parse 62 = .ok (.getfield 31, 3) := by decide +kernel
theorem dX8_parse_65 : decode cX8_parse 65 = .ok (.ifCond .ne 15, 3) := by decide +kernel
theorem dX8_parse_68 : decode cX8_parse 68 = .ok (.aload_n 1, 1) := by decide +kernel
theorem dX8_parse_69 : decode cX8_parse 69 = .ok (.getfield 47, 3) := by decide +kernel
theorem dX8_parse_72 : decode cX8_parse 72 = .ok (.ifCond .ne 8, 3) := by decide +kernel
theorem dX8_parse_75 : decode cX8_parse 75 = .ok (.aload_n 0, 1) := by decide +kernel
theorem dX8_parse_76 : decode cX8_parse 76 = .ok (.iconst 1, 1) := by decide +kernel
theorem dX8_parse_77 : decode cX8_parse 77 = .ok (.invokevirtual 50, 3) := by decide +kernel
theorem dX8_parse_80 : decode cX8_parse 80 = .ok (.aload_n 0, 1) := by decide +kernel
theorem dX8_parse_81 : decode cX8_parse 81 = .ok (.getfield 31, 3) := by decide +kernel
theorem dX8_parse_84 : decode cX8_parse 84 = .ok (.ireturn, 1) := by decide +kernel
set_option maxRecDepth 20000 in
theorem bX8_parse_0 {G : Gx} {mm : Nat → Nat → Int32} {lm : Nat → Int64}  {o : Ou} {z : Wd} {a b : Nat} (hw : ∃ (m3 : Nat → Nat → Int32), Ct G M_X7_empty [.ref 13] (SH, mm, lm) false (.inl none) (SH, m3, lm) false 0 0 ∧ ∃ (m6 : Nat → Nat → Int32), Ct G M_X8_readToken [.ref 1] (SH, (mset (mset (mset m3 1 4 0) 1 3 (-1)) 1 5 0), lm) false (.inl none) (SH, m6, lm) false 0 0 ∧ J G M_X8_parse 27 [(0, .ref 1), (1, .ref 13), (2, .int 0), (3, .int 0)] [] (SH, m6, lm) false o z false a b) :
    J G M_X8_parse 0 [(0, .ref 1), (1, .ref 13)] [] (SH, mm, lm) false o z false a b := by
  refine J_aload_n rfl (i := 1) rfl dX8_parse_0 ?_
  obtain ⟨m3, hc1, hw⟩ := hw
  refine J_callV (as := []) (k := 13) (st := []) cal_X7_empty cai_X7_empty gw_471 ⟨by decide, by decide⟩ cnt_X7_empty sh_13 rfl rfl (Nat.le_of_ble_eq_true rfl) dX8_parse_1 (Nat.zero_add _).symm (Nat.zero_add _).symm hc1 ?_
  refine J_aload_n rfl (i := 0) rfl dX8_parse_4 ?_
  refine J_iconst (v := 0) (by decide) dX8_parse_5 ?_
  refine J_puti kls_8 (q := 1) (k := 4) sh_1 (by decide) rfl rfl (fun _ => rfl) (fun _ => rfl) gw_152 dX8_parse_6 ?_
  refine J_aload_n rfl (i := 0) rfl dX8_parse_9 ?_
  refine J_iconst (v := (-1)) (by decide) dX8_parse_10 ?_
  refine J_puti kls_8 (q := 1) (k := 3) sh_1 (by decide) rfl rfl (fun _ => rfl) (fun _ => rfl) gw_150 dX8_parse_11 ?_
  refine J_aload_n rfl (i := 0) rfl dX8_parse_14 ?_
  refine J_iconst (v := 0) (by decide) dX8_parse_15 ?_
  refine J_puti kls_8 (q := 1) (k := 5) sh_1 (by decide) rfl rfl (fun _ => rfl) (fun _ => rfl) gw_153 dX8_parse_16 ?_
  refine J_aload_n rfl (i := 0) rfl dX8_parse_19 ?_
  obtain ⟨m6, hc4, hw⟩ := hw
  refine J_callV (as := []) (k := 1) (st := []) cal_X8_readToken cai_X8_readToken gw_475 ⟨by decide, by decide⟩ cnt_X8_readToken sh_1 rfl rfl (Nat.le_of_ble_eq_true rfl) dX8_parse_20 (Nat.zero_add _).symm (Nat.zero_add _).symm hc4 ?_
  refine J_iconst (v := 0) (by decide) dX8_parse_23 ?_
  refine J_istore_n [(2, .int 0), (0, .ref 1), (1, .ref 13)] rfl (i := 2) (by decide) rfl dX8_parse_24 ?_
  refine J_iconst (v := 0) (by decide) dX8_parse_25 ?_
  refine J_istore_n [(3, .int 0), (2, .int 0), (0, .ref 1), (1, .ref 13)] rfl (i := 3) (by decide) rfl dX8_parse_26 ?_
  exact J_sub [2, 3, 1, 0] rfl hw
set_option maxRecDepth 20000 in
theorem bX8_parse_27 {G : Gx} {mm : Nat → Nat → Int32} {lm : Nat → Int64} {x2 : Int32} {x3 : Int32} {o : Ou} {z : Wd} {a b : Nat} (hw : ((400 < x3) → ((¬ (mm 1 4) = 0) → o = .inl (some (.int (mm 1 4))) ∧ z = (SH, mm, lm)) ∧ (((mm 1 4) = 0) → ((¬ (mm 13 9) = 0) → o = .inl (some (.int (mm 1 4))) ∧ z = (SH, mm, lm)) ∧ (((mm 13 9) = 0) → ∃ (m3 : Nat → Nat → Int32), Ct G M_X8_fail [.ref 1, .int 1] (SH, mm, lm) false (.inl none) (SH, m3, lm) false 0 0 ∧ o = .inl (some (.int (m3 1 4))) ∧ z = (SH, m3, lm)))) ∧ ((¬ 400 < x3) → ((¬ (mm 1 4) = 0) → ((¬ (mm 1 4) = 0) → o = .inl (some (.int (mm 1 4))) ∧ z = (SH, mm, lm)) ∧ (((mm 1 4) = 0) → ((¬ (mm 13 9) = 0) → o = .inl (some (.int (mm 1 4))) ∧ z = (SH, mm, lm)) ∧ (((mm 13 9) = 0) → ∃ (m8 : Nat → Nat → Int32), Ct G M_X8_fail [.ref 1, .int 1] (SH, mm, lm) false (.inl none) (SH, m8, lm) false 0 0 ∧ o = .inl (some (.int (m8 1 4))) ∧ z = (SH, m8, lm)))) ∧ (((mm 1 4) = 0) → (((mm 1 7) = 0) → ((¬ (mm 1 4) = 0) → o = .inl (some (.int (mm 1 4))) ∧ z = (SH, mm, lm)) ∧ (((mm 1 4) = 0) → ((¬ (mm 13 9) = 0) → o = .inl (some (.int (mm 1 4))) ∧ z = (SH, mm, lm)) ∧ (((mm 13 9) = 0) → ∃ (m13 : Nat → Nat → Int32), Ct G M_X8_fail [.ref 1, .int 1] (SH, mm, lm) false (.inl none) (SH, m13, lm) false 0 0 ∧ o = .inl (some (.int (m13 1 4))) ∧ z = (SH, m13, lm)))) ∧ ((¬ (mm 1 7) = 0) → ∃ (v17 : Int32) (m18 : Nat → Nat → Int32), Ct G M_X8_parseStatement [.ref 1, .ref 13, .int x2] (SH, mm, lm) false (.inl (some (.int v17))) (SH, m18, lm) false 0 0 ∧ J G M_X8_parse 27 [(0, .ref 1), (1, .ref 13), (2, .int v17), (3, .int (x3 + 1))] [] (SH, m18, lm) false o z false a b)))) :
    J G M_X8_parse 27 [(0, .ref 1), (1, .ref 13), (2, .int x2), (3, .int x3)] [] (SH, mm, lm) false o z false a b := by
  refine J_iload_n rfl (i := 3) rfl dX8_parse_27 ?_
  refine J_sipush (v := 400) (by decide) dX8_parse_28 ?_
  refine J_icmp_gt (tgt := 61) dX8_parse_31 (by decide) (fun hb21 => ?_) (fun hb21 => ?_)
  · replace hw := hw.1 hb21
    refine J_aload_n rfl (i := 0) rfl dX8_parse_61 ?_
    refine J_geti kls_8 (q := 1) (k := 4) sh_1 (by decide) rfl gw_152 dX8_parse_62 ?_
    refine J_if_ne (tgt := 80) dX8_parse_65 (by decide) (fun hb5 => ?_) (fun hb5 => ?_)
    · replace hw := hw.1 hb5
      refine J_aload_n rfl (i := 0) rfl dX8_parse_80 ?_
      refine J_geti kls_8 (q := 1) (k := 4) sh_1 (by decide) rfl gw_152 dX8_parse_81 ?_
      exact J_fini (ty := .int) rfl rfl dX8_parse_84 hw
    · replace hw := hw.2 hb5
      refine J_aload_n rfl (i := 1) rfl dX8_parse_68 ?_
      refine J_geti kls_7 (q := 13) (k := 9) sh_13 (by decide) rfl gw_210 dX8_parse_69 ?_
      refine J_if_ne (tgt := 80) dX8_parse_72 (by decide) (fun hb4 => ?_) (fun hb4 => ?_)
      · replace hw := hw.1 hb4
        refine J_aload_n rfl (i := 0) rfl dX8_parse_80 ?_
        refine J_geti kls_8 (q := 1) (k := 4) sh_1 (by decide) rfl gw_152 dX8_parse_81 ?_
        exact J_fini (ty := .int) rfl rfl dX8_parse_84 hw
      · replace hw := hw.2 hb4
        refine J_aload_n rfl (i := 0) rfl dX8_parse_75 ?_
        refine J_iconst (v := 1) (by decide) dX8_parse_76 ?_
        obtain ⟨m3, hc1, hw⟩ := hw
        refine J_callV (as := [.int 1]) (k := 1) (st := []) cal_X8_fail cai_X8_fail gw_568 ⟨by decide, by decide⟩ cnt_X8_fail sh_1 rfl rfl (Nat.le_of_ble_eq_true rfl) dX8_parse_77 (Nat.zero_add _).symm (Nat.zero_add _).symm hc1 ?_
        refine J_aload_n rfl (i := 0) rfl dX8_parse_80 ?_
        refine J_geti kls_8 (q := 1) (k := 4) sh_1 (by decide) rfl gw_152 dX8_parse_81 ?_
        exact J_fini (ty := .int) rfl rfl dX8_parse_84 hw
  · replace hw := hw.2 hb21
    refine J_aload_n rfl (i := 0) rfl dX8_parse_34 ?_
    refine J_geti kls_8 (q := 1) (k := 4) sh_1 (by decide) rfl gw_152 dX8_parse_35 ?_
    refine J_if_ne (tgt := 61) dX8_parse_38 (by decide) (fun hb20 => ?_) (fun hb20 => ?_)
    · replace hw := hw.1 hb20
      refine J_aload_n rfl (i := 0) rfl dX8_parse_61 ?_
      refine J_geti kls_8 (q := 1) (k := 4) sh_1 (by decide) rfl gw_152 dX8_parse_62 ?_
      refine J_if_ne (tgt := 80) dX8_parse_65 (by decide) (fun hb10 => ?_) (fun hb10 => ?_)
      · replace hw := hw.1 hb10
        refine J_aload_n rfl (i := 0) rfl dX8_parse_80 ?_
        refine J_geti kls_8 (q := 1) (k := 4) sh_1 (by decide) rfl gw_152 dX8_parse_81 ?_
        exact J_fini (ty := .int) rfl rfl dX8_parse_84 hw
      · replace hw := hw.2 hb10
        refine J_aload_n rfl (i := 1) rfl dX8_parse_68 ?_
        refine J_geti kls_7 (q := 13) (k := 9) sh_13 (by decide) rfl gw_210 dX8_parse_69 ?_
        refine J_if_ne (tgt := 80) dX8_parse_72 (by decide) (fun hb9 => ?_) (fun hb9 => ?_)
        · replace hw := hw.1 hb9
          refine J_aload_n rfl (i := 0) rfl dX8_parse_80 ?_
          refine J_geti kls_8 (q := 1) (k := 4) sh_1 (by decide) rfl gw_152 dX8_parse_81 ?_
          exact J_fini (ty := .int) rfl rfl dX8_parse_84 hw
        · replace hw := hw.2 hb9
          refine J_aload_n rfl (i := 0) rfl dX8_parse_75 ?_
          refine J_iconst (v := 1) (by decide) dX8_parse_76 ?_
          obtain ⟨m8, hc6, hw⟩ := hw
          refine J_callV (as := [.int 1]) (k := 1) (st := []) cal_X8_fail cai_X8_fail gw_568 ⟨by decide, by decide⟩ cnt_X8_fail sh_1 rfl rfl (Nat.le_of_ble_eq_true rfl) dX8_parse_77 (Nat.zero_add _).symm (Nat.zero_add _).symm hc6 ?_
          refine J_aload_n rfl (i := 0) rfl dX8_parse_80 ?_
          refine J_geti kls_8 (q := 1) (k := 4) sh_1 (by decide) rfl gw_152 dX8_parse_81 ?_
          exact J_fini (ty := .int) rfl rfl dX8_parse_84 hw
    · replace hw := hw.2 hb20
      refine J_aload_n rfl (i := 0) rfl dX8_parse_41 ?_
      refine J_geti kls_8 (q := 1) (k := 7) sh_1 (by decide) rfl gw_155 dX8_parse_42 ?_
      refine J_if_eq (tgt := 61) dX8_parse_45 (by decide) (fun hb19 => ?_) (fun hb19 => ?_)
      · replace hw := hw.1 hb19
        refine J_aload_n rfl (i := 0) rfl dX8_parse_61 ?_
        refine J_geti kls_8 (q := 1) (k := 4) sh_1 (by decide) rfl gw_152 dX8_parse_62 ?_
        refine J_if_ne (tgt := 80) dX8_parse_65 (by decide) (fun hb15 => ?_) (fun hb15 => ?_)
        · replace hw := hw.1 hb15
          refine J_aload_n rfl (i := 0) rfl dX8_parse_80 ?_
          refine J_geti kls_8 (q := 1) (k := 4) sh_1 (by decide) rfl gw_152 dX8_parse_81 ?_
          exact J_fini (ty := .int) rfl rfl dX8_parse_84 hw
        · replace hw := hw.2 hb15
          refine J_aload_n rfl (i := 1) rfl dX8_parse_68 ?_
          refine J_geti kls_7 (q := 13) (k := 9) sh_13 (by decide) rfl gw_210 dX8_parse_69 ?_
          refine J_if_ne (tgt := 80) dX8_parse_72 (by decide) (fun hb14 => ?_) (fun hb14 => ?_)
          · replace hw := hw.1 hb14
            refine J_aload_n rfl (i := 0) rfl dX8_parse_80 ?_
            refine J_geti kls_8 (q := 1) (k := 4) sh_1 (by decide) rfl gw_152 dX8_parse_81 ?_
            exact J_fini (ty := .int) rfl rfl dX8_parse_84 hw
          · replace hw := hw.2 hb14
            refine J_aload_n rfl (i := 0) rfl dX8_parse_75 ?_
            refine J_iconst (v := 1) (by decide) dX8_parse_76 ?_
            obtain ⟨m13, hc11, hw⟩ := hw
            refine J_callV (as := [.int 1]) (k := 1) (st := []) cal_X8_fail cai_X8_fail gw_568 ⟨by decide, by decide⟩ cnt_X8_fail sh_1 rfl rfl (Nat.le_of_ble_eq_true rfl) dX8_parse_77 (Nat.zero_add _).symm (Nat.zero_add _).symm hc11 ?_
            refine J_aload_n rfl (i := 0) rfl dX8_parse_80 ?_
            refine J_geti kls_8 (q := 1) (k := 4) sh_1 (by decide) rfl gw_152 dX8_parse_81 ?_
            exact J_fini (ty := .int) rfl rfl dX8_parse_84 hw
      · replace hw := hw.2 hb19
        refine J_aload_n rfl (i := 0) rfl dX8_parse_48 ?_
        refine J_aload_n rfl (i := 1) rfl dX8_parse_49 ?_
        refine J_iload_n rfl (i := 2) rfl dX8_parse_50 ?_
        obtain ⟨v17, m18, hc16, hw⟩ := hw
        refine J_callV (as := [.ref 13, .int x2]) (k := 1) (st := []) cal_X8_parseStatement cai_X8_parseStatement gw_501 ⟨by decide, by decide⟩ cnt_X8_parseStatement sh_1 rfl rfl (Nat.le_of_ble_eq_true rfl) dX8_parse_51 (Nat.zero_add _).symm (Nat.zero_add _).symm hc16 ?_
        refine J_istore_n [(2, .int v17), (0, .ref 1), (1, .ref 13), (3, .int x3)] rfl (i := 2) (by decide) rfl dX8_parse_54 ?_
        refine J_iinc [(3, .int (x3 + 1)), (2, .int v17), (0, .ref 1), (1, .ref 13)] (i := 3) (v := (x3 + 1)) rfl rfl (by decide) rfl dX8_parse_55 ?_
        refine J_goto (tgt := 27) dX8_parse_58 (by decide) ?_
        exact J_sub [2, 3, 1, 0] rfl hw
theorem dX8_parseStatement_0 : decode cX8_parseStatement 0 = .ok (.aload_n 0, 1) := by decide +kernel
theorem dX8_parseStatement_1 : decode cX8_parseStatement 1 = .ok (.invokevirtual 54, 3) := by decide +kernel
theorem dX8_parseStatement_4 : decode cX8_parseStatement 4 = .ok (.istore_n 3, 1) := by decide +kernel
theorem dX8_parseStatement_5 : decode cX8_parseStatement 5 = .ok (.iload_n 3, 1) := by decide +kernel
theorem dX8_parseStatement_6 : decode cX8_parseStatement 6 = .ok (.iload_n 2, 1) := by decide +kernel
theorem dX8_parseStatement_7 : decode cX8_parseStatement 7 = .ok (.if_icmp .lt 11, 3) := by decide +kernel
theorem dX8_parseStatement_10 : decode cX8_parseStatement 10 = .ok (.aload_n 1, 1) := by decide +kernel
theorem dX8_parseStatement_11 : decode cX8_parseStatement 11 = .ok (.iload_n 3, 1) := by decide +kernel
theorem dX8_parseStatement_12 : decode cX8_parseStatement 12 = .ok (.invokestatic 58, 3) := by decide +kernel
theorem dX8_parseStatement_15 : decode cX8_parseStatement 15 = .ok (.ifCond .ne 10, 3) := by decide +kernel
theorem dX8_parseStatement_18 : decode cX8_parseStatement 18 = .ok (.aload_n 0, 1) := by decide +kernel
theorem dX8_parseStatement_19 : decode cX8_parseStatement 19 = .ok (.iconst 1, 1) := by decide +kernel
theorem dX8_parseStatement_20 : decode cX8_parseStatement 20 = .ok (.invokevirtual 50, 3) := by decide +kernel
theorem dX8_parseStatement_23 : decode cX8_parseStatement 23 = .ok (.iload_n 2, 1) := by decide +kernel
theorem dX8_parseStatement_24 : decode cX8_parseStatement 24 = .ok (.ireturn, 1) := by decide +kernel
theorem dX8_parseStatement_25 : decode cX8_parseStatement 25 = .ok (.aload_n 1, 1) := by decide +kernel
theorem dX8_parseStatement_26 : decode cX8_parseStatement 26 = .ok (.iload_n 3, 1) := by decide +kernel
theorem dX8_parseStatement_27 : decode cX8_parseStatement 27 = .ok (.invokevirtual 62, 3) := by decide +kernel
theorem dX8_parseStatement_30 : decode cX8_parseStatement 30 = .ok (.ifCond .eq 10, 3) := by decide +kernel
theorem dX8_parseStatement_33 : decode cX8_parseStatement 33 = .ok (.aload_n 0, 1) := by decide +kernel
theorem dX8_parseStatement_34 : decode cX8_parseStatement 34 = .ok (.iconst 4, 1) := by decide +kernel
theorem dX8_parseStatement_35 : decode cX8_parseStatement 35 = .ok (.invokevirtual 50, 3) := by decide +kernel
theorem dX8_parseStatement_38 : decode cX8_parseStatement 38 = .ok (.iload_n 2, 1) := by decide +kernel
theorem dX8_parseStatement_39 : decode cX8_parseStatement 39 = .ok (.ireturn, 1) := by decide +kernel
theorem dX8_parseStatement_40 : decode cX8_parseStatement 40 = .ok (.aload_n 0, 1) := by decide +kernel
theorem dX8_parseStatement_41 : decode cX8_parseStatement 41 = .ok (.iload_n 3, 1) := by decide +kernel
theorem dX8_parseStatement_42 : decode cX8_parseStatement 42 = .ok (.invokevirtual 66, 3) := by decide +kernel
theorem dX8_parseStatement_45 : decode cX8_parseStatement 45 = .ok (.aload_n 0, 1) := by decide +kernel
theorem dX8_parseStatement_46 : decode cX8_parseStatement 46 = .ok (.getfield 31, 3) := by decide +kernel
theorem dX8_parseStatement_49 : decode cX8_parseStatement 49 = .ok (.ifCond .ne 20, 3) := by decide +kernel
theorem dX8_parseStatement_52 : decode cX8_parseStatement 52 = .ok (.aload_n 0, 1) := by decide +kernel
theorem dX8_parseStatement_53 : decode cX8_parseStatement 53 = .ok (.invokevirtual 37, 3) := by decide +kernel
theorem dX8_parseStatement_56 : decode cX8_parseStatement 56 = .ok (.aload_n 0, 1) := by decide +kernel
theorem dX8_parseStatement_57 : decode cX8_parseStatement 57 = .ok (.getfield 40, 3) := by decide +kernel
theorem dX8_parseStatement_60 : decode cX8_parseStatement 60 = .ok (.iconst 3, 1) := by decide +kernel
theorem dX8_parseStatement_61 : decode cX8_parseStatement 61 = .ok (.if_icmp .eq 8, 3) := by decide +kernel
theorem dX8_parseStatement_64 : decode cX8_parseStatement 64 = .ok (.aload_n 0, 1) := by decide +kernel
theorem dX8_parseStatement_65 : decode cX8_parseStatement 65 = .ok (.iconst 1, 1) := by decide +kernel
theorem dX8_parseStatement_66 : decode cX8_parseStatement 66 = .ok (.invokevirtual 50, 3) := by decide +kernel
theorem dX8_parseStatement_69 : decode cX8_parseStatement 69 = .ok (.aload_n 0, 1) := by decide +kernel
theorem dX8_parseStatement_70 : decode cX8_parseStatement 70 = .ok (.getfield 31, 3) := by decide +kernel
theorem dX8_parseStatement_73 : decode cX8_parseStatement 73 = .ok (.ifCond .ne 16, 3) := by decide +kernel
theorem dX8_parseStatement_76 : decode cX8_parseStatement 76 = .ok (.aload_n 1, 1) := by decide +kernel
theorem dX8_parseStatement_77 : decode cX8_parseStatement 77 = .ok (.iload_n 3, 1) := by decide +kernel
theorem dX8_parseStatement_78 : decode cX8_parseStatement 78 = .ok (.aload_n 0, 1) := by decide +kernel
theorem dX8_parseStatement_79 : decode cX8_parseStatement 79 = .ok (.getfield 15, 3) := by decide +kernel
theorem dX8_parseStatement_82 : decode cX8_parseStatement 82 = .ok (.invokevirtual 69, 3) := by decide +kernel
theorem dX8_parseStatement_85 : decode cX8_parseStatement 85 = .ok (.aload_n 0, 1) := by decide +kernel
theorem dX8_parseStatement_86 : decode cX8_parseStatement 86 = .ok (.invokevirtual 37, 3) := by decide +kernel
theorem dX8_parseStatement_89 : decode cX8_parseStatement 89 = .ok (.iload_n 3, 1) := by decide +kernel
theorem dX8_parseStatement_90 : decode cX8_parseStatement 90 = .ok (.ireturn, 1) := by decide +kernel
set_option maxRecDepth 20000 in
theorem bX8_parseStatement_0 {G : Gx} {mm : Nat → Nat → Int32} {lm : Nat → Int64} {x2 : Int32} {o : Ou} {z : Wd} {a b : Nat} (hw : ∃ (v2 : Int32), Ct G M_X8_statementOfToken [.ref 1] (SH, mm, lm) false (.inl (some (.int v2))) (SH, mm, lm) false 0 0 ∧ ((v2 < x2) → ∃ (m6 : Nat → Nat → Int32), Ct G M_X8_fail [.ref 1, .int 1] (SH, mm, lm) false (.inl none) (SH, m6, lm) false 0 0 ∧ o = .inl (some (.int x2)) ∧ z = (SH, m6, lm)) ∧ ((¬ v2 < x2) → ∃ (v8 : Int32), Ct G M_X8_mayStand [.ref 13, .int v2] (SH, mm, lm) false (.inl (some (.int v8))) (SH, mm, lm) false 0 0 ∧ ((¬ v8 = 0) → ∃ (v11 : Int32), Ct G M_X7_isFull [.ref 13, .int v2] (SH, mm, lm) false (.inl (some (.int v11))) (SH, mm, lm) false 0 0 ∧ ((v11 = 0) → ∃ (m15 : Nat → Nat → Int32), Ct G M_X8_parseNumbers [.ref 1, .int v2] (SH, mm, lm) false (.inl none) (SH, m15, lm) false 0 0 ∧ ((¬ (m15 1 4) = 0) → ((¬ (m15 1 4) = 0) → o = .inl (some (.int v2)) ∧ z = (SH, m15, lm)) ∧ (((m15 1 4) = 0) → ∃ (m18 : Nat → Nat → Int32), Ct G M_X7_add [.ref 13, .int v2, .ref 3] (SH, m15, lm) false (.inl none) (SH, m18, lm) false 0 0 ∧ ∃ (m21 : Nat → Nat → Int32), Ct G M_X8_readToken [.ref 1] (SH, m18, lm) false (.inl none) (SH, m21, lm) false 0 0 ∧ o = .inl (some (.int v2)) ∧ z = (SH, m21, lm))) ∧ (((m15 1 4) = 0) → ∃ (m25 : Nat → Nat → Int32), Ct G M_X8_readToken [.ref 1] (SH, m15, lm) false (.inl none) (SH, m25, lm) false 0 0 ∧ (((m25 1 7) = 3) → ((¬ (m25 1 4) = 0) → o = .inl (some (.int v2)) ∧ z = (SH, m25, lm)) ∧ (((m25 1 4) = 0) → ∃ (m28 : Nat → Nat → Int32), Ct G M_X7_add [.ref 13, .int v2, .ref 3] (SH, m25, lm) false (.inl none) (SH, m28, lm) false 0 0 ∧ ∃ (m31 : Nat → Nat → Int32), Ct G M_X8_readToken [.ref 1] (SH, m28, lm) false (.inl none) (SH, m31, lm) false 0 0 ∧ o = .inl (some (.int v2)) ∧ z = (SH, m31, lm))) ∧ ((¬ (m25 1 7) = 3) → ∃ (m35 : Nat → Nat → Int32), Ct G M_X8_fail [.ref 1, .int 1] (SH, m25, lm) false (.inl none) (SH, m35, lm) false 0 0 ∧ ((¬ (m35 1 4) = 0) → o = .inl (some (.int v2)) ∧ z = (SH, m35, lm)) ∧ (((m35 1 4) = 0) → ∃ (m38 : Nat → Nat → Int32), Ct G M_X7_add [.ref 13, .int v2, .ref 3] (SH, m35, lm) false (.inl none) (SH, m38, lm) false 0 0 ∧ ∃ (m41 : Nat → Nat → Int32), Ct G M_X8_readToken [.ref 1] (SH, m38, lm) false (.inl none) (SH, m41, lm) false 0 0 ∧ o = .inl (some (.int v2)) ∧ z = (SH, m41, lm))))) ∧ ((¬ v11 = 0) → ∃ (m47 : Nat → Nat → Int32), Ct G M_X8_fail [.ref 1, .int 4] (SH, mm, lm) false (.inl none) (SH, m47, lm) false 0 0 ∧ o = .inl (some (.int x2)) ∧ z = (SH, m47, lm))) ∧ ((v8 = 0) → ∃ (m51 : Nat → Nat → Int32), Ct G M_X8_fail [.ref 1, .int 1] (SH, mm, lm) false (.inl none) (SH, m51, lm) false 0 0 ∧ o = .inl (some (.int x2)) ∧ z = (SH, m51, lm)))) :
    J G M_X8_parseStatement 0 [(0, .ref 1), (1, .ref 13), (2, .int x2)] [] (SH, mm, lm) false o z false a b := by
  refine J_aload_n rfl (i := 0) rfl dX8_parseStatement_0 ?_
  obtain ⟨v2, hc1, hw⟩ := hw
  refine J_callV (as := []) (k := 1) (st := []) cal_X8_statementOfToken cai_X8_statementOfToken gw_505 ⟨by decide, by decide⟩ cnt_X8_statementOfToken sh_1 rfl rfl (Nat.le_of_ble_eq_true rfl) dX8_parseStatement_1 (Nat.zero_add _).symm (Nat.zero_add _).symm hc1 ?_
  refine J_istore_n [(3, .int v2), (0, .ref 1), (1, .ref 13), (2, .int x2)] rfl (i := 3) (by decide) rfl dX8_parseStatement_4 ?_
  refine J_iload_n rfl (i := 3) rfl dX8_parseStatement_5 ?_
  refine J_iload_n rfl (i := 2) rfl dX8_parseStatement_6 ?_
  refine J_icmp_lt (tgt := 18) dX8_parseStatement_7 (by decide) (fun hb53 => ?_) (fun hb53 => ?_)
  · replace hw := hw.1 hb53
    refine J_aload_n rfl (i := 0) rfl dX8_parseStatement_18 ?_
    refine J_iconst (v := 1) (by decide) dX8_parseStatement_19 ?_
    obtain ⟨m6, hc4, hw⟩ := hw
    refine J_callV (as := [.int 1]) (k := 1) (st := []) cal_X8_fail cai_X8_fail gw_568 ⟨by decide, by decide⟩ cnt_X8_fail sh_1 rfl rfl (Nat.le_of_ble_eq_true rfl) dX8_parseStatement_20 (Nat.zero_add _).symm (Nat.zero_add _).symm hc4 ?_
    refine J_iload_n rfl (i := 2) rfl dX8_parseStatement_23 ?_
    exact J_fini (ty := .int) rfl rfl dX8_parseStatement_24 hw
  · replace hw := hw.2 hb53
    refine J_aload_n rfl (i := 1) rfl dX8_parseStatement_10 ?_
    refine J_iload_n rfl (i := 3) rfl dX8_parseStatement_11 ?_
    obtain ⟨v8, hc7, hw⟩ := hw
    refine J_callS (as := [.ref 13, .int v2]) (st := []) cal_X8_mayStand cas_X8_mayStand gw_565 ⟨by decide, by decide⟩ cnt_X8_mayStand rfl (Nat.le_of_ble_eq_true rfl) dX8_parseStatement_12 (Nat.zero_add _).symm (Nat.zero_add _).symm hc7 ?_
    refine J_if_ne (tgt := 25) dX8_parseStatement_15 (by decide) (fun hb52 => ?_) (fun hb52 => ?_)
    · replace hw := hw.1 hb52
      refine J_aload_n rfl (i := 1) rfl dX8_parseStatement_25 ?_
      refine J_iload_n rfl (i := 3) rfl dX8_parseStatement_26 ?_
      obtain ⟨v11, hc10, hw⟩ := hw
      refine J_callV (as := [.int v2]) (k := 13) (st := []) cal_X7_isFull cai_X7_isFull gw_572 ⟨by decide, by decide⟩ cnt_X7_isFull sh_13 rfl rfl (Nat.le_of_ble_eq_true rfl) dX8_parseStatement_27 (Nat.zero_add _).symm (Nat.zero_add _).symm hc10 ?_
      refine J_if_eq (tgt := 40) dX8_parseStatement_30 (by decide) (fun hb48 => ?_) (fun hb48 => ?_)
      · replace hw := hw.1 hb48
        refine J_aload_n rfl (i := 0) rfl dX8_parseStatement_40 ?_
        refine J_iload_n rfl (i := 3) rfl dX8_parseStatement_41 ?_
        obtain ⟨m15, hc13, hw⟩ := hw
        refine J_callV (as := [.int v2]) (k := 1) (st := []) cal_X8_parseNumbers cai_X8_parseNumbers gw_576 ⟨by decide, by decide⟩ cnt_X8_parseNumbers sh_1 rfl rfl (Nat.le_of_ble_eq_true rfl) dX8_parseStatement_42 (Nat.zero_add _).symm (Nat.zero_add _).symm hc13 ?_
        refine J_aload_n rfl (i := 0) rfl dX8_parseStatement_45 ?_
        refine J_geti kls_8 (q := 1) (k := 4) sh_1 (by decide) rfl gw_152 dX8_parseStatement_46 ?_
        refine J_if_ne (tgt := 69) dX8_parseStatement_49 (by decide) (fun hb44 => ?_) (fun hb44 => ?_)
        · replace hw := hw.1 hb44
          refine J_aload_n rfl (i := 0) rfl dX8_parseStatement_69 ?_
          refine J_geti kls_8 (q := 1) (k := 4) sh_1 (by decide) rfl gw_152 dX8_parseStatement_70 ?_
          refine J_if_ne (tgt := 89) dX8_parseStatement_73 (by decide) (fun hb22 => ?_) (fun hb22 => ?_)
          · replace hw := hw.1 hb22
            refine J_iload_n rfl (i := 3) rfl dX8_parseStatement_89 ?_
            exact J_fini (ty := .int) rfl rfl dX8_parseStatement_90 hw
          · replace hw := hw.2 hb22
            refine J_aload_n rfl (i := 1) rfl dX8_parseStatement_76 ?_
            refine J_iload_n rfl (i := 3) rfl dX8_parseStatement_77 ?_
            refine J_aload_n rfl (i := 0) rfl dX8_parseStatement_78 ?_
            refine J_getr kls_8 (q := 1) (k := 1) sh_1 (by decide) rfl gw_147 dX8_parseStatement_79 ?_
            obtain ⟨m18, hc16, hw⟩ := hw
            refine J_callV (as := [.int v2, .ref 3]) (k := 13) (st := []) cal_X7_add cai_X7_add gw_586 ⟨by decide, by decide⟩ cnt_X7_add sh_13 rfl rfl (Nat.le_of_ble_eq_true rfl) dX8_parseStatement_82 (Nat.zero_add _).symm (Nat.zero_add _).symm hc16 ?_
            refine J_aload_n rfl (i := 0) rfl dX8_parseStatement_85 ?_
            obtain ⟨m21, hc19, hw⟩ := hw
            refine J_callV (as := []) (k := 1) (st := []) cal_X8_readToken cai_X8_readToken gw_475 ⟨by decide, by decide⟩ cnt_X8_readToken sh_1 rfl rfl (Nat.le_of_ble_eq_true rfl) dX8_parseStatement_86 (Nat.zero_add _).symm (Nat.zero_add _).symm hc19 ?_
            refine J_iload_n rfl (i := 3) rfl dX8_parseStatement_89 ?_
            exact J_fini (ty := .int) rfl rfl dX8_parseStatement_90 hw
        · replace hw := hw.2 hb44
          refine J_aload_n rfl (i := 0) rfl dX8_parseStatement_52 ?_
          obtain ⟨m25, hc23, hw⟩ := hw
          refine J_callV (as := []) (k := 1) (st := []) cal_X8_readToken cai_X8_readToken gw_475 ⟨by decide, by decide⟩ cnt_X8_readToken sh_1 rfl rfl (Nat.le_of_ble_eq_true rfl) dX8_parseStatement_53 (Nat.zero_add _).symm (Nat.zero_add _).symm hc23 ?_
          refine J_aload_n rfl (i := 0) rfl dX8_parseStatement_56 ?_
          refine J_geti kls_8 (q := 1) (k := 7) sh_1 (by decide) rfl gw_155 dX8_parseStatement_57 ?_
          refine J_iconst (v := 3) (by decide) dX8_parseStatement_60 ?_
          refine J_icmp_eq (tgt := 69) dX8_parseStatement_61 (by decide) (fun hb43 => ?_) (fun hb43 => ?_)
          · replace hw := hw.1 hb43
            refine J_aload_n rfl (i := 0) rfl dX8_parseStatement_69 ?_
            refine J_geti kls_8 (q := 1) (k := 4) sh_1 (by decide) rfl gw_152 dX8_parseStatement_70 ?_
            refine J_if_ne (tgt := 89) dX8_parseStatement_73 (by decide) (fun hb32 => ?_) (fun hb32 => ?_)
            · replace hw := hw.1 hb32
              refine J_iload_n rfl (i := 3) rfl dX8_parseStatement_89 ?_
              exact J_fini (ty := .int) rfl rfl dX8_parseStatement_90 hw
            · replace hw := hw.2 hb32
              refine J_aload_n rfl (i := 1) rfl dX8_parseStatement_76 ?_
              refine J_iload_n rfl (i := 3) rfl dX8_parseStatement_77 ?_
              refine J_aload_n rfl (i := 0) rfl dX8_parseStatement_78 ?_
              refine J_getr kls_8 (q := 1) (k := 1) sh_1 (by decide) rfl gw_147 dX8_parseStatement_79 ?_
              obtain ⟨m28, hc26, hw⟩ := hw
              refine J_callV (as := [.int v2, .ref 3]) (k := 13) (st := []) cal_X7_add cai_X7_add gw_586 ⟨by decide, by decide⟩ cnt_X7_add sh_13 rfl rfl (Nat.le_of_ble_eq_true rfl) dX8_parseStatement_82 (Nat.zero_add _).symm (Nat.zero_add _).symm hc26 ?_
              refine J_aload_n rfl (i := 0) rfl dX8_parseStatement_85 ?_
              obtain ⟨m31, hc29, hw⟩ := hw
              refine J_callV (as := []) (k := 1) (st := []) cal_X8_readToken cai_X8_readToken gw_475 ⟨by decide, by decide⟩ cnt_X8_readToken sh_1 rfl rfl (Nat.le_of_ble_eq_true rfl) dX8_parseStatement_86 (Nat.zero_add _).symm (Nat.zero_add _).symm hc29 ?_
              refine J_iload_n rfl (i := 3) rfl dX8_parseStatement_89 ?_
              exact J_fini (ty := .int) rfl rfl dX8_parseStatement_90 hw
          · replace hw := hw.2 hb43
            refine J_aload_n rfl (i := 0) rfl dX8_parseStatement_64 ?_
            refine J_iconst (v := 1) (by decide) dX8_parseStatement_65 ?_
            obtain ⟨m35, hc33, hw⟩ := hw
            refine J_callV (as := [.int 1]) (k := 1) (st := []) cal_X8_fail cai_X8_fail gw_568 ⟨by decide, by decide⟩ cnt_X8_fail sh_1 rfl rfl (Nat.le_of_ble_eq_true rfl) dX8_parseStatement_66 (Nat.zero_add _).symm (Nat.zero_add _).symm hc33 ?_
            refine J_aload_n rfl (i := 0) rfl dX8_parseStatement_69 ?_
            refine J_geti kls_8 (q := 1) (k := 4) sh_1 (by decide) rfl gw_152 dX8_parseStatement_70 ?_
            refine J_if_ne (tgt := 89) dX8_parseStatement_73 (by decide) (fun hb42 => ?_) (fun hb42 => ?_)
            · replace hw := hw.1 hb42
              refine J_iload_n rfl (i := 3) rfl dX8_parseStatement_89 ?_
              exact J_fini (ty := .int) rfl rfl dX8_parseStatement_90 hw
            · replace hw := hw.2 hb42
              refine J_aload_n rfl (i := 1) rfl dX8_parseStatement_76 ?_
              refine J_iload_n rfl (i := 3) rfl dX8_parseStatement_77 ?_
              refine J_aload_n rfl (i := 0) rfl dX8_parseStatement_78 ?_
              refine J_getr kls_8 (q := 1) (k := 1) sh_1 (by decide) rfl gw_147 dX8_parseStatement_79 ?_
              obtain ⟨m38, hc36, hw⟩ := hw
              refine J_callV (as := [.int v2, .ref 3]) (k := 13) (st := []) cal_X7_add cai_X7_add gw_586 ⟨by decide, by decide⟩ cnt_X7_add sh_13 rfl rfl (Nat.le_of_ble_eq_true rfl) dX8_parseStatement_82 (Nat.zero_add _).symm (Nat.zero_add _).symm hc36 ?_
              refine J_aload_n rfl (i := 0) rfl dX8_parseStatement_85 ?_
              obtain ⟨m41, hc39, hw⟩ := hw
              refine J_callV (as := []) (k := 1) (st := []) cal_X8_readToken cai_X8_readToken gw_475 ⟨by decide, by decide⟩ cnt_X8_readToken sh_1 rfl rfl (Nat.le_of_ble_eq_true rfl) dX8_parseStatement_86 (Nat.zero_add _).symm (Nat.zero_add _).symm hc39 ?_
              refine J_iload_n rfl (i := 3) rfl dX8_parseStatement_89 ?_
              exact J_fini (ty := .int) rfl rfl dX8_parseStatement_90 hw
      · replace hw := hw.2 hb48
        refine J_aload_n rfl (i := 0) rfl dX8_parseStatement_33 ?_
        refine J_iconst (v := 4) (by decide) dX8_parseStatement_34 ?_
        obtain ⟨m47, hc45, hw⟩ := hw
        refine J_callV (as := [.int 4]) (k := 1) (st := []) cal_X8_fail cai_X8_fail gw_568 ⟨by decide, by decide⟩ cnt_X8_fail sh_1 rfl rfl (Nat.le_of_ble_eq_true rfl) dX8_parseStatement_35 (Nat.zero_add _).symm (Nat.zero_add _).symm hc45 ?_
        refine J_iload_n rfl (i := 2) rfl dX8_parseStatement_38 ?_
        exact J_fini (ty := .int) rfl rfl dX8_parseStatement_39 hw
    · replace hw := hw.2 hb52
      refine J_aload_n rfl (i := 0) rfl dX8_parseStatement_18 ?_
      refine J_iconst (v := 1) (by decide) dX8_parseStatement_19 ?_
      obtain ⟨m51, hc49, hw⟩ := hw
      refine J_callV (as := [.int 1]) (k := 1) (st := []) cal_X8_fail cai_X8_fail gw_568 ⟨by decide, by decide⟩ cnt_X8_fail sh_1 rfl rfl (Nat.le_of_ble_eq_true rfl) dX8_parseStatement_20 (Nat.zero_add _).symm (Nat.zero_add _).symm hc49 ?_
      refine J_iload_n rfl (i := 2) rfl dX8_parseStatement_23 ?_
      exact J_fini (ty := .int) rfl rfl dX8_parseStatement_24 hw
theorem dX8_mayStand_0 : decode cX8_mayStand 0 = .ok (.iload_n 1, 1) := by decide +kernel
theorem dX8_mayStand_1 : decode cX8_mayStand 1 = .ok (.ifCond .ne 5, 3) := by decide +kernel
theorem dX8_mayStand_4 : decode cX8_mayStand 4 = .ok (.iconst 1, 1) := by decide +kernel
theorem dX8_mayStand_5 : decode cX8_mayStand 5 = .ok (.ireturn, 1) := by decide +kernel
theorem dX8_mayStand_6 : decode cX8_mayStand 6 = .ok (.aload_n 0, 1) := by decide +kernel
theorem dX8_mayStand_7 : decode cX8_mayStand 7 = .ok (.getfield 73, 3) := by decide +kernel
theorem dX8_mayStand_10 : decode cX8_mayStand 10 = .ok (.ifCond .le 19, 3) := by decide +kernel
theorem dX8_mayStand_13 : decode cX8_mayStand 13 = .ok (.iload_n 1, 1) := by decide +kernel
theorem dX8_mayStand_14 : decode cX8_mayStand 14 = .ok (.iconst 1, 1) := by decide +kernel
theorem dX8_mayStand_15 : decode cX8_mayStand 15 = .ok (.if_icmp .eq 10, 3) := by decide +kernel
theorem dX8_mayStand_18 : decode cX8_mayStand 18 = .ok (.aload_n 0, 1) := by decide +kernel
theorem dX8_mayStand_19 : decode cX8_mayStand 19 = .ok (.getfield 47, 3) := by decide +kernel
theorem dX8_mayStand_22 : decode cX8_mayStand 22 = .ok (.ifCond .le 7, 3) := by decide +kernel
theorem dX8_mayStand_25 : decode cX8_mayStand 25 = .ok (.iconst 1, 1) := by decide +kernel
theorem dX8_mayStand_26 : decode cX8_mayStand 26 = .ok (.goto 4, 3) := by decide +kernel
theorem dX8_mayStand_29 : decode cX8_mayStand 29 = .ok (.iconst 0, 1) := by decide +kernel
theorem dX8_mayStand_30 : decode cX8_mayStand 30 = .ok (.ireturn, 1) := by decide +kernel
set_option maxRecDepth 20000 in
theorem bX8_mayStand_0 {G : Gx} {mm : Nat → Nat → Int32} {lm : Nat → Int64} {x1 : Int32} {o : Ou} {z : Wd} {a b : Nat} (hw : ((¬ x1 = 0) → (((mm 13 8) ≤ 0) → o = .inl (some (.int 0)) ∧ z = (SH, mm, lm)) ∧ ((¬ (mm 13 8) ≤ 0) → ((x1 = 1) → o = .inl (some (.int 1)) ∧ z = (SH, mm, lm)) ∧ ((¬ x1 = 1) → (((mm 13 9) ≤ 0) → o = .inl (some (.int 0)) ∧ z = (SH, mm, lm)) ∧ ((¬ (mm 13 9) ≤ 0) → o = .inl (some (.int 1)) ∧ z = (SH, mm, lm))))) ∧ ((x1 = 0) → o = .inl (some (.int 1)) ∧ z = (SH, mm, lm))) :
    J G M_X8_mayStand 0 [(0, .ref 13), (1, .int x1)] [] (SH, mm, lm) false o z false a b := by
  refine J_iload_n rfl (i := 1) rfl dX8_mayStand_0 ?_
  refine J_if_ne (tgt := 6) dX8_mayStand_1 (by decide) (fun hb4 => ?_) (fun hb4 => ?_)
  · replace hw := hw.1 hb4
    refine J_aload_n rfl (i := 0) rfl dX8_mayStand_6 ?_
    refine J_geti kls_7 (q := 13) (k := 8) sh_13 (by decide) rfl gw_202 dX8_mayStand_7 ?_
    refine J_if_le (tgt := 29) dX8_mayStand_10 (by decide) (fun hb3 => ?_) (fun hb3 => ?_)
    · replace hw := hw.1 hb3
      refine J_iconst (v := 0) (by decide) dX8_mayStand_29 ?_
      exact J_fini (ty := .boolean) rfl rfl dX8_mayStand_30 hw
    · replace hw := hw.2 hb3
      refine J_iload_n rfl (i := 1) rfl dX8_mayStand_13 ?_
      refine J_iconst (v := 1) (by decide) dX8_mayStand_14 ?_
      refine J_icmp_eq (tgt := 25) dX8_mayStand_15 (by decide) (fun hb2 => ?_) (fun hb2 => ?_)
      · replace hw := hw.1 hb2
        refine J_iconst (v := 1) (by decide) dX8_mayStand_25 ?_
        refine J_goto (tgt := 30) dX8_mayStand_26 (by decide) ?_
        exact J_fini (ty := .boolean) rfl rfl dX8_mayStand_30 hw
      · replace hw := hw.2 hb2
        refine J_aload_n rfl (i := 0) rfl dX8_mayStand_18 ?_
        refine J_geti kls_7 (q := 13) (k := 9) sh_13 (by decide) rfl gw_210 dX8_mayStand_19 ?_
        refine J_if_le (tgt := 29) dX8_mayStand_22 (by decide) (fun hb1 => ?_) (fun hb1 => ?_)
        · replace hw := hw.1 hb1
          refine J_iconst (v := 0) (by decide) dX8_mayStand_29 ?_
          exact J_fini (ty := .boolean) rfl rfl dX8_mayStand_30 hw
        · replace hw := hw.2 hb1
          refine J_iconst (v := 1) (by decide) dX8_mayStand_25 ?_
          refine J_goto (tgt := 30) dX8_mayStand_26 (by decide) ?_
          exact J_fini (ty := .boolean) rfl rfl dX8_mayStand_30 hw
  · replace hw := hw.2 hb4
    refine J_iconst (v := 1) (by decide) dX8_mayStand_4 ?_
    exact J_fini (ty := .boolean) rfl rfl dX8_mayStand_5 hw
theorem dX8_parseNumbers_0 : decode cX8_parseNumbers 0 = .ok (.iload_n 1, 1) := by decide +kernel
theorem dX8_parseNumbers_1 : decode cX8_parseNumbers 1 = .ok (.ifCond .lt 8, 3) := by decide +kernel
theorem dX8_parseNumbers_4 : decode cX8_parseNumbers 4 = .ok (.iload_n 1, 1) := by decide +kernel
theorem dX8_parseNumbers_5 : decode cX8_parseNumbers 5 = .ok (.iconst 3, 1) := by decide +kernel
theorem dX8_parseNumbers_6 : decode cX8_parseNumbers 6 = .ok (.if_icmp .le 4, 3) := by decide +kernel
theorem dX8_parseNumbers_9 : decode cX8_parseNumbers 9 = .ok (.return_, 1) := by decide +kernel
theorem dX8_parseNumbers_10 : decode cX8_parseNumbers 10 = .ok (.getstatic 76, 3) := by decide +kernel
theorem dX8_parseNumbers_13 : decode cX8_parseNumbers 13 = .ok (.iload_n 1, 1) := by decide +kernel
theorem dX8_parseNumbers_14 : decode cX8_parseNumbers 14 = .ok (.iaload, 1) := by decide +kernel
theorem dX8_parseNumbers_15 : decode cX8_parseNumbers 15 = .ok (.istore_n 2, 1) := by decide +kernel
theorem dX8_parseNumbers_16 : decode cX8_parseNumbers 16 = .ok (.getstatic 76, 3) := by decide +kernel
theorem dX8_parseNumbers_19 : decode cX8_parseNumbers 19 = .ok (.iload_n 1, 1) := by decide +kernel
theorem dX8_parseNumbers_20 : decode cX8_parseNumbers 20 = .ok (.iconst 1, 1) := by decide +kernel
theorem dX8_parseNumbers_21 : decode cX8_parseNumbers 21 = .ok (.iadd, 1) := by decide +kernel
theorem dX8_parseNumbers_22 : decode cX8_parseNumbers 22 = .ok (.iaload, 1) := by decide +kernel
theorem dX8_parseNumbers_23 : decode cX8_parseNumbers 23 = .ok (.iload_n 2, 1) := by decide +kernel
theorem dX8_parseNumbers_24 : decode cX8_parseNumbers 24 = .ok (.isub, 1) := by decide +kernel
theorem dX8_parseNumbers_25 : decode cX8_parseNumbers 25 = .ok (.istore_n 3, 1) := by decide +kernel
theorem dX8_parseNumbers_26 : decode cX8_parseNumbers 26 = .ok (.iconst 0, 1) := by decide +kernel
theorem dX8_parseNumbers_27 : decode cX8_parseNumbers 27 = .ok (.istore 4, 2) := by decide +kernel
theorem dX8_parseNumbers_29 : decode cX8_parseNumbers 29 = .ok (.iload 4, 2) := by decide +kernel
theorem dX8_parseNumbers_31 : decode cX8_parseNumbers 31 = .ok (.iload_n 3, 1) := by decide +kernel
theorem dX8_parseNumbers_32 : decode cX8_parseNumbers 32 = .ok (.if_icmp .ge 124, 3) := by decide +kernel
theorem dX8_parseNumbers_35 : decode cX8_parseNumbers 35 = .ok (.iload 4, 2) := by decide +kernel
theorem dX8_parseNumbers_37 : decode cX8_parseNumbers 37 = .ok (.aload_n 0, 1) := by decide +kernel
theorem dX8_parseNumbers_38 : decode cX8_parseNumbers 38 = .ok (.getfield 15, 3) := by decide +kernel
theorem dX8_parseNumbers_41 : decode cX8_parseNumbers 41 = .ok (.arraylength, 1) := by decide +kernel
theorem dX8_parseNumbers_42 : decode cX8_parseNumbers 42 = .ok (.if_icmp .ge 114, 3) := by decide +kernel
theorem dX8_parseNumbers_45 : decode cX8_parseNumbers 45 = .ok (.aload_n 0, 1) := by decide +kernel
theorem dX8_parseNumbers_46 : decode cX8_parseNumbers 46 = .ok (.getfield 31, 3) := by decide +kernel
theorem dX8_parseNumbers_49 : decode cX8_parseNumbers 49 = .ok (.ifCond .ne 107, 3) := by decide +kernel
theorem dX8_parseNumbers_52 : decode cX8_parseNumbers 52 = .ok (.aload_n 0, 1) := by decide +kernel
theorem dX8_parseNumbers_53 : decode cX8_parseNumbers 53 = .ok (.invokevirtual 37, 3) := by decide +kernel
theorem dX8_parseNumbers_56 : decode cX8_parseNumbers 56 = .ok (.aload_n 0, 1) := by decide +kernel
theorem dX8_parseNumbers_57 : decode cX8_parseNumbers 57 = .ok (.getfield 15, 3) := by decide +kernel
theorem dX8_parseNumbers_60 : decode cX8_parseNumbers 60 = .ok (.iload 4, 2) := by decide +kernel
theorem dX8_parseNumbers_62 : decode cX8_parseNumbers 62 = .ok (.aload_n 0, 1) := by decide +kernel
theorem dX8_parseNumbers_63 : decode cX8_parseNumbers 63 = .ok (.getfield 79, 3) := by decide +kernel
theorem dX8_parseNumbers_66 : decode cX8_parseNumbers 66 = .ok (.iastore, 1) := by decide +kernel
theorem dX8_parseNumbers_67 : decode cX8_parseNumbers 67 = .ok (.aload_n 0, 1) := by decide +kernel
theorem dX8_parseNumbers_68 : decode cX8_parseNumbers 68 = .ok (.getfield 40, 3) := by decide +kernel
theorem dX8_parseNumbers_71 : decode cX8_parseNumbers 71 = .ok (.iconst 2, 1) := by decide +kernel
theorem dX8_parseNumbers_72 : decode cX8_parseNumbers 72 = .ok (.if_icmp .eq 11, 3) := by decide +kernel
theorem dX8_parseNumbers_75 : decode cX8_parseNumbers 75 = .ok (.aload_n 0, 1) := by decide +kernel
theorem dX8_parseNumbers_76 : decode cX8_parseNumbers 76 = .ok (.iconst 1, 1) := by decide +kernel
theorem dX8_parseNumbers_77 : decode cX8_parseNumbers 77 = .ok (.invokevirtual 50, 3) := by decide +kernel
theorem dX8_parseNumbers_80 : decode cX8_parseNumbers 80 = .ok (.goto 70, 3) := by decide +kernel
theorem dX8_parseNumbers_83 : decode cX8_parseNumbers 83 = .ok (.aload_n 0, 1) := by decide +kernel
theorem dX8_parseNumbers_84 : decode cX8_parseNumbers 84 = .ok (.getfield 79, 3) := by decide +kernel
theorem dX8_parseNumbers_87 : decode cX8_parseNumbers 87 = .ok (.getstatic 82, 3) := by decide +kernel
theorem dX8_parseNumbers_90 : decode cX8_parseNumbers 90 = .ok (.iload_n 2, 1) := by decide +kernel
theorem dX8_parseNumbers_91 : decode cX8_parseNumbers 91 = .ok (.iload 4, 2) := by decide +kernel
theorem dX8_parseNumbers_93 : decode cX8_parseNumbers 93 = .ok (.iadd, 1) := by decide +kernel
theorem dX8_parseNumbers_94 : decode cX8_parseNumbers 94 = .ok (.iaload, 1) := by decide +kernel
theorem dX8_parseNumbers_95 : decode cX8_parseNumbers 95 = .ok (.if_icmp .lt 18, 3) := by decide +kernel
theorem dX8_parseNumbers_98 : decode cX8_parseNumbers 98 = .ok (.aload_n 0, 1) := by decide +kernel
theorem dX8_parseNumbers_99 : decode cX8_parseNumbers 99 = .ok (.getfield 79, 3) := by decide +kernel
theorem dX8_parseNumbers_102 : decode cX8_parseNumbers 102 = .ok (.getstatic 85, 3) := by decide +kernel
theorem dX8_parseNumbers_105 : decode cX8_parseNumbers 105 = .ok (.iload_n 2, 1) := by decide +kernel
theorem dX8_parseNumbers_106 : decode cX8_parseNumbers 106 = .ok (.iload 4, 2) := by decide +kernel
theorem dX8_parseNumbers_108 : decode cX8_parseNumbers 108 = .ok (.iadd, 1) := by decide +kernel
theorem dX8_parseNumbers_109 : decode cX8_parseNumbers 109 = .ok (.iaload, 1) := by decide +kernel
theorem dX8_parseNumbers_110 : decode cX8_parseNumbers 110 = .ok (.if_icmp .le 11, 3) := by decide +kernel
theorem dX8_parseNumbers_113 : decode cX8_parseNumbers 113 = .ok (.aload_n 0, 1) := by decide +kernel
theorem dX8_parseNumbers_114 : decode cX8_parseNumbers 114 = .ok (.iconst 2, 1) := by decide +kernel
theorem dX8_parseNumbers_115 : decode cX8_parseNumbers 115 = .ok (.invokevirtual 50, 3) := by decide +kernel
theorem dX8_parseNumbers_118 : decode cX8_parseNumbers 118 = .ok (.goto 32, 3) := by decide +kernel
theorem dX8_parseNumbers_121 : decode cX8_parseNumbers 121 = .ok (.iload_n 1, 1) := by decide +kernel
theorem dX8_parseNumbers_122 : decode cX8_parseNumbers 122 = .ok (.iconst 2, 1) := by decide +kernel
theorem dX8_parseNumbers_123 : decode cX8_parseNumbers 123 = .ok (.if_icmp .ne 27, 3) := by decide +kernel
theorem dX8_parseNumbers_126 : decode cX8_parseNumbers 126 = .ok (.iload 4, 2) := by decide +kernel
theorem dX8_parseNumbers_128 : decode cX8_parseNumbers 128 = .ok (.iconst 1, 1) := by decide +kernel
theorem dX8_parseNumbers_129 : decode cX8_parseNumbers 129 = .ok (.if_icmp .ne 21, 3) := by decide +kernel
theorem dX8_parseNumbers_132 : decode cX8_parseNumbers 132 = .ok (.aload_n 0, 1) := by decide +kernel
theorem dX8_parseNumbers_133 : decode cX8_parseNumbers 133 = .ok (.getfield 79, 3) := by decide +kernel
theorem dX8_parseNumbers_136 : decode cX8_parseNumbers 136 = .ok (.aload_n 0, 1) := by decide +kernel
theorem dX8_parseNumbers_137 : decode cX8_parseNumbers 137 = .ok (.getfield 15, 3) := by decide +kernel
theorem dX8_parseNumbers_140 : decode cX8_parseNumbers 140 = .ok (.iconst 0, 1) := by decide +kernel
theorem dX8_parseNumbers_141 : decode cX8_parseNumbers 141 = .ok (.iaload, 1) := by decide +kernel
theorem dX8_parseNumbers_142 : decode cX8_parseNumbers 142 = .ok (.if_icmp .gt 8, 3) := by decide +kernel
theorem dX8_parseNumbers_145 : decode cX8_parseNumbers 145 = .ok (.aload_n 0, 1) := by decide +kernel
theorem dX8_parseNumbers_146 : decode cX8_parseNumbers 146 = .ok (.iconst 3, 1) := by decide +kernel
theorem dX8_parseNumbers_147 : decode cX8_parseNumbers 147 = .ok (.invokevirtual 50, 3) := by decide +kernel
theorem dX8_parseNumbers_150 : decode cX8_parseNumbers 150 = .ok (.iinc 4 1, 3) := by decide +kernel
theorem dX8_parseNumbers_153 : decode cX8_parseNumbers 153 = .ok (.goto (-124), 3) := by decide +kernel
theorem dX8_parseNumbers_156 : decode cX8_parseNumbers 156 = .ok (.return_, 1) := by decide +kernel
set_option maxRecDepth 20000 in
theorem bX8_parseNumbers_0 {G : Gx} {mm : Nat → Nat → Int32} {lm : Nat → Int64} {x1 : Int32} {o : Ou} {z : Wd} {a b : Nat} (hw : ((x1 < 0) → o = .inl none ∧ z = (SH, mm, lm)) ∧ ((¬ x1 < 0) → ((x1 ≤ 3) → ∃ j1 : Nat, x1 = nI j1 ∧ j1 < 5 ∧ ∃ j2 : Nat, (x1 + 1) = nI j2 ∧ j2 < 5 ∧ J G M_X8_parseNumbers 29 [(0, .ref 1), (1, .int x1), (2, .int (tl_1002.getD j1 0)), (3, .int ((tl_1002.getD j2 0) - (tl_1002.getD j1 0))), (4, .int 0)] [] (SH, mm, lm) false o z false a b) ∧ ((¬ x1 ≤ 3) → o = .inl none ∧ z = (SH, mm, lm)))) :
    J G M_X8_parseNumbers 0 [(0, .ref 1), (1, .int x1)] [] (SH, mm, lm) false o z false a b := by
  refine J_iload_n rfl (i := 1) rfl dX8_parseNumbers_0 ?_
  refine J_if_lt (tgt := 9) dX8_parseNumbers_1 (by decide) (fun hb4 => ?_) (fun hb4 => ?_)
  · replace hw := hw.1 hb4
    exact J_finv rfl dX8_parseNumbers_9 hw
  · replace hw := hw.2 hb4
    refine J_iload_n rfl (i := 1) rfl dX8_parseNumbers_4 ?_
    refine J_iconst (v := 3) (by decide) dX8_parseNumbers_5 ?_
    refine J_icmp_le (tgt := 10) dX8_parseNumbers_6 (by decide) (fun hb3 => ?_) (fun hb3 => ?_)
    · replace hw := hw.1 hb3
      refine J_gets tb_1002 gw_580 dX8_parseNumbers_10 ?_
      refine J_iload_n rfl (i := 1) rfl dX8_parseNumbers_13 ?_
      obtain ⟨j1, ej1, hj1, hw⟩ := hw
      refine J_tab tb_1002 ej1 hj1 (by decide) dX8_parseNumbers_14 ?_
      refine J_istore_n [(2, .int (tl_1002.getD j1 0)), (0, .ref 1), (1, .int x1)] rfl (i := 2) (by decide) rfl dX8_parseNumbers_15 ?_
      refine J_gets tb_1002 gw_580 dX8_parseNumbers_16 ?_
      refine J_iload_n rfl (i := 1) rfl dX8_parseNumbers_19 ?_
      refine J_iconst (v := 1) (by decide) dX8_parseNumbers_20 ?_
      refine J_iadd dX8_parseNumbers_21 ?_
      obtain ⟨j2, ej2, hj2, hw⟩ := hw
      refine J_tab tb_1002 ej2 hj2 (by decide) dX8_parseNumbers_22 ?_
      refine J_iload_n rfl (i := 2) rfl dX8_parseNumbers_23 ?_
      refine J_isub dX8_parseNumbers_24 ?_
      refine J_istore_n [(3, .int ((tl_1002.getD j2 0) - (tl_1002.getD j1 0))), (2, .int (tl_1002.getD j1 0)), (0, .ref 1), (1, .int x1)] rfl (i := 3) (by decide) rfl dX8_parseNumbers_25 ?_
      refine J_iconst (v := 0) (by decide) dX8_parseNumbers_26 ?_
      refine J_istore [(4, .int 0), (3, .int ((tl_1002.getD j2 0) - (tl_1002.getD j1 0))), (2, .int (tl_1002.getD j1 0)), (0, .ref 1), (1, .int x1)] (i := 4) (by decide) rfl dX8_parseNumbers_27 ?_
      exact J_sub [3, 4, 2, 1, 0] rfl hw
    · replace hw := hw.2 hb3
      exact J_finv rfl dX8_parseNumbers_9 hw
set_option maxRecDepth 20000 in
theorem bX8_parseNumbers_29 {G : Gx} {mm : Nat → Nat → Int32} {lm : Nat → Int64} {x1 : Int32} {x2 : Int32} {x3 : Int32} {x4 : Int32} {o : Ou} {z : Wd} {a b : Nat} (hw : ((x3 ≤ x4) → o = .inl none ∧ z = (SH, mm, lm)) ∧ ((¬ x3 ≤ x4) → ((3 ≤ x4) → o = .inl none ∧ z = (SH, mm, lm)) ∧ ((¬ 3 ≤ x4) → ((¬ (mm 1 4) = 0) → o = .inl none ∧ z = (SH, mm, lm)) ∧ (((mm 1 4) = 0) → ∃ (m3 : Nat → Nat → Int32), Ct G M_X8_readToken [.ref 1] (SH, mm, lm) false (.inl none) (SH, m3, lm) false 0 0 ∧ ∃ j4 : Nat, x4 = nI j4 ∧ j4 < 3 ∧ ((((mset m3 3 j4 (m3 1 8)) 1 7) = 2) → ∃ j5 : Nat, (x2 + x4) = nI j5 ∧ j5 < 8 ∧ ((((mset m3 3 j4 (m3 1 8)) 1 8) < (tl_1003.getD j5 0)) → ∃ (m8 : Nat → Nat → Int32), Ct G M_X8_fail [.ref 1, .int 2] (SH, (mset m3 3 j4 (m3 1 8)), lm) false (.inl none) (SH, m8, lm) false 0 0 ∧ J G M_X8_parseNumbers 29 [(0, .ref 1), (1, .int x1), (2, .int x2), (3, .int x3), (4, .int (x4 + 1))] [] (SH, m8, lm) false o z false a b) ∧ ((¬ ((mset m3 3 j4 (m3 1 8)) 1 8) < (tl_1003.getD j5 0)) → ∃ j9 : Nat, (x2 + x4) = nI j9 ∧ j9 < 8 ∧ ((((mset m3 3 j4 (m3 1 8)) 1 8) ≤ (tl_1004.getD j9 0)) → ((¬ x1 = 2) → J G M_X8_parseNumbers 29 [(0, .ref 1), (1, .int x1), (2, .int x2), (3, .int x3), (4, .int (x4 + 1))] [] (SH, (mset m3 3 j4 (m3 1 8)), lm) false o z false a b) ∧ ((x1 = 2) → ((¬ x4 = 1) → J G M_X8_parseNumbers 29 [(0, .ref 1), (1, .int x1), (2, .int x2), (3, .int x3), (4, .int (x4 + 1))] [] (SH, (mset m3 3 j4 (m3 1 8)), lm) false o z false a b) ∧ ((x4 = 1) → ∃ j10 : Nat, 0 = nI j10 ∧ j10 < 3 ∧ ((((mset m3 3 j4 (m3 1 8)) 3 j10) < ((mset m3 3 j4 (m3 1 8)) 1 8)) → J G M_X8_parseNumbers 29 [(0, .ref 1), (1, .int x1), (2, .int x2), (3, .int x3), (4, .int (x4 + 1))] [] (SH, (mset m3 3 j4 (m3 1 8)), lm) false o z false a b) ∧ ((¬ ((mset m3 3 j4 (m3 1 8)) 3 j10) < ((mset m3 3 j4 (m3 1 8)) 1 8)) → ∃ (m13 : Nat → Nat → Int32), Ct G M_X8_fail [.ref 1, .int 3] (SH, (mset m3 3 j4 (m3 1 8)), lm) false (.inl none) (SH, m13, lm) false 0 0 ∧ J G M_X8_parseNumbers 29 [(0, .ref 1), (1, .int x1), (2, .int x2), (3, .int x3), (4, .int (x4 + 1))] [] (SH, m13, lm) false o z false a b)))) ∧ ((¬ ((mset m3 3 j4 (m3 1 8)) 1 8) ≤ (tl_1004.getD j9 0)) → ∃ (m19 : Nat → Nat → Int32), Ct G M_X8_fail [.ref 1, .int 2] (SH, (mset m3 3 j4 (m3 1 8)), lm) false (.inl none) (SH, m19, lm) false 0 0 ∧ J G M_X8_parseNumbers 29 [(0, .ref 1), (1, .int x1), (2, .int x2), (3, .int x3), (4, .int (x4 + 1))] [] (SH, m19, lm) false o z false a b))) ∧ ((¬ ((mset m3 3 j4 (m3 1 8)) 1 7) = 2) → ∃ (m24 : Nat → Nat → Int32), Ct G M_X8_fail [.ref 1, .int 1] (SH, (mset m3 3 j4 (m3 1 8)), lm) false (.inl none) (SH, m24, lm) false 0 0 ∧ J G M_X8_parseNumbers 29 [(0, .ref 1), (1, .int x1), (2, .int x2), (3, .int x3), (4, .int (x4 + 1))] [] (SH, m24, lm) false o z false a b))))) :
    J G M_X8_parseNumbers 29 [(0, .ref 1), (1, .int x1), (2, .int x2), (3, .int x3), (4, .int x4)] [] (SH, mm, lm) false o z false a b := by
  refine J_iload (i := 4) rfl dX8_parseNumbers_29 ?_
  refine J_iload_n rfl (i := 3) rfl dX8_parseNumbers_31 ?_
  refine J_icmp_ge (tgt := 156) dX8_parseNumbers_32 (by decide) (fun hb28 => ?_) (fun hb28 => ?_)
  · replace hw := hw.1 hb28
    exact J_finv rfl dX8_parseNumbers_156 hw
  · replace hw := hw.2 hb28
    refine J_iload (i := 4) rfl dX8_parseNumbers_35 ?_
    refine J_aload_n rfl (i := 0) rfl dX8_parseNumbers_37 ?_
    refine J_getr kls_8 (q := 1) (k := 1) sh_1 (by decide) rfl gw_147 dX8_parseNumbers_38 ?_
    refine J_alen (v := 3) sh_3 (by decide) (by decide) dX8_parseNumbers_41 ?_
    refine J_icmp_ge (tgt := 156) dX8_parseNumbers_42 (by decide) (fun hb27 => ?_) (fun hb27 => ?_)
    · replace hw := hw.1 hb27
      exact J_finv rfl dX8_parseNumbers_156 hw
    · replace hw := hw.2 hb27
      refine J_aload_n rfl (i := 0) rfl dX8_parseNumbers_45 ?_
      refine J_geti kls_8 (q := 1) (k := 4) sh_1 (by decide) rfl gw_152 dX8_parseNumbers_46 ?_
      refine J_if_ne (tgt := 156) dX8_parseNumbers_49 (by decide) (fun hb26 => ?_) (fun hb26 => ?_)
      · replace hw := hw.1 hb26
        exact J_finv rfl dX8_parseNumbers_156 hw
      · replace hw := hw.2 hb26
        refine J_aload_n rfl (i := 0) rfl dX8_parseNumbers_52 ?_
        obtain ⟨m3, hc1, hw⟩ := hw
        refine J_callV (as := []) (k := 1) (st := []) cal_X8_readToken cai_X8_readToken gw_475 ⟨by decide, by decide⟩ cnt_X8_readToken sh_1 rfl rfl (Nat.le_of_ble_eq_true rfl) dX8_parseNumbers_53 (Nat.zero_add _).symm (Nat.zero_add _).symm hc1 ?_
        refine J_aload_n rfl (i := 0) rfl dX8_parseNumbers_56 ?_
        refine J_getr kls_8 (q := 1) (k := 1) sh_1 (by decide) rfl gw_147 dX8_parseNumbers_57 ?_
        refine J_iload (i := 4) rfl dX8_parseNumbers_60 ?_
        refine J_aload_n rfl (i := 0) rfl dX8_parseNumbers_62 ?_
        refine J_geti kls_8 (q := 1) (k := 8) sh_1 (by decide) rfl gw_156 dX8_parseNumbers_63 ?_
        obtain ⟨j4, ej4, hj4, hw⟩ := hw
        refine J_iast sh_3 ej4 hj4 (by decide) dX8_parseNumbers_66 ?_
        refine J_aload_n rfl (i := 0) rfl dX8_parseNumbers_67 ?_
        refine J_geti kls_8 (q := 1) (k := 7) sh_1 (by decide) rfl gw_155 dX8_parseNumbers_68 ?_
        refine J_iconst (v := 2) (by decide) dX8_parseNumbers_71 ?_
        refine J_icmp_eq (tgt := 83) dX8_parseNumbers_72 (by decide) (fun hb25 => ?_) (fun hb25 => ?_)
        · replace hw := hw.1 hb25
          refine J_aload_n rfl (i := 0) rfl dX8_parseNumbers_83 ?_
          refine J_geti kls_8 (q := 1) (k := 8) sh_1 (by decide) rfl gw_156 dX8_parseNumbers_84 ?_
          refine J_gets tb_1003 gw_582 dX8_parseNumbers_87 ?_
          refine J_iload_n rfl (i := 2) rfl dX8_parseNumbers_90 ?_
          refine J_iload (i := 4) rfl dX8_parseNumbers_91 ?_
          refine J_iadd dX8_parseNumbers_93 ?_
          obtain ⟨j5, ej5, hj5, hw⟩ := hw
          refine J_tab tb_1003 ej5 hj5 (by decide) dX8_parseNumbers_94 ?_
          refine J_icmp_lt (tgt := 113) dX8_parseNumbers_95 (by decide) (fun hb21 => ?_) (fun hb21 => ?_)
          · replace hw := hw.1 hb21
            refine J_aload_n rfl (i := 0) rfl dX8_parseNumbers_113 ?_
            refine J_iconst (v := 2) (by decide) dX8_parseNumbers_114 ?_
            obtain ⟨m8, hc6, hw⟩ := hw
            refine J_callV (as := [.int 2]) (k := 1) (st := []) cal_X8_fail cai_X8_fail gw_568 ⟨by decide, by decide⟩ cnt_X8_fail sh_1 rfl rfl (Nat.le_of_ble_eq_true rfl) dX8_parseNumbers_115 (Nat.zero_add _).symm (Nat.zero_add _).symm hc6 ?_
            refine J_goto (tgt := 150) dX8_parseNumbers_118 (by decide) ?_
            refine J_iinc [(4, .int (x4 + 1)), (0, .ref 1), (1, .int x1), (2, .int x2), (3, .int x3)] (i := 4) (v := (x4 + 1)) rfl rfl (by decide) rfl dX8_parseNumbers_150 ?_
            refine J_goto (tgt := 29) dX8_parseNumbers_153 (by decide) ?_
            exact J_sub [1, 2, 3, 4, 0] rfl hw
          · replace hw := hw.2 hb21
            refine J_aload_n rfl (i := 0) rfl dX8_parseNumbers_98 ?_
            refine J_geti kls_8 (q := 1) (k := 8) sh_1 (by decide) rfl gw_156 dX8_parseNumbers_99 ?_
            refine J_gets tb_1004 gw_584 dX8_parseNumbers_102 ?_
            refine J_iload_n rfl (i := 2) rfl dX8_parseNumbers_105 ?_
            refine J_iload (i := 4) rfl dX8_parseNumbers_106 ?_
            refine J_iadd dX8_parseNumbers_108 ?_
            obtain ⟨j9, ej9, hj9, hw⟩ := hw
            refine J_tab tb_1004 ej9 hj9 (by decide) dX8_parseNumbers_109 ?_
            refine J_icmp_le (tgt := 121) dX8_parseNumbers_110 (by decide) (fun hb20 => ?_) (fun hb20 => ?_)
            · replace hw := hw.1 hb20
              refine J_iload_n rfl (i := 1) rfl dX8_parseNumbers_121 ?_
              refine J_iconst (v := 2) (by decide) dX8_parseNumbers_122 ?_
              refine J_icmp_ne (tgt := 150) dX8_parseNumbers_123 (by decide) (fun hb16 => ?_) (fun hb16 => ?_)
              · replace hw := hw.1 hb16
                refine J_iinc [(4, .int (x4 + 1)), (0, .ref 1), (1, .int x1), (2, .int x2), (3, .int x3)] (i := 4) (v := (x4 + 1)) rfl rfl (by decide) rfl dX8_parseNumbers_150 ?_
                refine J_goto (tgt := 29) dX8_parseNumbers_153 (by decide) ?_
                exact J_sub [1, 2, 3, 4, 0] rfl hw
              · replace hw := hw.2 hb16
                refine J_iload (i := 4) rfl dX8_parseNumbers_126 ?_
                refine J_iconst (v := 1) (by decide) dX8_parseNumbers_128 ?_
                refine J_icmp_ne (tgt := 150) dX8_parseNumbers_129 (by decide) (fun hb15 => ?_) (fun hb15 => ?_)
                · replace hw := hw.1 hb15
                  refine J_iinc [(4, .int (x4 + 1)), (0, .ref 1), (1, .int x1), (2, .int x2), (3, .int x3)] (i := 4) (v := (x4 + 1)) rfl rfl (by decide) rfl dX8_parseNumbers_150 ?_
                  refine J_goto (tgt := 29) dX8_parseNumbers_153 (by decide) ?_
                  exact J_sub [1, 2, 3, 4, 0] rfl hw
                · replace hw := hw.2 hb15
                  refine J_aload_n rfl (i := 0) rfl dX8_parseNumbers_132 ?_
                  refine J_geti kls_8 (q := 1) (k := 8) sh_1 (by decide) rfl gw_156 dX8_parseNumbers_133 ?_
                  refine J_aload_n rfl (i := 0) rfl dX8_parseNumbers_136 ?_
                  refine J_getr kls_8 (q := 1) (k := 1) sh_1 (by decide) rfl gw_147 dX8_parseNumbers_137 ?_
                  refine J_iconst (v := 0) (by decide) dX8_parseNumbers_140 ?_
                  obtain ⟨j10, ej10, hj10, hw⟩ := hw
                  refine J_iald sh_3 ej10 hj10 (by decide) dX8_parseNumbers_141 ?_
                  refine J_icmp_gt (tgt := 150) dX8_parseNumbers_142 (by decide) (fun hb14 => ?_) (fun hb14 => ?_)
                  · replace hw := hw.1 hb14
                    refine J_iinc [(4, .int (x4 + 1)), (0, .ref 1), (1, .int x1), (2, .int x2), (3, .int x3)] (i := 4) (v := (x4 + 1)) rfl rfl (by decide) rfl dX8_parseNumbers_150 ?_
                    refine J_goto (tgt := 29) dX8_parseNumbers_153 (by decide) ?_
                    exact J_sub [1, 2, 3, 4, 0] rfl hw
                  · replace hw := hw.2 hb14
                    refine J_aload_n rfl (i := 0) rfl dX8_parseNumbers_145 ?_
                    refine J_iconst (v := 3) (by decide) dX8_parseNumbers_146 ?_
                    obtain ⟨m13, hc11, hw⟩ := hw
                    refine J_callV (as := [.int 3]) (k := 1) (st := []) cal_X8_fail cai_X8_fail gw_568 ⟨by decide, by decide⟩ cnt_X8_fail sh_1 rfl rfl (Nat.le_of_ble_eq_true rfl) dX8_parseNumbers_147 (Nat.zero_add _).symm (Nat.zero_add _).symm hc11 ?_
                    refine J_iinc [(4, .int (x4 + 1)), (0, .ref 1), (1, .int x1), (2, .int x2), (3, .int x3)] (i := 4) (v := (x4 + 1)) rfl rfl (by decide) rfl dX8_parseNumbers_150 ?_
                    refine J_goto (tgt := 29) dX8_parseNumbers_153 (by decide) ?_
                    exact J_sub [1, 2, 3, 4, 0] rfl hw
            · replace hw := hw.2 hb20
              refine J_aload_n rfl (i := 0) rfl dX8_parseNumbers_113 ?_
              refine J_iconst (v := 2) (by decide) dX8_parseNumbers_114 ?_
              obtain ⟨m19, hc17, hw⟩ := hw
              refine J_callV (as := [.int 2]) (k := 1) (st := []) cal_X8_fail cai_X8_fail gw_568 ⟨by decide, by decide⟩ cnt_X8_fail sh_1 rfl rfl (Nat.le_of_ble_eq_true rfl) dX8_parseNumbers_115 (Nat.zero_add _).symm (Nat.zero_add _).symm hc17 ?_
              refine J_goto (tgt := 150) dX8_parseNumbers_118 (by decide) ?_
              refine J_iinc [(4, .int (x4 + 1)), (0, .ref 1), (1, .int x1), (2, .int x2), (3, .int x3)] (i := 4) (v := (x4 + 1)) rfl rfl (by decide) rfl dX8_parseNumbers_150 ?_
              refine J_goto (tgt := 29) dX8_parseNumbers_153 (by decide) ?_
              exact J_sub [1, 2, 3, 4, 0] rfl hw
        · replace hw := hw.2 hb25
          refine J_aload_n rfl (i := 0) rfl dX8_parseNumbers_75 ?_
          refine J_iconst (v := 1) (by decide) dX8_parseNumbers_76 ?_
          obtain ⟨m24, hc22, hw⟩ := hw
          refine J_callV (as := [.int 1]) (k := 1) (st := []) cal_X8_fail cai_X8_fail gw_568 ⟨by decide, by decide⟩ cnt_X8_fail sh_1 rfl rfl (Nat.le_of_ble_eq_true rfl) dX8_parseNumbers_77 (Nat.zero_add _).symm (Nat.zero_add _).symm hc22 ?_
          refine J_goto (tgt := 150) dX8_parseNumbers_80 (by decide) ?_
          refine J_iinc [(4, .int (x4 + 1)), (0, .ref 1), (1, .int x1), (2, .int x2), (3, .int x3)] (i := 4) (v := (x4 + 1)) rfl rfl (by decide) rfl dX8_parseNumbers_150 ?_
          refine J_goto (tgt := 29) dX8_parseNumbers_153 (by decide) ?_
          exact J_sub [1, 2, 3, 4, 0] rfl hw
theorem dX8_fail_0 : decode cX8_fail 0 = .ok (.aload_n 0, 1) := by decide +kernel
theorem dX8_fail_1 : decode cX8_fail 1 = .ok (.iload_n 1, 1) := by decide +kernel
theorem dX8_fail_2 : decode cX8_fail 2 = .ok (.putfield 31, 3) := by decide +kernel
theorem dX8_fail_5 : decode cX8_fail 5 = .ok (.aload_n 0, 1) := by decide +kernel
theorem dX8_fail_6 : decode cX8_fail 6 = .ok (.aload_n 0, 1) := by decide +kernel
theorem dX8_fail_7 : decode cX8_fail 7 = .ok (.getfield 88, 3) := by decide +kernel
theorem dX8_fail_10 : decode cX8_fail 10 = .ok (.putfield 19, 3) := by decide +kernel
theorem dX8_fail_13 : decode cX8_fail 13 = .ok (.return_, 1) := by decide +kernel
set_option maxRecDepth 20000 in
theorem bX8_fail_0 {G : Gx} {mm : Nat → Nat → Int32} {lm : Nat → Int64} {x1 : Int32} {o : Ou} {z : Wd} {a b : Nat} (hw : o = .inl none ∧ z = (SH, (mset (mset mm 1 4 x1) 1 3 ((mset mm 1 4 x1) 1 6)), lm)) :
    J G M_X8_fail 0 [(0, .ref 1), (1, .int x1)] [] (SH, mm, lm) false o z false a b := by
  refine J_aload_n rfl (i := 0) rfl dX8_fail_0 ?_
  refine J_iload_n rfl (i := 1) rfl dX8_fail_1 ?_
  refine J_puti kls_8 (q := 1) (k := 4) sh_1 (by decide) rfl rfl (fun _ => rfl) (fun _ => rfl) gw_152 dX8_fail_2 ?_
  refine J_aload_n rfl (i := 0) rfl dX8_fail_5 ?_
  refine J_aload_n rfl (i := 0) rfl dX8_fail_6 ?_
  refine J_geti kls_8 (q := 1) (k := 6) sh_1 (by decide) rfl gw_154 dX8_fail_7 ?_
  refine J_puti kls_8 (q := 1) (k := 3) sh_1 (by decide) rfl rfl (fun _ => rfl) (fun _ => rfl) gw_150 dX8_fail_10 ?_
  exact J_finv rfl dX8_fail_13 hw
theorem dX8_statementOfToken_0 : decode cX8_statementOfToken 0 = .ok (.aload_n 0, 1) := by decide +kernel
theorem dX8_statementOfToken_1 : decode cX8_statementOfToken 1 = .ok (.getfield 40, 3) := by decide +kernel
theorem dX8_statementOfToken_4 : decode cX8_statementOfToken 4 = .ok (.iconst 1, 1) := by decide +kernel
theorem dX8_statementOfToken_5 : decode cX8_statementOfToken 5 = .ok (.if_icmp .eq 5, 3) := by decide +kernel
theorem dX8_statementOfToken_8 : decode cX8_statementOfToken 8 = .ok (.iconst (-1), 1) := by decide +kernel
theorem dX8_statementOfToken_9 : decode cX8_statementOfToken 9 = .ok (.ireturn, 1) := by decide +kernel
theorem dX8_statementOfToken_10 : decode cX8_statementOfToken 10 = .ok (.aload_n 0, 1) := by decide +kernel
theorem dX8_statementOfToken_11 : decode cX8_statementOfToken 11 = .ok (.ldc 91, 2) := by decide +kernel
theorem dX8_statementOfToken_13 : decode cX8_statementOfToken 13 = .ok (.invokevirtual 93, 3) := by decide +kernel
theorem dX8_statementOfToken_16 : decode cX8_statementOfToken 16 = .ok (.ifCond .eq 5, 3) := by decide +kernel
theorem dX8_statementOfToken_19 : decode cX8_statementOfToken 19 = .ok (.iconst 0, 1) := by decide +kernel
theorem dX8_statementOfToken_20 : decode cX8_statementOfToken 20 = .ok (.ireturn, 1) := by decide +kernel
theorem dX8_statementOfToken_21 : decode cX8_statementOfToken 21 = .ok (.aload_n 0, 1) := by decide +kernel
theorem dX8_statementOfToken_22 : decode cX8_statementOfToken 22 = .ok (.ldc 97, 2) := by decide +kernel
theorem dX8_statementOfToken_24 : decode cX8_statementOfToken 24 = .ok (.invokevirtual 93, 3) := by decide +kernel
theorem dX8_statementOfToken_27 : decode cX8_statementOfToken 27 = .ok (.ifCond .eq 5, 3) := by decide +kernel
theorem dX8_statementOfToken_30 : decode cX8_statementOfToken 30 = .ok (.iconst 1, 1) := by decide +kernel
theorem dX8_statementOfToken_31 : decode cX8_statementOfToken 31 = .ok (.ireturn, 1) := by decide +kernel
theorem dX8_statementOfToken_32 : decode cX8_statementOfToken 32 = .ok (.aload_n 0, 1) := by decide +kernel
theorem dX8_statementOfToken_33 : decode cX8_statementOfToken 33 = .ok (.ldc 99, 2) := by decide +kernel
theorem dX8_statementOfToken_35 : decode cX8_statementOfToken 35 = .ok (.invokevirtual 93, 3) := by decide +kernel
theorem dX8_statementOfToken_38 : decode cX8_statementOfToken 38 = .ok (.ifCond .eq 5, 3) := by decide +kernel
theorem dX8_statementOfToken_41 : decode cX8_statementOfToken 41 = .ok (.iconst 2, 1) := by decide +kernel
theorem dX8_statementOfToken_42 : decode cX8_statementOfToken 42 = .ok (.ireturn, 1) := by decide +kernel
theorem dX8_statementOfToken_43 : decode cX8_statementOfToken 43 = .ok (.aload_n 0, 1) := by decide +kernel
theorem dX8_statementOfToken_44 : decode cX8_statementOfToken 44 = .ok (.ldc 101, 2) := by decide +kernel
theorem dX8_statementOfToken_46 : decode cX8_statementOfToken 46 = .ok (.invokevirtual 93, 3) := by decide +kernel
theorem dX8_statementOfToken_49 : decode cX8_statementOfToken 49 = .ok (.ifCond .eq 7, 3) := by decide +kernel
theorem dX8_statementOfToken_52 : decode cX8_statementOfToken 52 = .ok (.iconst 3, 1) := by decide +kernel
theorem dX8_statementOfToken_53 : decode cX8_statementOfToken 53 = .ok (.goto 4, 3) := by decide +kernel
theorem dX8_statementOfToken_56 : decode cX8_statementOfToken 56 = .ok (.iconst (-1), 1) := by decide +kernel
theorem dX8_statementOfToken_57 : decode cX8_statementOfToken 57 = .ok (.ireturn, 1) := by decide +kernel
set_option maxRecDepth 20000 in
theorem bX8_statementOfToken_0 {G : Gx} {mm : Nat → Nat → Int32} {lm : Nat → Int64}  {o : Ou} {z : Wd} {a b : Nat} (hw : (((mm 1 7) = 1) → ∃ (v2 : Int32), Ct G M_X8_tokenIs [.ref 1, .ref 1010] (SH, mm, lm) false (.inl (some (.int v2))) (SH, mm, lm) false 0 0 ∧ ((v2 = 0) → ∃ (v5 : Int32), Ct G M_X8_tokenIs [.ref 1, .ref 1011] (SH, mm, lm) false (.inl (some (.int v5))) (SH, mm, lm) false 0 0 ∧ ((v5 = 0) → ∃ (v8 : Int32), Ct G M_X8_tokenIs [.ref 1, .ref 1012] (SH, mm, lm) false (.inl (some (.int v8))) (SH, mm, lm) false 0 0 ∧ ((v8 = 0) → ∃ (v11 : Int32), Ct G M_X8_tokenIs [.ref 1, .ref 1013] (SH, mm, lm) false (.inl (some (.int v11))) (SH, mm, lm) false 0 0 ∧ ((v11 = 0) → o = .inl (some (.int (-1))) ∧ z = (SH, mm, lm)) ∧ ((¬ v11 = 0) → o = .inl (some (.int 3)) ∧ z = (SH, mm, lm))) ∧ ((¬ v8 = 0) → o = .inl (some (.int 2)) ∧ z = (SH, mm, lm))) ∧ ((¬ v5 = 0) → o = .inl (some (.int 1)) ∧ z = (SH, mm, lm))) ∧ ((¬ v2 = 0) → o = .inl (some (.int 0)) ∧ z = (SH, mm, lm))) ∧ ((¬ (mm 1 7) = 1) → o = .inl (some (.int (-1))) ∧ z = (SH, mm, lm))) :
    J G M_X8_statementOfToken 0 [(0, .ref 1)] [] (SH, mm, lm) false o z false a b := by
  refine J_aload_n rfl (i := 0) rfl dX8_statementOfToken_0 ?_
  refine J_geti kls_8 (q := 1) (k := 7) sh_1 (by decide) rfl gw_155 dX8_statementOfToken_1 ?_
  refine J_iconst (v := 1) (by decide) dX8_statementOfToken_4 ?_
  refine J_icmp_eq (tgt := 10) dX8_statementOfToken_5 (by decide) (fun hb17 => ?_) (fun hb17 => ?_)
  · replace hw := hw.1 hb17
    refine J_aload_n rfl (i := 0) rfl dX8_statementOfToken_10 ?_
    refine J_ldcS st_RX8_91 dX8_statementOfToken_11 ?_
    obtain ⟨v2, hc1, hw⟩ := hw
    refine J_callV (as := [.ref 1010]) (k := 1) (st := []) cal_X8_tokenIs cai_X8_tokenIs gw_510 ⟨by decide, by decide⟩ cnt_X8_tokenIs sh_1 rfl rfl (Nat.le_of_ble_eq_true rfl) dX8_statementOfToken_13 (Nat.zero_add _).symm (Nat.zero_add _).symm hc1 ?_
    refine J_if_eq (tgt := 21) dX8_statementOfToken_16 (by decide) (fun hb16 => ?_) (fun hb16 => ?_)
    · replace hw := hw.1 hb16
      refine J_aload_n rfl (i := 0) rfl dX8_statementOfToken_21 ?_
      refine J_ldcS st_RX8_97 dX8_statementOfToken_22 ?_
      obtain ⟨v5, hc4, hw⟩ := hw
      refine J_callV (as := [.ref 1011]) (k := 1) (st := []) cal_X8_tokenIs cai_X8_tokenIs gw_510 ⟨by decide, by decide⟩ cnt_X8_tokenIs sh_1 rfl rfl (Nat.le_of_ble_eq_true rfl) dX8_statementOfToken_24 (Nat.zero_add _).symm (Nat.zero_add _).symm hc4 ?_
      refine J_if_eq (tgt := 32) dX8_statementOfToken_27 (by decide) (fun hb15 => ?_) (fun hb15 => ?_)
      · replace hw := hw.1 hb15
        refine J_aload_n rfl (i := 0) rfl dX8_statementOfToken_32 ?_
        refine J_ldcS st_RX8_99 dX8_statementOfToken_33 ?_
        obtain ⟨v8, hc7, hw⟩ := hw
        refine J_callV (as := [.ref 1012]) (k := 1) (st := []) cal_X8_tokenIs cai_X8_tokenIs gw_510 ⟨by decide, by decide⟩ cnt_X8_tokenIs sh_1 rfl rfl (Nat.le_of_ble_eq_true rfl) dX8_statementOfToken_35 (Nat.zero_add _).symm (Nat.zero_add _).symm hc7 ?_
        refine J_if_eq (tgt := 43) dX8_statementOfToken_38 (by decide) (fun hb14 => ?_) (fun hb14 => ?_)
        · replace hw := hw.1 hb14
          refine J_aload_n rfl (i := 0) rfl dX8_statementOfToken_43 ?_
          refine J_ldcS st_RX8_101 dX8_statementOfToken_44 ?_
          obtain ⟨v11, hc10, hw⟩ := hw
          refine J_callV (as := [.ref 1013]) (k := 1) (st := []) cal_X8_tokenIs cai_X8_tokenIs gw_510 ⟨by decide, by decide⟩ cnt_X8_tokenIs sh_1 rfl rfl (Nat.le_of_ble_eq_true rfl) dX8_statementOfToken_46 (Nat.zero_add _).symm (Nat.zero_add _).symm hc10 ?_
          refine J_if_eq (tgt := 56) dX8_statementOfToken_49 (by decide) (fun hb13 => ?_) (fun hb13 => ?_)
          · replace hw := hw.1 hb13
            refine J_iconst (v := (-1)) (by decide) dX8_statementOfToken_56 ?_
            exact J_fini (ty := .int) rfl rfl dX8_statementOfToken_57 hw
          · replace hw := hw.2 hb13
            refine J_iconst (v := 3) (by decide) dX8_statementOfToken_52 ?_
            refine J_goto (tgt := 57) dX8_statementOfToken_53 (by decide) ?_
            exact J_fini (ty := .int) rfl rfl dX8_statementOfToken_57 hw
        · replace hw := hw.2 hb14
          refine J_iconst (v := 2) (by decide) dX8_statementOfToken_41 ?_
          exact J_fini (ty := .int) rfl rfl dX8_statementOfToken_42 hw
      · replace hw := hw.2 hb15
        refine J_iconst (v := 1) (by decide) dX8_statementOfToken_30 ?_
        exact J_fini (ty := .int) rfl rfl dX8_statementOfToken_31 hw
    · replace hw := hw.2 hb16
      refine J_iconst (v := 0) (by decide) dX8_statementOfToken_19 ?_
      exact J_fini (ty := .int) rfl rfl dX8_statementOfToken_20 hw
  · replace hw := hw.2 hb17
    refine J_iconst (v := (-1)) (by decide) dX8_statementOfToken_8 ?_
    exact J_fini (ty := .int) rfl rfl dX8_statementOfToken_9 hw
theorem dX8_tokenIs_0 : decode cX8_tokenIs 0 = .ok (.aload_n 0, 1) := by decide +kernel
theorem dX8_tokenIs_1 : decode cX8_tokenIs 1 = .ok (.getfield 34, 3) := by decide +kernel
theorem dX8_tokenIs_4 : decode cX8_tokenIs 4 = .ok (.aload_n 0, 1) := by decide +kernel
theorem dX8_tokenIs_5 : decode cX8_tokenIs 5 = .ok (.getfield 88, 3) := by decide +kernel
theorem dX8_tokenIs_8 : decode cX8_tokenIs 8 = .ok (.isub, 1) := by decide +kernel
theorem dX8_tokenIs_9 : decode cX8_tokenIs 9 = .ok (.aload_n 1, 1) := by decide +kernel
theorem dX8_tokenIs_10 : decode cX8_tokenIs 10 = .ok (.invokevirtual 103, 3) := by decide +kernel
theorem dX8_tokenIs_13 : decode cX8_tokenIs 13 = .ok (.if_icmp .eq 5, 3) := by decide +kernel
theorem dX8_tokenIs_16 : decode cX8_tokenIs 16 = .ok (.iconst 0, 1) := by decide +kernel
theorem dX8_tokenIs_17 : decode cX8_tokenIs 17 = .ok (.ireturn, 1) := by decide +kernel
theorem dX8_tokenIs_18 : decode cX8_tokenIs 18 = .ok (.iconst 0, 1) := by decide +kernel
theorem dX8_tokenIs_19 : decode cX8_tokenIs 19 = .ok (.istore_n 2, 1) := by decide +kernel
theorem dX8_tokenIs_20 : decode cX8_tokenIs 20 = .ok (.iload_n 2, 1) := by decide +kernel
theorem dX8_tokenIs_21 : decode cX8_tokenIs 21 = .ok (.aload_n 1, 1) := by decide +kernel
theorem dX8_tokenIs_22 : decode cX8_tokenIs 22 = .ok (.invokevirtual 103, 3) := by decide +kernel
theorem dX8_tokenIs_25 : decode cX8_tokenIs 25 = .ok (.if_icmp .ge 29, 3) := by decide +kernel
theorem dX8_tokenIs_28 : decode cX8_tokenIs 28 = .ok (.aload_n 0, 1) := by decide +kernel
theorem dX8_tokenIs_29 : decode cX8_tokenIs 29 = .ok (.aload_n 0, 1) := by decide +kernel
theorem dX8_tokenIs_30 : decode cX8_tokenIs 30 = .ok (.getfield 88, 3) := by decide +kernel
theorem dX8_tokenIs_33 : decode cX8_tokenIs 33 = .ok (.iload_n 2, 1) := by decide +kernel
theorem dX8_tokenIs_34 : decode cX8_tokenIs 34 = .ok (.iadd, 1) := by decide +kernel
theorem dX8_tokenIs_35 : decode cX8_tokenIs 35 = .ok (.invokevirtual 107, 3) := by decide +kernel
theorem dX8_tokenIs_38 : decode cX8_tokenIs 38 = .ok (.aload_n 1, 1) := by decide +kernel
theorem dX8_tokenIs_39 : decode cX8_tokenIs 39 = .ok (.iload_n 2, 1) := by decide +kernel
theorem dX8_tokenIs_40 : decode cX8_tokenIs 40 = .ok (.invokevirtual 111, 3) := by decide +kernel
theorem dX8_tokenIs_43 : decode cX8_tokenIs 43 = .ok (.if_icmp .eq 5, 3) := by decide +kernel
theorem dX8_tokenIs_46 : decode cX8_tokenIs 46 = .ok (.iconst 0, 1) := by decide +kernel
theorem dX8_tokenIs_47 : decode cX8_tokenIs 47 = .ok (.ireturn, 1) := by decide +kernel
theorem dX8_tokenIs_48 : decode cX8_tokenIs 48 = .ok (.iinc 2 1, 3) := by decide +kernel
theorem dX8_tokenIs_51 : decode cX8_tokenIs 51 = .ok (.goto (-31), 3) := by decide +kernel
theorem dX8_tokenIs_54 : decode cX8_tokenIs 54 = .ok (.iconst 1, 1) := by decide +kernel
theorem dX8_tokenIs_55 : decode cX8_tokenIs 55 = .ok (.ireturn, 1) := by decide +kernel
set_option maxRecDepth 20000 in
theorem bX8_tokenIs_0 {G : Gx} {mm : Nat → Nat → Int32} {lm : Nat → Int64} {kq v : Nat} {l : List Int32} (hk : (kq, v, l) ∈ kwS) {o : Ou} {z : Wd} {a b : Nat} (hw : ∃ (v2 : Int32), Ct G M_J0_length_8abf5 [.ref kq] (SH, mm, lm) false (.inl (some (.int v2))) (SH, mm, lm) false 0 0 ∧ ((((mm 1 5) - (mm 1 6)) = v2) → J G M_X8_tokenIs 20 [(0, .ref 1), (1, .ref kq), (2, .int 0)] [] (SH, mm, lm) false o z false a b) ∧ ((¬ ((mm 1 5) - (mm 1 6)) = v2) → o = .inl (some (.int 0)) ∧ z = (SH, mm, lm))) :
    J G M_X8_tokenIs 0 [(0, .ref 1), (1, .ref kq)] [] (SH, mm, lm) false o z false a b := by
  refine J_aload_n rfl (i := 0) rfl dX8_tokenIs_0 ?_
  refine J_geti kls_8 (q := 1) (k := 5) sh_1 (by decide) rfl gw_153 dX8_tokenIs_1 ?_
  refine J_aload_n rfl (i := 0) rfl dX8_tokenIs_4 ?_
  refine J_geti kls_8 (q := 1) (k := 6) sh_1 (by decide) rfl gw_154 dX8_tokenIs_5 ?_
  refine J_isub dX8_tokenIs_8 ?_
  refine J_aload_n rfl (i := 1) rfl dX8_tokenIs_9 ?_
  obtain ⟨v2, hc1, hw⟩ := hw
  refine J_callT (as := []) (st := [.int ((mm 1 5) - (mm 1 6))]) hk cal_J0_length_8abf5 rfl cai_J0_length_8abf5 gw_514 ⟨by decide, by decide⟩ cnt_J0_length_8abf5 rfl (Nat.le_of_ble_eq_true rfl) dX8_tokenIs_10 (Nat.zero_add _).symm (Nat.zero_add _).symm hc1 ?_
  refine J_icmp_eq (tgt := 18) dX8_tokenIs_13 (by decide) (fun hb4 => ?_) (fun hb4 => ?_)
  · replace hw := hw.1 hb4
    refine J_iconst (v := 0) (by decide) dX8_tokenIs_18 ?_
    refine J_istore_n [(2, .int 0), (0, .ref 1), (1, .ref kq)] rfl (i := 2) (by decide) rfl dX8_tokenIs_19 ?_
    exact J_sub [1, 2, 0] rfl hw
  · replace hw := hw.2 hb4
    refine J_iconst (v := 0) (by decide) dX8_tokenIs_16 ?_
    exact J_fini (ty := .boolean) rfl rfl dX8_tokenIs_17 hw
set_option maxRecDepth 20000 in
theorem bX8_tokenIs_20 {G : Gx} {mm : Nat → Nat → Int32} {lm : Nat → Int64} {kq v : Nat} {l : List Int32} (hk : (kq, v, l) ∈ kwS) {x2 : Int32} {o : Ou} {z : Wd} {a b : Nat} (hw : ∃ (v2 : Int32), Ct G M_J0_length_8abf5 [.ref kq] (SH, mm, lm) false (.inl (some (.int v2))) (SH, mm, lm) false 0 0 ∧ ((v2 ≤ x2) → o = .inl (some (.int 1)) ∧ z = (SH, mm, lm)) ∧ ((¬ v2 ≤ x2) → ∃ (v5 : Int32), Ct G M_X8_byteAt [.ref 1, .int ((mm 1 6) + x2)] (SH, mm, lm) false (.inl (some (.int v5))) (SH, mm, lm) false 0 0 ∧ ∃ (v8 : Int32), Ct G M_J0_charAt_5068e [.ref kq, .int x2] (SH, mm, lm) false (.inl (some (.int v8))) (SH, mm, lm) false 0 0 ∧ ((v5 = v8) → J G M_X8_tokenIs 20 [(0, .ref 1), (1, .ref kq), (2, .int (x2 + 1))] [] (SH, mm, lm) false o z false a b) ∧ ((¬ v5 = v8) → o = .inl (some (.int 0)) ∧ z = (SH, mm, lm)))) :
    J G M_X8_tokenIs 20 [(0, .ref 1), (1, .ref kq), (2, .int x2)] [] (SH, mm, lm) false o z false a b := by
  refine J_iload_n rfl (i := 2) rfl dX8_tokenIs_20 ?_
  refine J_aload_n rfl (i := 1) rfl dX8_tokenIs_21 ?_
  obtain ⟨v2, hc1, hw⟩ := hw
  refine J_callT (as := []) (st := [.int x2]) hk cal_J0_length_8abf5 rfl cai_J0_length_8abf5 gw_514 ⟨by decide, by decide⟩ cnt_J0_length_8abf5 rfl (Nat.le_of_ble_eq_true rfl) dX8_tokenIs_22 (Nat.zero_add _).symm (Nat.zero_add _).symm hc1 ?_
  refine J_icmp_ge (tgt := 54) dX8_tokenIs_25 (by decide) (fun hb11 => ?_) (fun hb11 => ?_)
  · replace hw := hw.1 hb11
    refine J_iconst (v := 1) (by decide) dX8_tokenIs_54 ?_
    exact J_fini (ty := .boolean) rfl rfl dX8_tokenIs_55 hw
  · replace hw := hw.2 hb11
    refine J_aload_n rfl (i := 0) rfl dX8_tokenIs_28 ?_
    refine J_aload_n rfl (i := 0) rfl dX8_tokenIs_29 ?_
    refine J_geti kls_8 (q := 1) (k := 6) sh_1 (by decide) rfl gw_154 dX8_tokenIs_30 ?_
    refine J_iload_n rfl (i := 2) rfl dX8_tokenIs_33 ?_
    refine J_iadd dX8_tokenIs_34 ?_
    obtain ⟨v5, hc4, hw⟩ := hw
    refine J_callV (as := [.int ((mm 1 6) + x2)]) (k := 1) (st := []) cal_X8_byteAt cai_X8_byteAt gw_483 ⟨by decide, by decide⟩ cnt_X8_byteAt sh_1 rfl rfl (Nat.le_of_ble_eq_true rfl) dX8_tokenIs_35 (Nat.zero_add _).symm (Nat.zero_add _).symm hc4 ?_
    refine J_aload_n rfl (i := 1) rfl dX8_tokenIs_38 ?_
    refine J_iload_n rfl (i := 2) rfl dX8_tokenIs_39 ?_
    obtain ⟨v8, hc7, hw⟩ := hw
    refine J_callT (as := [.int x2]) (st := [.int v5]) hk cal_J0_charAt_5068e rfl cai_J0_charAt_5068e gw_524 ⟨by decide, by decide⟩ cnt_J0_charAt_5068e rfl (Nat.le_of_ble_eq_true rfl) dX8_tokenIs_40 (Nat.zero_add _).symm (Nat.zero_add _).symm hc7 ?_
    refine J_icmp_eq (tgt := 48) dX8_tokenIs_43 (by decide) (fun hb10 => ?_) (fun hb10 => ?_)
    · replace hw := hw.1 hb10
      refine J_iinc [(2, .int (x2 + 1)), (0, .ref 1), (1, .ref kq)] (i := 2) (v := (x2 + 1)) rfl rfl (by decide) rfl dX8_tokenIs_48 ?_
      refine J_goto (tgt := 20) dX8_tokenIs_51 (by decide) ?_
      exact J_sub [1, 2, 0] rfl hw
    · replace hw := hw.2 hb10
      refine J_iconst (v := 0) (by decide) dX8_tokenIs_46 ?_
      exact J_fini (ty := .boolean) rfl rfl dX8_tokenIs_47 hw
theorem dX8_readToken_0 : decode cX8_readToken 0 = .ok (.aload_n 0, 1) := by decide +kernel
theorem dX8_readToken_1 : decode cX8_readToken 1 = .ok (.invokevirtual 115, 3) := by decide +kernel
theorem dX8_readToken_4 : decode cX8_readToken 4 = .ok (.aload_n 0, 1) := by decide +kernel
theorem dX8_readToken_5 : decode cX8_readToken 5 = .ok (.aload_n 0, 1) := by decide +kernel
theorem dX8_readToken_6 : decode cX8_readToken 6 = .ok (.getfield 34, 3) := by decide +kernel
theorem dX8_readToken_9 : decode cX8_readToken 9 = .ok (.putfield 88, 3) := by decide +kernel
theorem dX8_readToken_12 : decode cX8_readToken 12 = .ok (.aload_n 0, 1) := by decide +kernel
theorem dX8_readToken_13 : decode cX8_readToken 13 = .ok (.iconst 0, 1) := by decide +kernel
theorem dX8_readToken_14 : decode cX8_readToken 14 = .ok (.putfield 79, 3) := by decide +kernel
theorem dX8_readToken_17 : decode cX8_readToken 17 = .ok (.aload_n 0, 1) := by decide +kernel
theorem dX8_readToken_18 : decode cX8_readToken 18 = .ok (.getfield 34, 3) := by decide +kernel
theorem dX8_readToken_21 : decode cX8_readToken 21 = .ok (.aload_n 0, 1) := by decide +kernel
theorem dX8_readToken_22 : decode cX8_readToken 22 = .ok (.getfield 23, 3) := by decide +kernel
theorem dX8_readToken_25 : decode cX8_readToken 25 = .ok (.if_icmp .lt 11, 3) := by decide +kernel
theorem dX8_readToken_28 : decode cX8_readToken 28 = .ok (.aload_n 0, 1) := by decide +kernel
theorem dX8_readToken_29 : decode cX8_readToken 29 = .ok (.iconst 0, 1) := by decide +kernel
theorem dX8_readToken_30 : decode cX8_readToken 30 = .ok (.putfield 40, 3) := by decide +kernel
theorem dX8_readToken_33 : decode cX8_readToken 33 = .ok (.goto 86, 3) := by decide +kernel
theorem dX8_readToken_36 : decode cX8_readToken 36 = .ok (.aload_n 0, 1) := by decide +kernel
theorem dX8_readToken_37 : decode cX8_readToken 37 = .ok (.aload_n 0, 1) := by decide +kernel
theorem dX8_readToken_38 : decode cX8_readToken 38 = .ok (.getfield 34, 3) := by decide +kernel
theorem dX8_readToken_41 : decode cX8_readToken 41 = .ok (.invokevirtual 107, 3) := by decide +kernel
theorem dX8_readToken_44 : decode cX8_readToken 44 = .ok (.invokestatic 118, 3) := by decide +kernel
theorem dX8_readToken_47 : decode cX8_readToken 47 = .ok (.ifCond .eq 15, 3) := by decide +kernel
theorem dX8_readToken_50 : decode cX8_readToken 50 = .ok (.aload_n 0, 1) := by decide +kernel
theorem dX8_readToken_51 : decode cX8_readToken 51 = .ok (.iconst 1, 1) := by decide +kernel
theorem dX8_readToken_52 : decode cX8_readToken 52 = .ok (.putfield 40, 3) := by decide +kernel
theorem dX8_readToken_55 : decode cX8_readToken 55 = .ok (.aload_n 0, 1) := by decide +kernel
theorem dX8_readToken_56 : decode cX8_readToken 56 = .ok (.invokevirtual 121, 3) := by decide +kernel
theorem dX8_readToken_59 : decode cX8_readToken 59 = .ok (.goto 60, 3) := by decide +kernel
theorem dX8_readToken_62 : decode cX8_readToken 62 = .ok (.aload_n 0, 1) := by decide +kernel
theorem dX8_readToken_63 : decode cX8_readToken 63 = .ok (.aload_n 0, 1) := by decide +kernel
theorem dX8_readToken_64 : decode cX8_readToken 64 = .ok (.getfield 34, 3) := by decide +kernel
theorem dX8_readToken_67 : decode cX8_readToken 67 = .ok (.invokevirtual 107, 3) := by decide +kernel
theorem dX8_readToken_70 : decode cX8_readToken 70 = .ok (.invokestatic 124, 3) := by decide +kernel
theorem dX8_readToken_73 : decode cX8_readToken 73 = .ok (.ifCond .eq 10, 3) := by decide +kernel
theorem dX8_readToken_76 : decode cX8_readToken 76 = .ok (.aload_n 0, 1) := by decide +kernel
theorem dX8_readToken_77 : decode cX8_readToken 77 = .ok (.invokevirtual 127, 3) := by decide +kernel
theorem dX8_readToken_80 : decode cX8_readToken 80 = .ok (.goto 39, 3) := by decide +kernel
theorem dX8_readToken_83 : decode cX8_readToken 83 = .ok (.aload_n 0, 1) := by decide +kernel
theorem dX8_readToken_84 : decode cX8_readToken 84 = .ok (.aload_n 0, 1) := by decide +kernel
theorem dX8_readToken_85 : decode cX8_readToken 85 = .ok (.getfield 34, 3) := by decide +kernel
theorem dX8_readToken_88 : decode cX8_readToken 88 = .ok (.invokevirtual 107, 3) := by decide +kernel
theorem dX8_readToken_91 : decode cX8_readToken 91 = .ok (.bipush 59, 2) := by decide +kernel
theorem dX8_readToken_93 : decode cX8_readToken 93 = .ok (.if_icmp .ne 21, 3) := by decide +kernel
theorem dX8_readToken_96 : decode cX8_readToken 96 = .ok (.aload_n 0, 1) := by decide +kernel
theorem dX8_readToken_97 : decode cX8_readToken 97 = .ok (.iconst 3, 1) := by decide +kernel
theorem dX8_readToken_98 : decode cX8_readToken 98 = .ok (.putfield 40, 3) := by decide +kernel
theorem dX8_readToken_101 : decode cX8_readToken 101 = .ok (.aload_n 0, 1) := by decide +kernel
theorem dX8_readToken_102 : decode cX8_readToken 102 = .ok (.dup, 1) := by decide +kernel
theorem dX8_readToken_103 : decode cX8_readToken 103 = .ok (.getfield 34, 3) := by decide +kernel
theorem dX8_readToken_106 : decode cX8_readToken 106 = .ok (.iconst 1, 1) := by decide +kernel
theorem dX8_readToken_107 : decode cX8_readToken 107 = .ok (.iadd, 1) := by decide +kernel
theorem dX8_readToken_108 : decode cX8_readToken 108 = .ok (.putfield 34, 3) := by decide +kernel
theorem dX8_readToken_111 : decode cX8_readToken 111 = .ok (.goto 8, 3) := by decide +kernel
theorem dX8_readToken_114 : decode cX8_readToken 114 = .ok (.aload_n 0, 1) := by decide +kernel
theorem dX8_readToken_115 : decode cX8_readToken 115 = .ok (.iconst 4, 1) := by decide +kernel
theorem dX8_readToken_116 : decode cX8_readToken 116 = .ok (.putfield 40, 3) := by decide +kernel
theorem dX8_readToken_119 : decode cX8_readToken 119 = .ok (.return_, 1) := by decide +kernel
set_option maxRecDepth 20000 in
theorem bX8_readToken_0 {G : Gx} {mm : Nat → Nat → Int32} {lm : Nat → Int64}  {o : Ou} {z : Wd} {a b : Nat} (hw : ∃ (m3 : Nat → Nat → Int32), Ct G M_X8_skipBlanks [.ref 1] (SH, mm, lm) false (.inl none) (SH, m3, lm) false 0 0 ∧ ((((mset (mset m3 1 6 (m3 1 5)) 1 8 0) 1 5) < ((mset (mset m3 1 6 (m3 1 5)) 1 8 0) 1 2)) → ∃ (v5 : Int32), Ct G M_X8_byteAt [.ref 1, .int ((mset (mset m3 1 6 (m3 1 5)) 1 8 0) 1 5)] (SH, (mset (mset m3 1 6 (m3 1 5)) 1 8 0), lm) false (.inl (some (.int v5))) (SH, (mset (mset m3 1 6 (m3 1 5)) 1 8 0), lm) false 0 0 ∧ ∃ (v8 : Int32), Ct G M_X8_isLetter [.int v5] (SH, (mset (mset m3 1 6 (m3 1 5)) 1 8 0), lm) false (.inl (some (.int v8))) (SH, (mset (mset m3 1 6 (m3 1 5)) 1 8 0), lm) false 0 0 ∧ ((v8 = 0) → ∃ (v11 : Int32), Ct G M_X8_byteAt [.ref 1, .int ((mset (mset m3 1 6 (m3 1 5)) 1 8 0) 1 5)] (SH, (mset (mset m3 1 6 (m3 1 5)) 1 8 0), lm) false (.inl (some (.int v11))) (SH, (mset (mset m3 1 6 (m3 1 5)) 1 8 0), lm) false 0 0 ∧ ∃ (v14 : Int32), Ct G M_X8_isDigit [.int v11] (SH, (mset (mset m3 1 6 (m3 1 5)) 1 8 0), lm) false (.inl (some (.int v14))) (SH, (mset (mset m3 1 6 (m3 1 5)) 1 8 0), lm) false 0 0 ∧ ((v14 = 0) → ∃ (v17 : Int32), Ct G M_X8_byteAt [.ref 1, .int ((mset (mset m3 1 6 (m3 1 5)) 1 8 0) 1 5)] (SH, (mset (mset m3 1 6 (m3 1 5)) 1 8 0), lm) false (.inl (some (.int v17))) (SH, (mset (mset m3 1 6 (m3 1 5)) 1 8 0), lm) false 0 0 ∧ ((¬ v17 = 59) → o = .inl none ∧ z = (SH, (mset (mset (mset m3 1 6 (m3 1 5)) 1 8 0) 1 7 4), lm)) ∧ ((v17 = 59) → o = .inl none ∧ z = (SH, (mset (mset (mset (mset m3 1 6 (m3 1 5)) 1 8 0) 1 7 3) 1 5 (((mset (mset (mset m3 1 6 (m3 1 5)) 1 8 0) 1 7 3) 1 5) + 1)), lm))) ∧ ((¬ v14 = 0) → ∃ (m22 : Nat → Nat → Int32), Ct G M_X8_readNumber [.ref 1] (SH, (mset (mset m3 1 6 (m3 1 5)) 1 8 0), lm) false (.inl none) (SH, m22, lm) false 0 0 ∧ o = .inl none ∧ z = (SH, m22, lm))) ∧ ((¬ v8 = 0) → ∃ (m26 : Nat → Nat → Int32), Ct G M_X8_skipLetters [.ref 1] (SH, (mset (mset (mset m3 1 6 (m3 1 5)) 1 8 0) 1 7 1), lm) false (.inl none) (SH, m26, lm) false 0 0 ∧ o = .inl none ∧ z = (SH, m26, lm))) ∧ ((¬ ((mset (mset m3 1 6 (m3 1 5)) 1 8 0) 1 5) < ((mset (mset m3 1 6 (m3 1 5)) 1 8 0) 1 2)) → o = .inl none ∧ z = (SH, (mset (mset (mset m3 1 6 (m3 1 5)) 1 8 0) 1 7 0), lm))) :
    J G M_X8_readToken 0 [(0, .ref 1)] [] (SH, mm, lm) false o z false a b := by
  refine J_aload_n rfl (i := 0) rfl dX8_readToken_0 ?_
  obtain ⟨m3, hc1, hw⟩ := hw
  refine J_callV (as := []) (k := 1) (st := []) cal_X8_skipBlanks cai_X8_skipBlanks gw_479 ⟨by decide, by decide⟩ cnt_X8_skipBlanks sh_1 rfl rfl (Nat.le_of_ble_eq_true rfl) dX8_readToken_1 (Nat.zero_add _).symm (Nat.zero_add _).symm hc1 ?_
  refine J_aload_n rfl (i := 0) rfl dX8_readToken_4 ?_
  refine J_aload_n rfl (i := 0) rfl dX8_readToken_5 ?_
  refine J_geti kls_8 (q := 1) (k := 5) sh_1 (by decide) rfl gw_153 dX8_readToken_6 ?_
  refine J_puti kls_8 (q := 1) (k := 6) sh_1 (by decide) rfl rfl (fun _ => rfl) (fun _ => rfl) gw_154 dX8_readToken_9 ?_
  refine J_aload_n rfl (i := 0) rfl dX8_readToken_12 ?_
  refine J_iconst (v := 0) (by decide) dX8_readToken_13 ?_
  refine J_puti kls_8 (q := 1) (k := 8) sh_1 (by decide) rfl rfl (fun _ => rfl) (fun _ => rfl) gw_156 dX8_readToken_14 ?_
  refine J_aload_n rfl (i := 0) rfl dX8_readToken_17 ?_
  refine J_geti kls_8 (q := 1) (k := 5) sh_1 (by decide) rfl gw_153 dX8_readToken_18 ?_
  refine J_aload_n rfl (i := 0) rfl dX8_readToken_21 ?_
  refine J_geti kls_8 (q := 1) (k := 2) sh_1 (by decide) rfl gw_149 dX8_readToken_22 ?_
  refine J_icmp_lt (tgt := 36) dX8_readToken_25 (by decide) (fun hb28 => ?_) (fun hb28 => ?_)
  · replace hw := hw.1 hb28
    refine J_aload_n rfl (i := 0) rfl dX8_readToken_36 ?_
    refine J_aload_n rfl (i := 0) rfl dX8_readToken_37 ?_
    refine J_geti kls_8 (q := 1) (k := 5) sh_1 (by decide) rfl gw_153 dX8_readToken_38 ?_
    obtain ⟨v5, hc4, hw⟩ := hw
    refine J_callV (as := [.int ((mset (mset m3 1 6 (m3 1 5)) 1 8 0) 1 5)]) (k := 1) (st := []) cal_X8_byteAt cai_X8_byteAt gw_483 ⟨by decide, by decide⟩ cnt_X8_byteAt sh_1 rfl rfl (Nat.le_of_ble_eq_true rfl) dX8_readToken_41 (Nat.zero_add _).symm (Nat.zero_add _).symm hc4 ?_
    obtain ⟨v8, hc7, hw⟩ := hw
    refine J_callS (as := [.int v5]) (st := []) cal_X8_isLetter cas_X8_isLetter gw_487 ⟨by decide, by decide⟩ cnt_X8_isLetter rfl (Nat.le_of_ble_eq_true rfl) dX8_readToken_44 (Nat.zero_add _).symm (Nat.zero_add _).symm hc7 ?_
    refine J_if_eq (tgt := 62) dX8_readToken_47 (by decide) (fun hb27 => ?_) (fun hb27 => ?_)
    · replace hw := hw.1 hb27
      refine J_aload_n rfl (i := 0) rfl dX8_readToken_62 ?_
      refine J_aload_n rfl (i := 0) rfl dX8_readToken_63 ?_
      refine J_geti kls_8 (q := 1) (k := 5) sh_1 (by decide) rfl gw_153 dX8_readToken_64 ?_
      obtain ⟨v11, hc10, hw⟩ := hw
      refine J_callV (as := [.int ((mset (mset m3 1 6 (m3 1 5)) 1 8 0) 1 5)]) (k := 1) (st := []) cal_X8_byteAt cai_X8_byteAt gw_483 ⟨by decide, by decide⟩ cnt_X8_byteAt sh_1 rfl rfl (Nat.le_of_ble_eq_true rfl) dX8_readToken_67 (Nat.zero_add _).symm (Nat.zero_add _).symm hc10 ?_
      obtain ⟨v14, hc13, hw⟩ := hw
      refine J_callS (as := [.int v11]) (st := []) cal_X8_isDigit cas_X8_isDigit gw_494 ⟨by decide, by decide⟩ cnt_X8_isDigit rfl (Nat.le_of_ble_eq_true rfl) dX8_readToken_70 (Nat.zero_add _).symm (Nat.zero_add _).symm hc13 ?_
      refine J_if_eq (tgt := 83) dX8_readToken_73 (by decide) (fun hb23 => ?_) (fun hb23 => ?_)
      · replace hw := hw.1 hb23
        refine J_aload_n rfl (i := 0) rfl dX8_readToken_83 ?_
        refine J_aload_n rfl (i := 0) rfl dX8_readToken_84 ?_
        refine J_geti kls_8 (q := 1) (k := 5) sh_1 (by decide) rfl gw_153 dX8_readToken_85 ?_
        obtain ⟨v17, hc16, hw⟩ := hw
        refine J_callV (as := [.int ((mset (mset m3 1 6 (m3 1 5)) 1 8 0) 1 5)]) (k := 1) (st := []) cal_X8_byteAt cai_X8_byteAt gw_483 ⟨by decide, by decide⟩ cnt_X8_byteAt sh_1 rfl rfl (Nat.le_of_ble_eq_true rfl) dX8_readToken_88 (Nat.zero_add _).symm (Nat.zero_add _).symm hc16 ?_
        refine J_bipush (v := 59) (by decide) dX8_readToken_91 ?_
        refine J_icmp_ne (tgt := 114) dX8_readToken_93 (by decide) (fun hb19 => ?_) (fun hb19 => ?_)
        · replace hw := hw.1 hb19
          refine J_aload_n rfl (i := 0) rfl dX8_readToken_114 ?_
          refine J_iconst (v := 4) (by decide) dX8_readToken_115 ?_
          refine J_puti kls_8 (q := 1) (k := 7) sh_1 (by decide) rfl rfl (fun _ => rfl) (fun _ => rfl) gw_155 dX8_readToken_116 ?_
          exact J_finv rfl dX8_readToken_119 hw
        · replace hw := hw.2 hb19
          refine J_aload_n rfl (i := 0) rfl dX8_readToken_96 ?_
          refine J_iconst (v := 3) (by decide) dX8_readToken_97 ?_
          refine J_puti kls_8 (q := 1) (k := 7) sh_1 (by decide) rfl rfl (fun _ => rfl) (fun _ => rfl) gw_155 dX8_readToken_98 ?_
          refine J_aload_n rfl (i := 0) rfl dX8_readToken_101 ?_
          refine J_dupr dX8_readToken_102 ?_
          refine J_geti kls_8 (q := 1) (k := 5) sh_1 (by decide) rfl gw_153 dX8_readToken_103 ?_
          refine J_iconst (v := 1) (by decide) dX8_readToken_106 ?_
          refine J_iadd dX8_readToken_107 ?_
          refine J_puti kls_8 (q := 1) (k := 5) sh_1 (by decide) rfl rfl (fun _ => rfl) (fun _ => rfl) gw_153 dX8_readToken_108 ?_
          refine J_goto (tgt := 119) dX8_readToken_111 (by decide) ?_
          exact J_finv rfl dX8_readToken_119 hw
      · replace hw := hw.2 hb23
        refine J_aload_n rfl (i := 0) rfl dX8_readToken_76 ?_
        obtain ⟨m22, hc20, hw⟩ := hw
        refine J_callV (as := []) (k := 1) (st := []) cal_X8_readNumber cai_X8_readNumber gw_497 ⟨by decide, by decide⟩ cnt_X8_readNumber sh_1 rfl rfl (Nat.le_of_ble_eq_true rfl) dX8_readToken_77 (Nat.zero_add _).symm (Nat.zero_add _).symm hc20 ?_
        refine J_goto (tgt := 119) dX8_readToken_80 (by decide) ?_
        exact J_finv rfl dX8_readToken_119 hw
    · replace hw := hw.2 hb27
      refine J_aload_n rfl (i := 0) rfl dX8_readToken_50 ?_
      refine J_iconst (v := 1) (by decide) dX8_readToken_51 ?_
      refine J_puti kls_8 (q := 1) (k := 7) sh_1 (by decide) rfl rfl (fun _ => rfl) (fun _ => rfl) gw_155 dX8_readToken_52 ?_
      refine J_aload_n rfl (i := 0) rfl dX8_readToken_55 ?_
      obtain ⟨m26, hc24, hw⟩ := hw
      refine J_callV (as := []) (k := 1) (st := []) cal_X8_skipLetters cai_X8_skipLetters gw_490 ⟨by decide, by decide⟩ cnt_X8_skipLetters sh_1 rfl rfl (Nat.le_of_ble_eq_true rfl) dX8_readToken_56 (Nat.zero_add _).symm (Nat.zero_add _).symm hc24 ?_
      refine J_goto (tgt := 119) dX8_readToken_59 (by decide) ?_
      exact J_finv rfl dX8_readToken_119 hw
  · replace hw := hw.2 hb28
    refine J_aload_n rfl (i := 0) rfl dX8_readToken_28 ?_
    refine J_iconst (v := 0) (by decide) dX8_readToken_29 ?_
    refine J_puti kls_8 (q := 1) (k := 7) sh_1 (by decide) rfl rfl (fun _ => rfl) (fun _ => rfl) gw_155 dX8_readToken_30 ?_
    refine J_goto (tgt := 119) dX8_readToken_33 (by decide) ?_
    exact J_finv rfl dX8_readToken_119 hw
theorem dX8_skipBlanks_0 : decode cX8_skipBlanks 0 = .ok (.aload_n 0, 1) := by decide +kernel
theorem dX8_skipBlanks_1 : decode cX8_skipBlanks 1 = .ok (.getfield 34, 3) := by decide +kernel
theorem dX8_skipBlanks_4 : decode cX8_skipBlanks 4 = .ok (.aload_n 0, 1) := by decide +kernel
theorem dX8_skipBlanks_5 : decode cX8_skipBlanks 5 = .ok (.getfield 23, 3) := by decide +kernel
theorem dX8_skipBlanks_8 : decode cX8_skipBlanks 8 = .ok (.if_icmp .ge 42, 3) := by decide +kernel
theorem dX8_skipBlanks_11 : decode cX8_skipBlanks 11 = .ok (.aload_n 0, 1) := by decide +kernel
theorem dX8_skipBlanks_12 : decode cX8_skipBlanks 12 = .ok (.aload_n 0, 1) := by decide +kernel
theorem dX8_skipBlanks_13 : decode cX8_skipBlanks 13 = .ok (.getfield 34, 3) := by decide +kernel
theorem dX8_skipBlanks_16 : decode cX8_skipBlanks 16 = .ok (.invokevirtual 107, 3) := by decide +kernel
theorem dX8_skipBlanks_19 : decode cX8_skipBlanks 19 = .ok (.bipush 32, 2) := by decide +kernel
theorem dX8_skipBlanks_21 : decode cX8_skipBlanks 21 = .ok (.if_icmp .eq 16, 3) := by decide +kernel
theorem dX8_skipBlanks_24 : decode cX8_skipBlanks 24 = .ok (.aload_n 0, 1) := by decide +kernel
theorem dX8_skipBlanks_25 : decode cX8_skipBlanks 25 = .ok (.aload_n 0, 1) := by decide +kernel
theorem dX8_skipBlanks_26 : decode cX8_skipBlanks 26 = .ok (.getfield 34, 3) := by decide +kernel
theorem dX8_skipBlanks_29 : decode cX8_skipBlanks 29 = .ok (.invokevirtual 107, 3) := by decide +kernel
theorem dX8_skipBlanks_32 : decode cX8_skipBlanks 32 = .ok (.bipush 10, 2) := by decide +kernel
theorem dX8_skipBlanks_34 : decode cX8_skipBlanks 34 = .ok (.if_icmp .ne 16, 3) := by decide +kernel
theorem dX8_skipBlanks_37 : decode cX8_skipBlanks 37 = .ok (.aload_n 0, 1) := by decide +kernel
theorem dX8_skipBlanks_38 : decode cX8_skipBlanks 38 = .ok (.dup, 1) := by decide +kernel
theorem dX8_skipBlanks_39 : decode cX8_skipBlanks 39 = .ok (.getfield 34, 3) := by decide +kernel
theorem dX8_skipBlanks_42 : decode cX8_skipBlanks 42 = .ok (.iconst 1, 1) := by decide +kernel
theorem dX8_skipBlanks_43 : decode cX8_skipBlanks 43 = .ok (.iadd, 1) := by decide +kernel
theorem dX8_skipBlanks_44 : decode cX8_skipBlanks 44 = .ok (.putfield 34, 3) := by decide +kernel
theorem dX8_skipBlanks_47 : decode cX8_skipBlanks 47 = .ok (.goto (-47), 3) := by decide +kernel
theorem dX8_skipBlanks_50 : decode cX8_skipBlanks 50 = .ok (.return_, 1) := by decide +kernel
set_option maxRecDepth 20000 in
theorem bX8_skipBlanks_0 {G : Gx} {mm : Nat → Nat → Int32} {lm : Nat → Int64}  {o : Ou} {z : Wd} {a b : Nat} (hw : (((mm 1 2) ≤ (mm 1 5)) → o = .inl none ∧ z = (SH, mm, lm)) ∧ ((¬ (mm 1 2) ≤ (mm 1 5)) → ∃ (v2 : Int32), Ct G M_X8_byteAt [.ref 1, .int (mm 1 5)] (SH, mm, lm) false (.inl (some (.int v2))) (SH, mm, lm) false 0 0 ∧ ((v2 = 32) → J G M_X8_skipBlanks 0 [(0, .ref 1)] [] (SH, (mset mm 1 5 ((mm 1 5) + 1)), lm) false o z false a b) ∧ ((¬ v2 = 32) → ∃ (v5 : Int32), Ct G M_X8_byteAt [.ref 1, .int (mm 1 5)] (SH, mm, lm) false (.inl (some (.int v5))) (SH, mm, lm) false 0 0 ∧ ((¬ v5 = 10) → o = .inl none ∧ z = (SH, mm, lm)) ∧ ((v5 = 10) → J G M_X8_skipBlanks 0 [(0, .ref 1)] [] (SH, (mset mm 1 5 ((mm 1 5) + 1)), lm) false o z false a b)))) :
    J G M_X8_skipBlanks 0 [(0, .ref 1)] [] (SH, mm, lm) false o z false a b := by
  refine J_aload_n rfl (i := 0) rfl dX8_skipBlanks_0 ?_
  refine J_geti kls_8 (q := 1) (k := 5) sh_1 (by decide) rfl gw_153 dX8_skipBlanks_1 ?_
  refine J_aload_n rfl (i := 0) rfl dX8_skipBlanks_4 ?_
  refine J_geti kls_8 (q := 1) (k := 2) sh_1 (by decide) rfl gw_149 dX8_skipBlanks_5 ?_
  refine J_icmp_ge (tgt := 50) dX8_skipBlanks_8 (by decide) (fun hb9 => ?_) (fun hb9 => ?_)
  · replace hw := hw.1 hb9
    exact J_finv rfl dX8_skipBlanks_50 hw
  · replace hw := hw.2 hb9
    refine J_aload_n rfl (i := 0) rfl dX8_skipBlanks_11 ?_
    refine J_aload_n rfl (i := 0) rfl dX8_skipBlanks_12 ?_
    refine J_geti kls_8 (q := 1) (k := 5) sh_1 (by decide) rfl gw_153 dX8_skipBlanks_13 ?_
    obtain ⟨v2, hc1, hw⟩ := hw
    refine J_callV (as := [.int (mm 1 5)]) (k := 1) (st := []) cal_X8_byteAt cai_X8_byteAt gw_483 ⟨by decide, by decide⟩ cnt_X8_byteAt sh_1 rfl rfl (Nat.le_of_ble_eq_true rfl) dX8_skipBlanks_16 (Nat.zero_add _).symm (Nat.zero_add _).symm hc1 ?_
    refine J_bipush (v := 32) (by decide) dX8_skipBlanks_19 ?_
    refine J_icmp_eq (tgt := 37) dX8_skipBlanks_21 (by decide) (fun hb8 => ?_) (fun hb8 => ?_)
    · replace hw := hw.1 hb8
      refine J_aload_n rfl (i := 0) rfl dX8_skipBlanks_37 ?_
      refine J_dupr dX8_skipBlanks_38 ?_
      refine J_geti kls_8 (q := 1) (k := 5) sh_1 (by decide) rfl gw_153 dX8_skipBlanks_39 ?_
      refine J_iconst (v := 1) (by decide) dX8_skipBlanks_42 ?_
      refine J_iadd dX8_skipBlanks_43 ?_
      refine J_puti kls_8 (q := 1) (k := 5) sh_1 (by decide) rfl rfl (fun _ => rfl) (fun _ => rfl) gw_153 dX8_skipBlanks_44 ?_
      refine J_goto (tgt := 0) dX8_skipBlanks_47 (by decide) ?_
      exact hw
    · replace hw := hw.2 hb8
      refine J_aload_n rfl (i := 0) rfl dX8_skipBlanks_24 ?_
      refine J_aload_n rfl (i := 0) rfl dX8_skipBlanks_25 ?_
      refine J_geti kls_8 (q := 1) (k := 5) sh_1 (by decide) rfl gw_153 dX8_skipBlanks_26 ?_
      obtain ⟨v5, hc4, hw⟩ := hw
      refine J_callV (as := [.int (mm 1 5)]) (k := 1) (st := []) cal_X8_byteAt cai_X8_byteAt gw_483 ⟨by decide, by decide⟩ cnt_X8_byteAt sh_1 rfl rfl (Nat.le_of_ble_eq_true rfl) dX8_skipBlanks_29 (Nat.zero_add _).symm (Nat.zero_add _).symm hc4 ?_
      refine J_bipush (v := 10) (by decide) dX8_skipBlanks_32 ?_
      refine J_icmp_ne (tgt := 50) dX8_skipBlanks_34 (by decide) (fun hb7 => ?_) (fun hb7 => ?_)
      · replace hw := hw.1 hb7
        exact J_finv rfl dX8_skipBlanks_50 hw
      · replace hw := hw.2 hb7
        refine J_aload_n rfl (i := 0) rfl dX8_skipBlanks_37 ?_
        refine J_dupr dX8_skipBlanks_38 ?_
        refine J_geti kls_8 (q := 1) (k := 5) sh_1 (by decide) rfl gw_153 dX8_skipBlanks_39 ?_
        refine J_iconst (v := 1) (by decide) dX8_skipBlanks_42 ?_
        refine J_iadd dX8_skipBlanks_43 ?_
        refine J_puti kls_8 (q := 1) (k := 5) sh_1 (by decide) rfl rfl (fun _ => rfl) (fun _ => rfl) gw_153 dX8_skipBlanks_44 ?_
        refine J_goto (tgt := 0) dX8_skipBlanks_47 (by decide) ?_
        exact hw
theorem dX8_skipLetters_0 : decode cX8_skipLetters 0 = .ok (.aload_n 0, 1) := by decide +kernel
theorem dX8_skipLetters_1 : decode cX8_skipLetters 1 = .ok (.getfield 34, 3) := by decide +kernel
theorem dX8_skipLetters_4 : decode cX8_skipLetters 4 = .ok (.aload_n 0, 1) := by decide +kernel
theorem dX8_skipLetters_5 : decode cX8_skipLetters 5 = .ok (.getfield 23, 3) := by decide +kernel
theorem dX8_skipLetters_8 : decode cX8_skipLetters 8 = .ok (.if_icmp .ge 30, 3) := by decide +kernel
theorem dX8_skipLetters_11 : decode cX8_skipLetters 11 = .ok (.aload_n 0, 1) := by decide +kernel
theorem dX8_skipLetters_12 : decode cX8_skipLetters 12 = .ok (.aload_n 0, 1) := by decide +kernel
theorem dX8_skipLetters_13 : decode cX8_skipLetters 13 = .ok (.getfield 34, 3) := by decide +kernel
theorem dX8_skipLetters_16 : decode cX8_skipLetters 16 = .ok (.invokevirtual 107, 3) := by decide +kernel
theorem dX8_skipLetters_19 : decode cX8_skipLetters 19 = .ok (.invokestatic 118, 3) := by decide +kernel
theorem dX8_skipLetters_22 : decode cX8_skipLetters 22 = .ok (.ifCond .eq 16, 3) := by decide +kernel
theorem dX8_skipLetters_25 : decode cX8_skipLetters 25 = .ok (.aload_n 0, 1) := by decide +kernel
theorem dX8_skipLetters_26 : decode cX8_skipLetters 26 = .ok (.dup, 1) := by decide +kernel
theorem dX8_skipLetters_27 : decode cX8_skipLetters 27 = .ok (.getfield 34, 3) := by decide +kernel
theorem dX8_skipLetters_30 : decode cX8_skipLetters 30 = .ok (.iconst 1, 1) := by decide +kernel
theorem dX8_skipLetters_31 : decode cX8_skipLetters 31 = .ok (.iadd, 1) := by decide +kernel
theorem dX8_skipLetters_32 : decode cX8_skipLetters 32 = .ok (.putfield 34, 3) := by decide +kernel
theorem dX8_skipLetters_35 : decode cX8_skipLetters 35 = .ok (.goto (-35), 3) := by decide +kernel
theorem dX8_skipLetters_38 : decode cX8_skipLetters 38 = .ok (.return_, 1) := by decide +kernel
set_option maxRecDepth 20000 in
theorem bX8_skipLetters_0 {G : Gx} {mm : Nat → Nat → Int32} {lm : Nat → Int64}  {o : Ou} {z : Wd} {a b : Nat} (hw : (((mm 1 2) ≤ (mm 1 5)) → o = .inl none ∧ z = (SH, mm, lm)) ∧ ((¬ (mm 1 2) ≤ (mm 1 5)) → ∃ (v2 : Int32), Ct G M_X8_byteAt [.ref 1, .int (mm 1 5)] (SH, mm, lm) false (.inl (some (.int v2))) (SH, mm, lm) false 0 0 ∧ ∃ (v5 : Int32), Ct G M_X8_isLetter [.int v2] (SH, mm, lm) false (.inl (some (.int v5))) (SH, mm, lm) false 0 0 ∧ ((v5 = 0) → o = .inl none ∧ z = (SH, mm, lm)) ∧ ((¬ v5 = 0) → J G M_X8_skipLetters 0 [(0, .ref 1)] [] (SH, (mset mm 1 5 ((mm 1 5) + 1)), lm) false o z false a b))) :
    J G M_X8_skipLetters 0 [(0, .ref 1)] [] (SH, mm, lm) false o z false a b := by
  refine J_aload_n rfl (i := 0) rfl dX8_skipLetters_0 ?_
  refine J_geti kls_8 (q := 1) (k := 5) sh_1 (by decide) rfl gw_153 dX8_skipLetters_1 ?_
  refine J_aload_n rfl (i := 0) rfl dX8_skipLetters_4 ?_
  refine J_geti kls_8 (q := 1) (k := 2) sh_1 (by decide) rfl gw_149 dX8_skipLetters_5 ?_
  refine J_icmp_ge (tgt := 38) dX8_skipLetters_8 (by decide) (fun hb8 => ?_) (fun hb8 => ?_)
  · replace hw := hw.1 hb8
    exact J_finv rfl dX8_skipLetters_38 hw
  · replace hw := hw.2 hb8
    refine J_aload_n rfl (i := 0) rfl dX8_skipLetters_11 ?_
    refine J_aload_n rfl (i := 0) rfl dX8_skipLetters_12 ?_
    refine J_geti kls_8 (q := 1) (k := 5) sh_1 (by decide) rfl gw_153 dX8_skipLetters_13 ?_
    obtain ⟨v2, hc1, hw⟩ := hw
    refine J_callV (as := [.int (mm 1 5)]) (k := 1) (st := []) cal_X8_byteAt cai_X8_byteAt gw_483 ⟨by decide, by decide⟩ cnt_X8_byteAt sh_1 rfl rfl (Nat.le_of_ble_eq_true rfl) dX8_skipLetters_16 (Nat.zero_add _).symm (Nat.zero_add _).symm hc1 ?_
    obtain ⟨v5, hc4, hw⟩ := hw
    refine J_callS (as := [.int v2]) (st := []) cal_X8_isLetter cas_X8_isLetter gw_487 ⟨by decide, by decide⟩ cnt_X8_isLetter rfl (Nat.le_of_ble_eq_true rfl) dX8_skipLetters_19 (Nat.zero_add _).symm (Nat.zero_add _).symm hc4 ?_
    refine J_if_eq (tgt := 38) dX8_skipLetters_22 (by decide) (fun hb7 => ?_) (fun hb7 => ?_)
    · replace hw := hw.1 hb7
      exact J_finv rfl dX8_skipLetters_38 hw
    · replace hw := hw.2 hb7
      refine J_aload_n rfl (i := 0) rfl dX8_skipLetters_25 ?_
      refine J_dupr dX8_skipLetters_26 ?_
      refine J_geti kls_8 (q := 1) (k := 5) sh_1 (by decide) rfl gw_153 dX8_skipLetters_27 ?_
      refine J_iconst (v := 1) (by decide) dX8_skipLetters_30 ?_
      refine J_iadd dX8_skipLetters_31 ?_
      refine J_puti kls_8 (q := 1) (k := 5) sh_1 (by decide) rfl rfl (fun _ => rfl) (fun _ => rfl) gw_153 dX8_skipLetters_32 ?_
      refine J_goto (tgt := 0) dX8_skipLetters_35 (by decide) ?_
      exact hw
theorem dX8_readNumber_0 : decode cX8_readNumber 0 = .ok (.aload_n 0, 1) := by decide +kernel
theorem dX8_readNumber_1 : decode cX8_readNumber 1 = .ok (.getfield 34, 3) := by decide +kernel
theorem dX8_readNumber_4 : decode cX8_readNumber 4 = .ok (.aload_n 0, 1) := by decide +kernel
theorem dX8_readNumber_5 : decode cX8_readNumber 5 = .ok (.getfield 23, 3) := by decide +kernel
theorem dX8_readNumber_8 : decode cX8_readNumber 8 = .ok (.if_icmp .ge 66, 3) := by decide +kernel
theorem dX8_readNumber_11 : decode cX8_readNumber 11 = .ok (.aload_n 0, 1) := by decide +kernel
theorem dX8_readNumber_12 : decode cX8_readNumber 12 = .ok (.getfield 34, 3) := by decide +kernel
theorem dX8_readNumber_15 : decode cX8_readNumber 15 = .ok (.aload_n 0, 1) := by decide +kernel
theorem dX8_readNumber_16 : decode cX8_readNumber 16 = .ok (.getfield 88, 3) := by decide +kernel
theorem dX8_readNumber_19 : decode cX8_readNumber 19 = .ok (.isub, 1) := by decide +kernel
theorem dX8_readNumber_20 : decode cX8_readNumber 20 = .ok (.iconst 5, 1) := by decide +kernel
theorem dX8_readNumber_21 : decode cX8_readNumber 21 = .ok (.if_icmp .ge 53, 3) := by decide +kernel
theorem dX8_readNumber_24 : decode cX8_readNumber 24 = .ok (.aload_n 0, 1) := by decide +kernel
theorem dX8_readNumber_25 : decode cX8_readNumber 25 = .ok (.aload_n 0, 1) := by decide +kernel
theorem dX8_readNumber_26 : decode cX8_readNumber 26 = .ok (.getfield 34, 3) := by decide +kernel
theorem dX8_readNumber_29 : decode cX8_readNumber 29 = .ok (.invokevirtual 107, 3) := by decide +kernel
theorem dX8_readNumber_32 : decode cX8_readNumber 32 = .ok (.invokestatic 124, 3) := by decide +kernel
theorem dX8_readNumber_35 : decode cX8_readNumber 35 = .ok (.ifCond .eq 39, 3) := by decide +kernel
theorem dX8_readNumber_38 : decode cX8_readNumber 38 = .ok (.aload_n 0, 1) := by decide +kernel
theorem dX8_readNumber_39 : decode cX8_readNumber 39 = .ok (.bipush 10, 2) := by decide +kernel
theorem dX8_readNumber_41 : decode cX8_readNumber 41 = .ok (.aload_n 0, 1) := by decide +kernel
theorem dX8_readNumber_42 : decode cX8_readNumber 42 = .ok (.getfield 79, 3) := by decide +kernel
theorem dX8_readNumber_45 : decode cX8_readNumber 45 = .ok (.imul, 1) := by decide +kernel
theorem dX8_readNumber_46 : decode cX8_readNumber 46 = .ok (.aload_n 0, 1) := by decide +kernel
theorem dX8_readNumber_47 : decode cX8_readNumber 47 = .ok (.aload_n 0, 1) := by decide +kernel
theorem dX8_readNumber_48 : decode cX8_readNumber 48 = .ok (.getfield 34, 3) := by decide +kernel
theorem dX8_readNumber_51 : decode cX8_readNumber 51 = .ok (.invokevirtual 107, 3) := by decide +kernel
theorem dX8_readNumber_54 : decode cX8_readNumber 54 = .ok (.iadd, 1) := by decide +kernel
theorem dX8_readNumber_55 : decode cX8_readNumber 55 = .ok (.bipush 48, 2) := by decide +kernel
theorem dX8_readNumber_57 : decode cX8_readNumber 57 = .ok (.isub, 1) := by decide +kernel
theorem dX8_readNumber_58 : decode cX8_readNumber 58 = .ok (.putfield 79, 3) := by decide +kernel
theorem dX8_readNumber_61 : decode cX8_readNumber 61 = .ok (.aload_n 0, 1) := by decide +kernel
theorem dX8_readNumber_62 : decode cX8_readNumber 62 = .ok (.dup, 1) := by decide +kernel
theorem dX8_readNumber_63 : decode cX8_readNumber 63 = .ok (.getfield 34, 3) := by decide +kernel
theorem dX8_readNumber_66 : decode cX8_readNumber 66 = .ok (.iconst 1, 1) := by decide +kernel
theorem dX8_readNumber_67 : decode cX8_readNumber 67 = .ok (.iadd, 1) := by decide +kernel
theorem dX8_readNumber_68 : decode cX8_readNumber 68 = .ok (.putfield 34, 3) := by decide +kernel
theorem dX8_readNumber_71 : decode cX8_readNumber 71 = .ok (.goto (-71), 3) := by decide +kernel
theorem dX8_readNumber_74 : decode cX8_readNumber 74 = .ok (.aload_n 0, 1) := by decide +kernel
theorem dX8_readNumber_75 : decode cX8_readNumber 75 = .ok (.aload_n 0, 1) := by decide +kernel
theorem dX8_readNumber_76 : decode cX8_readNumber 76 = .ok (.aload_n 0, 1) := by decide +kernel
theorem dX8_readNumber_77 : decode cX8_readNumber 77 = .ok (.getfield 34, 3) := by decide +kernel
theorem dX8_readNumber_80 : decode cX8_readNumber 80 = .ok (.invokevirtual 107, 3) := by decide +kernel
theorem dX8_readNumber_83 : decode cX8_readNumber 83 = .ok (.invokestatic 124, 3) := by decide +kernel
theorem dX8_readNumber_86 : decode cX8_readNumber 86 = .ok (.ifCond .eq 7, 3) := by decide +kernel
theorem dX8_readNumber_89 : decode cX8_readNumber 89 = .ok (.iconst 4, 1) := by decide +kernel
theorem dX8_readNumber_90 : decode cX8_readNumber 90 = .ok (.goto 4, 3) := by decide +kernel
theorem dX8_readNumber_93 : decode cX8_readNumber 93 = .ok (.iconst 2, 1) := by decide +kernel
theorem dX8_readNumber_94 : decode cX8_readNumber 94 = .ok (.putfield 40, 3) := by decide +kernel
theorem dX8_readNumber_97 : decode cX8_readNumber 97 = .ok (.return_, 1) := by decide +kernel
set_option maxRecDepth 20000 in
theorem bX8_readNumber_0 {G : Gx} {mm : Nat → Nat → Int32} {lm : Nat → Int64}  {o : Ou} {z : Wd} {a b : Nat} (hw : (((mm 1 2) ≤ (mm 1 5)) → ∃ (v2 : Int32), Ct G M_X8_byteAt [.ref 1, .int (mm 1 5)] (SH, mm, lm) false (.inl (some (.int v2))) (SH, mm, lm) false 0 0 ∧ ∃ (v5 : Int32), Ct G M_X8_isDigit [.int v2] (SH, mm, lm) false (.inl (some (.int v5))) (SH, mm, lm) false 0 0 ∧ ((v5 = 0) → o = .inl none ∧ z = (SH, (mset mm 1 7 2), lm)) ∧ ((¬ v5 = 0) → o = .inl none ∧ z = (SH, (mset mm 1 7 4), lm))) ∧ ((¬ (mm 1 2) ≤ (mm 1 5)) → ((5 ≤ ((mm 1 5) - (mm 1 6))) → ∃ (v9 : Int32), Ct G M_X8_byteAt [.ref 1, .int (mm 1 5)] (SH, mm, lm) false (.inl (some (.int v9))) (SH, mm, lm) false 0 0 ∧ ∃ (v12 : Int32), Ct G M_X8_isDigit [.int v9] (SH, mm, lm) false (.inl (some (.int v12))) (SH, mm, lm) false 0 0 ∧ ((v12 = 0) → o = .inl none ∧ z = (SH, (mset mm 1 7 2), lm)) ∧ ((¬ v12 = 0) → o = .inl none ∧ z = (SH, (mset mm 1 7 4), lm))) ∧ ((¬ 5 ≤ ((mm 1 5) - (mm 1 6))) → ∃ (v16 : Int32), Ct G M_X8_byteAt [.ref 1, .int (mm 1 5)] (SH, mm, lm) false (.inl (some (.int v16))) (SH, mm, lm) false 0 0 ∧ ∃ (v19 : Int32), Ct G M_X8_isDigit [.int v16] (SH, mm, lm) false (.inl (some (.int v19))) (SH, mm, lm) false 0 0 ∧ ((v19 = 0) → ∃ (v22 : Int32), Ct G M_X8_byteAt [.ref 1, .int (mm 1 5)] (SH, mm, lm) false (.inl (some (.int v22))) (SH, mm, lm) false 0 0 ∧ ∃ (v25 : Int32), Ct G M_X8_isDigit [.int v22] (SH, mm, lm) false (.inl (some (.int v25))) (SH, mm, lm) false 0 0 ∧ ((v25 = 0) → o = .inl none ∧ z = (SH, (mset mm 1 7 2), lm)) ∧ ((¬ v25 = 0) → o = .inl none ∧ z = (SH, (mset mm 1 7 4), lm))) ∧ ((¬ v19 = 0) → ∃ (v29 : Int32), Ct G M_X8_byteAt [.ref 1, .int (mm 1 5)] (SH, mm, lm) false (.inl (some (.int v29))) (SH, mm, lm) false 0 0 ∧ J G M_X8_readNumber 0 [(0, .ref 1)] [] (SH, (mset (mset mm 1 8 (((10 * (mm 1 8)) + v29) - 48)) 1 5 (((mset mm 1 8 (((10 * (mm 1 8)) + v29) - 48)) 1 5) + 1)), lm) false o z false a b)))) :
    J G M_X8_readNumber 0 [(0, .ref 1)] [] (SH, mm, lm) false o z false a b := by
  refine J_aload_n rfl (i := 0) rfl dX8_readNumber_0 ?_
  refine J_geti kls_8 (q := 1) (k := 5) sh_1 (by decide) rfl gw_153 dX8_readNumber_1 ?_
  refine J_aload_n rfl (i := 0) rfl dX8_readNumber_4 ?_
  refine J_geti kls_8 (q := 1) (k := 2) sh_1 (by decide) rfl gw_149 dX8_readNumber_5 ?_
  refine J_icmp_ge (tgt := 74) dX8_readNumber_8 (by decide) (fun hb33 => ?_) (fun hb33 => ?_)
  · replace hw := hw.1 hb33
    refine J_aload_n rfl (i := 0) rfl dX8_readNumber_74 ?_
    refine J_aload_n rfl (i := 0) rfl dX8_readNumber_75 ?_
    refine J_aload_n rfl (i := 0) rfl dX8_readNumber_76 ?_
    refine J_geti kls_8 (q := 1) (k := 5) sh_1 (by decide) rfl gw_153 dX8_readNumber_77 ?_
    obtain ⟨v2, hc1, hw⟩ := hw
    refine J_callV (as := [.int (mm 1 5)]) (k := 1) (st := [.ref 1]) cal_X8_byteAt cai_X8_byteAt gw_483 ⟨by decide, by decide⟩ cnt_X8_byteAt sh_1 rfl rfl (Nat.le_of_ble_eq_true rfl) dX8_readNumber_80 (Nat.zero_add _).symm (Nat.zero_add _).symm hc1 ?_
    obtain ⟨v5, hc4, hw⟩ := hw
    refine J_callS (as := [.int v2]) (st := [.ref 1]) cal_X8_isDigit cas_X8_isDigit gw_494 ⟨by decide, by decide⟩ cnt_X8_isDigit rfl (Nat.le_of_ble_eq_true rfl) dX8_readNumber_83 (Nat.zero_add _).symm (Nat.zero_add _).symm hc4 ?_
    refine J_if_eq (tgt := 93) dX8_readNumber_86 (by decide) (fun hb7 => ?_) (fun hb7 => ?_)
    · replace hw := hw.1 hb7
      refine J_iconst (v := 2) (by decide) dX8_readNumber_93 ?_
      refine J_puti kls_8 (q := 1) (k := 7) sh_1 (by decide) rfl rfl (fun _ => rfl) (fun _ => rfl) gw_155 dX8_readNumber_94 ?_
      exact J_finv rfl dX8_readNumber_97 hw
    · replace hw := hw.2 hb7
      refine J_iconst (v := 4) (by decide) dX8_readNumber_89 ?_
      refine J_goto (tgt := 94) dX8_readNumber_90 (by decide) ?_
      refine J_puti kls_8 (q := 1) (k := 7) sh_1 (by decide) rfl rfl (fun _ => rfl) (fun _ => rfl) gw_155 dX8_readNumber_94 ?_
      exact J_finv rfl dX8_readNumber_97 hw
  · replace hw := hw.2 hb33
    refine J_aload_n rfl (i := 0) rfl dX8_readNumber_11 ?_
    refine J_geti kls_8 (q := 1) (k := 5) sh_1 (by decide) rfl gw_153 dX8_readNumber_12 ?_
    refine J_aload_n rfl (i := 0) rfl dX8_readNumber_15 ?_
    refine J_geti kls_8 (q := 1) (k := 6) sh_1 (by decide) rfl gw_154 dX8_readNumber_16 ?_
    refine J_isub dX8_readNumber_19 ?_
    refine J_iconst (v := 5) (by decide) dX8_readNumber_20 ?_
    refine J_icmp_ge (tgt := 74) dX8_readNumber_21 (by decide) (fun hb32 => ?_) (fun hb32 => ?_)
    · replace hw := hw.1 hb32
      refine J_aload_n rfl (i := 0) rfl dX8_readNumber_74 ?_
      refine J_aload_n rfl (i := 0) rfl dX8_readNumber_75 ?_
      refine J_aload_n rfl (i := 0) rfl dX8_readNumber_76 ?_
      refine J_geti kls_8 (q := 1) (k := 5) sh_1 (by decide) rfl gw_153 dX8_readNumber_77 ?_
      obtain ⟨v9, hc8, hw⟩ := hw
      refine J_callV (as := [.int (mm 1 5)]) (k := 1) (st := [.ref 1]) cal_X8_byteAt cai_X8_byteAt gw_483 ⟨by decide, by decide⟩ cnt_X8_byteAt sh_1 rfl rfl (Nat.le_of_ble_eq_true rfl) dX8_readNumber_80 (Nat.zero_add _).symm (Nat.zero_add _).symm hc8 ?_
      obtain ⟨v12, hc11, hw⟩ := hw
      refine J_callS (as := [.int v9]) (st := [.ref 1]) cal_X8_isDigit cas_X8_isDigit gw_494 ⟨by decide, by decide⟩ cnt_X8_isDigit rfl (Nat.le_of_ble_eq_true rfl) dX8_readNumber_83 (Nat.zero_add _).symm (Nat.zero_add _).symm hc11 ?_
      refine J_if_eq (tgt := 93) dX8_readNumber_86 (by decide) (fun hb14 => ?_) (fun hb14 => ?_)
      · replace hw := hw.1 hb14
        refine J_iconst (v := 2) (by decide) dX8_readNumber_93 ?_
        refine J_puti kls_8 (q := 1) (k := 7) sh_1 (by decide) rfl rfl (fun _ => rfl) (fun _ => rfl) gw_155 dX8_readNumber_94 ?_
        exact J_finv rfl dX8_readNumber_97 hw
      · replace hw := hw.2 hb14
        refine J_iconst (v := 4) (by decide) dX8_readNumber_89 ?_
        refine J_goto (tgt := 94) dX8_readNumber_90 (by decide) ?_
        refine J_puti kls_8 (q := 1) (k := 7) sh_1 (by decide) rfl rfl (fun _ => rfl) (fun _ => rfl) gw_155 dX8_readNumber_94 ?_
        exact J_finv rfl dX8_readNumber_97 hw
    · replace hw := hw.2 hb32
      refine J_aload_n rfl (i := 0) rfl dX8_readNumber_24 ?_
      refine J_aload_n rfl (i := 0) rfl dX8_readNumber_25 ?_
      refine J_geti kls_8 (q := 1) (k := 5) sh_1 (by decide) rfl gw_153 dX8_readNumber_26 ?_
      obtain ⟨v16, hc15, hw⟩ := hw
      refine J_callV (as := [.int (mm 1 5)]) (k := 1) (st := []) cal_X8_byteAt cai_X8_byteAt gw_483 ⟨by decide, by decide⟩ cnt_X8_byteAt sh_1 rfl rfl (Nat.le_of_ble_eq_true rfl) dX8_readNumber_29 (Nat.zero_add _).symm (Nat.zero_add _).symm hc15 ?_
      obtain ⟨v19, hc18, hw⟩ := hw
      refine J_callS (as := [.int v16]) (st := []) cal_X8_isDigit cas_X8_isDigit gw_494 ⟨by decide, by decide⟩ cnt_X8_isDigit rfl (Nat.le_of_ble_eq_true rfl) dX8_readNumber_32 (Nat.zero_add _).symm (Nat.zero_add _).symm hc18 ?_
      refine J_if_eq (tgt := 74) dX8_readNumber_35 (by decide) (fun hb31 => ?_) (fun hb31 => ?_)
      · replace hw := hw.1 hb31
        refine J_aload_n rfl (i := 0) rfl dX8_readNumber_74 ?_
        refine J_aload_n rfl (i := 0) rfl dX8_readNumber_75 ?_
        refine J_aload_n rfl (i := 0) rfl dX8_readNumber_76 ?_
        refine J_geti kls_8 (q := 1) (k := 5) sh_1 (by decide) rfl gw_153 dX8_readNumber_77 ?_
        obtain ⟨v22, hc21, hw⟩ := hw
        refine J_callV (as := [.int (mm 1 5)]) (k := 1) (st := [.ref 1]) cal_X8_byteAt cai_X8_byteAt gw_483 ⟨by decide, by decide⟩ cnt_X8_byteAt sh_1 rfl rfl (Nat.le_of_ble_eq_true rfl) dX8_readNumber_80 (Nat.zero_add _).symm (Nat.zero_add _).symm hc21 ?_
        obtain ⟨v25, hc24, hw⟩ := hw
        refine J_callS (as := [.int v22]) (st := [.ref 1]) cal_X8_isDigit cas_X8_isDigit gw_494 ⟨by decide, by decide⟩ cnt_X8_isDigit rfl (Nat.le_of_ble_eq_true rfl) dX8_readNumber_83 (Nat.zero_add _).symm (Nat.zero_add _).symm hc24 ?_
        refine J_if_eq (tgt := 93) dX8_readNumber_86 (by decide) (fun hb27 => ?_) (fun hb27 => ?_)
        · replace hw := hw.1 hb27
          refine J_iconst (v := 2) (by decide) dX8_readNumber_93 ?_
          refine J_puti kls_8 (q := 1) (k := 7) sh_1 (by decide) rfl rfl (fun _ => rfl) (fun _ => rfl) gw_155 dX8_readNumber_94 ?_
          exact J_finv rfl dX8_readNumber_97 hw
        · replace hw := hw.2 hb27
          refine J_iconst (v := 4) (by decide) dX8_readNumber_89 ?_
          refine J_goto (tgt := 94) dX8_readNumber_90 (by decide) ?_
          refine J_puti kls_8 (q := 1) (k := 7) sh_1 (by decide) rfl rfl (fun _ => rfl) (fun _ => rfl) gw_155 dX8_readNumber_94 ?_
          exact J_finv rfl dX8_readNumber_97 hw
      · replace hw := hw.2 hb31
        refine J_aload_n rfl (i := 0) rfl dX8_readNumber_38 ?_
        refine J_bipush (v := 10) (by decide) dX8_readNumber_39 ?_
        refine J_aload_n rfl (i := 0) rfl dX8_readNumber_41 ?_
        refine J_geti kls_8 (q := 1) (k := 8) sh_1 (by decide) rfl gw_156 dX8_readNumber_42 ?_
        refine J_imul dX8_readNumber_45 ?_
        refine J_aload_n rfl (i := 0) rfl dX8_readNumber_46 ?_
        refine J_aload_n rfl (i := 0) rfl dX8_readNumber_47 ?_
        refine J_geti kls_8 (q := 1) (k := 5) sh_1 (by decide) rfl gw_153 dX8_readNumber_48 ?_
        obtain ⟨v29, hc28, hw⟩ := hw
        refine J_callV (as := [.int (mm 1 5)]) (k := 1) (st := [.int (10 * (mm 1 8)), .ref 1]) cal_X8_byteAt cai_X8_byteAt gw_483 ⟨by decide, by decide⟩ cnt_X8_byteAt sh_1 rfl rfl (Nat.le_of_ble_eq_true rfl) dX8_readNumber_51 (Nat.zero_add _).symm (Nat.zero_add _).symm hc28 ?_
        refine J_iadd dX8_readNumber_54 ?_
        refine J_bipush (v := 48) (by decide) dX8_readNumber_55 ?_
        refine J_isub dX8_readNumber_57 ?_
        refine J_puti kls_8 (q := 1) (k := 8) sh_1 (by decide) rfl rfl (fun _ => rfl) (fun _ => rfl) gw_156 dX8_readNumber_58 ?_
        refine J_aload_n rfl (i := 0) rfl dX8_readNumber_61 ?_
        refine J_dupr dX8_readNumber_62 ?_
        refine J_geti kls_8 (q := 1) (k := 5) sh_1 (by decide) rfl gw_153 dX8_readNumber_63 ?_
        refine J_iconst (v := 1) (by decide) dX8_readNumber_66 ?_
        refine J_iadd dX8_readNumber_67 ?_
        refine J_puti kls_8 (q := 1) (k := 5) sh_1 (by decide) rfl rfl (fun _ => rfl) (fun _ => rfl) gw_153 dX8_readNumber_68 ?_
        refine J_goto (tgt := 0) dX8_readNumber_71 (by decide) ?_
        exact hw
theorem dX8_byteAt_0 : decode cX8_byteAt 0 = .ok (.iload_n 1, 1) := by decide +kernel
theorem dX8_byteAt_1 : decode cX8_byteAt 1 = .ok (.ifCond .lt 27, 3) := by decide +kernel
theorem dX8_byteAt_4 : decode cX8_byteAt 4 = .ok (.iload_n 1, 1) := by decide +kernel
theorem dX8_byteAt_5 : decode cX8_byteAt 5 = .ok (.aload_n 0, 1) := by decide +kernel
theorem dX8_byteAt_6 : decode cX8_byteAt 6 = .ok (.getfield 23, 3) := by decide +kernel
theorem dX8_byteAt_9 : decode cX8_byteAt 9 = .ok (.if_icmp .ge 19, 3) := by decide +kernel
theorem dX8_byteAt_12 : decode cX8_byteAt 12 = .ok (.iload_n 1, 1) := by decide +kernel
theorem dX8_byteAt_13 : decode cX8_byteAt 13 = .ok (.sipush 400, 3) := by decide +kernel
theorem dX8_byteAt_16 : decode cX8_byteAt 16 = .ok (.if_icmp .ge 12, 3) := by decide +kernel
theorem dX8_byteAt_19 : decode cX8_byteAt 19 = .ok (.aload_n 0, 1) := by decide +kernel
theorem dX8_byteAt_20 : decode cX8_byteAt 20 = .ok (.getfield 9, 3) := by decide +kernel
theorem dX8_byteAt_23 : decode cX8_byteAt 23 = .ok (.iload_n 1, 1) := by decide +kernel
theorem dX8_byteAt_24 : decode cX8_byteAt 24 = .ok (.baload, 1) := by decide +kernel
theorem dX8_byteAt_25 : decode cX8_byteAt 25 = .ok (.goto 4, 3) := by decide +kernel
theorem dX8_byteAt_28 : decode cX8_byteAt 28 = .ok (.iconst (-1), 1) := by decide +kernel
theorem dX8_byteAt_29 : decode cX8_byteAt 29 = .ok (.ireturn, 1) := by decide +kernel
set_option maxRecDepth 20000 in
theorem bX8_byteAt_0 {G : Gx} {mm : Nat → Nat → Int32} {lm : Nat → Int64} {x1 : Int32} {o : Ou} {z : Wd} {a b : Nat} (hw : ((x1 < 0) → o = .inl (some (.int (-1))) ∧ z = (SH, mm, lm)) ∧ ((¬ x1 < 0) → (((mm 1 2) ≤ x1) → o = .inl (some (.int (-1))) ∧ z = (SH, mm, lm)) ∧ ((¬ (mm 1 2) ≤ x1) → ((400 ≤ x1) → o = .inl (some (.int (-1))) ∧ z = (SH, mm, lm)) ∧ ((¬ 400 ≤ x1) → ∃ j1 : Nat, x1 = nI j1 ∧ j1 < 400 ∧ o = .inl (some (.int (mm 2 j1))) ∧ z = (SH, mm, lm))))) :
    J G M_X8_byteAt 0 [(0, .ref 1), (1, .int x1)] [] (SH, mm, lm) false o z false a b := by
  refine J_iload_n rfl (i := 1) rfl dX8_byteAt_0 ?_
  refine J_if_lt (tgt := 28) dX8_byteAt_1 (by decide) (fun hb4 => ?_) (fun hb4 => ?_)
  · replace hw := hw.1 hb4
    refine J_iconst (v := (-1)) (by decide) dX8_byteAt_28 ?_
    exact J_fini (ty := .int) rfl rfl dX8_byteAt_29 hw
  · replace hw := hw.2 hb4
    refine J_iload_n rfl (i := 1) rfl dX8_byteAt_4 ?_
    refine J_aload_n rfl (i := 0) rfl dX8_byteAt_5 ?_
    refine J_geti kls_8 (q := 1) (k := 2) sh_1 (by decide) rfl gw_149 dX8_byteAt_6 ?_
    refine J_icmp_ge (tgt := 28) dX8_byteAt_9 (by decide) (fun hb3 => ?_) (fun hb3 => ?_)
    · replace hw := hw.1 hb3
      refine J_iconst (v := (-1)) (by decide) dX8_byteAt_28 ?_
      exact J_fini (ty := .int) rfl rfl dX8_byteAt_29 hw
    · replace hw := hw.2 hb3
      refine J_iload_n rfl (i := 1) rfl dX8_byteAt_12 ?_
      refine J_sipush (v := 400) (by decide) dX8_byteAt_13 ?_
      refine J_icmp_ge (tgt := 28) dX8_byteAt_16 (by decide) (fun hb2 => ?_) (fun hb2 => ?_)
      · replace hw := hw.1 hb2
        refine J_iconst (v := (-1)) (by decide) dX8_byteAt_28 ?_
        exact J_fini (ty := .int) rfl rfl dX8_byteAt_29 hw
      · replace hw := hw.2 hb2
        refine J_aload_n rfl (i := 0) rfl dX8_byteAt_19 ?_
        refine J_getr kls_8 (q := 1) (k := 0) sh_1 (by decide) rfl gw_146 dX8_byteAt_20 ?_
        refine J_iload_n rfl (i := 1) rfl dX8_byteAt_23 ?_
        obtain ⟨j1, ej1, hj1, hw⟩ := hw
        refine J_bald sh_2 ej1 hj1 (by decide) dX8_byteAt_24 ?_
        refine J_goto (tgt := 29) dX8_byteAt_25 (by decide) ?_
        exact J_fini (ty := .int) rfl rfl dX8_byteAt_29 hw
theorem dX8_isLetter_0 : decode cX8_isLetter 0 = .ok (.iload_n 0, 1) := by decide +kernel
theorem dX8_isLetter_1 : decode cX8_isLetter 1 = .ok (.bipush 97, 2) := by decide +kernel
theorem dX8_isLetter_3 : decode cX8_isLetter 3 = .ok (.if_icmp .lt 13, 3) := by decide +kernel
theorem dX8_isLetter_6 : decode cX8_isLetter 6 = .ok (.iload_n 0, 1) := by decide +kernel
theorem dX8_isLetter_7 : decode cX8_isLetter 7 = .ok (.bipush 122, 2) := by decide +kernel
theorem dX8_isLetter_9 : decode cX8_isLetter 9 = .ok (.if_icmp .gt 7, 3) := by decide +kernel
theorem dX8_isLetter_12 : decode cX8_isLetter 12 = .ok (.iconst 1, 1) := by decide +kernel
theorem dX8_isLetter_13 : decode cX8_isLetter 13 = .ok (.goto 4, 3) := by decide +kernel
theorem dX8_isLetter_16 : decode cX8_isLetter 16 = .ok (.iconst 0, 1) := by decide +kernel
theorem dX8_isLetter_17 : decode cX8_isLetter 17 = .ok (.ireturn, 1) := by decide +kernel
set_option maxRecDepth 20000 in
theorem bX8_isLetter_0 {G : Gx} {mm : Nat → Nat → Int32} {lm : Nat → Int64} {x0 : Int32} {o : Ou} {z : Wd} {a b : Nat} (hw : ((x0 < 97) → o = .inl (some (.int 0)) ∧ z = (SH, mm, lm)) ∧ ((¬ x0 < 97) → ((122 < x0) → o = .inl (some (.int 0)) ∧ z = (SH, mm, lm)) ∧ ((¬ 122 < x0) → o = .inl (some (.int 1)) ∧ z = (SH, mm, lm)))) :
    J G M_X8_isLetter 0 [(0, .int x0)] [] (SH, mm, lm) false o z false a b := by
  refine J_iload_n rfl (i := 0) rfl dX8_isLetter_0 ?_
  refine J_bipush (v := 97) (by decide) dX8_isLetter_1 ?_
  refine J_icmp_lt (tgt := 16) dX8_isLetter_3 (by decide) (fun hb2 => ?_) (fun hb2 => ?_)
  · replace hw := hw.1 hb2
    refine J_iconst (v := 0) (by decide) dX8_isLetter_16 ?_
    exact J_fini (ty := .boolean) rfl rfl dX8_isLetter_17 hw
  · replace hw := hw.2 hb2
    refine J_iload_n rfl (i := 0) rfl dX8_isLetter_6 ?_
    refine J_bipush (v := 122) (by decide) dX8_isLetter_7 ?_
    refine J_icmp_gt (tgt := 16) dX8_isLetter_9 (by decide) (fun hb1 => ?_) (fun hb1 => ?_)
    · replace hw := hw.1 hb1
      refine J_iconst (v := 0) (by decide) dX8_isLetter_16 ?_
      exact J_fini (ty := .boolean) rfl rfl dX8_isLetter_17 hw
    · replace hw := hw.2 hb1
      refine J_iconst (v := 1) (by decide) dX8_isLetter_12 ?_
      refine J_goto (tgt := 17) dX8_isLetter_13 (by decide) ?_
      exact J_fini (ty := .boolean) rfl rfl dX8_isLetter_17 hw
theorem dX8_isDigit_0 : decode cX8_isDigit 0 = .ok (.iload_n 0, 1) := by decide +kernel
theorem dX8_isDigit_1 : decode cX8_isDigit 1 = .ok (.bipush 48, 2) := by decide +kernel
theorem dX8_isDigit_3 : decode cX8_isDigit 3 = .ok (.if_icmp .lt 13, 3) := by decide +kernel
theorem dX8_isDigit_6 : decode cX8_isDigit 6 = .ok (.iload_n 0, 1) := by decide +kernel
theorem dX8_isDigit_7 : decode cX8_isDigit 7 = .ok (.bipush 57, 2) := by decide +kernel
theorem dX8_isDigit_9 : decode cX8_isDigit 9 = .ok (.if_icmp .gt 7, 3) := by decide +kernel
theorem dX8_isDigit_12 : decode cX8_isDigit 12 = .ok (.iconst 1, 1) := by decide +kernel
theorem dX8_isDigit_13 : decode cX8_isDigit 13 = .ok (.goto 4, 3) := by decide +kernel
theorem dX8_isDigit_16 : decode cX8_isDigit 16 = .ok (.iconst 0, 1) := by decide +kernel
theorem dX8_isDigit_17 : decode cX8_isDigit 17 = .ok (.ireturn, 1) := by decide +kernel
set_option maxRecDepth 20000 in
theorem bX8_isDigit_0 {G : Gx} {mm : Nat → Nat → Int32} {lm : Nat → Int64} {x0 : Int32} {o : Ou} {z : Wd} {a b : Nat} (hw : ((x0 < 48) → o = .inl (some (.int 0)) ∧ z = (SH, mm, lm)) ∧ ((¬ x0 < 48) → ((57 < x0) → o = .inl (some (.int 0)) ∧ z = (SH, mm, lm)) ∧ ((¬ 57 < x0) → o = .inl (some (.int 1)) ∧ z = (SH, mm, lm)))) :
    J G M_X8_isDigit 0 [(0, .int x0)] [] (SH, mm, lm) false o z false a b := by
  refine J_iload_n rfl (i := 0) rfl dX8_isDigit_0 ?_
  refine J_bipush (v := 48) (by decide) dX8_isDigit_1 ?_
  refine J_icmp_lt (tgt := 16) dX8_isDigit_3 (by decide) (fun hb2 => ?_) (fun hb2 => ?_)
  · replace hw := hw.1 hb2
    refine J_iconst (v := 0) (by decide) dX8_isDigit_16 ?_
    exact J_fini (ty := .boolean) rfl rfl dX8_isDigit_17 hw
  · replace hw := hw.2 hb2
    refine J_iload_n rfl (i := 0) rfl dX8_isDigit_6 ?_
    refine J_bipush (v := 57) (by decide) dX8_isDigit_7 ?_
    refine J_icmp_gt (tgt := 16) dX8_isDigit_9 (by decide) (fun hb1 => ?_) (fun hb1 => ?_)
    · replace hw := hw.1 hb1
      refine J_iconst (v := 0) (by decide) dX8_isDigit_16 ?_
      exact J_fini (ty := .boolean) rfl rfl dX8_isDigit_17 hw
    · replace hw := hw.2 hb1
      refine J_iconst (v := 1) (by decide) dX8_isDigit_12 ?_
      refine J_goto (tgt := 17) dX8_isDigit_13 (by decide) ?_
      exact J_fini (ty := .boolean) rfl rfl dX8_isDigit_17 hw
