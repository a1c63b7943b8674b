/-! ===== decode rows and walks between cut points, by program (wip/gen/mk10.py) ===== -/
theorem dX5_lengthFor_0 : decode cX5_lengthFor 0 = .ok (.aload_n 0, 1) := by decide +kernel
theorem dX5_lengthFor_1 : decode cX5_lengthFor 1 = .ok (.getfield 25, 3) := by decide +kernel
theorem dX5_lengthFor_4 : decode cX5_lengthFor 4 = .ok (.iload_n 1, 1) := by decide +kernel
theorem dX5_lengthFor_5 : decode cX5_lengthFor 5 = .ok (.aaload, 1) := by decide +kernel
theorem dX5_lengthFor_6 : decode cX5_lengthFor 6 = .ok (.getfield 29, 3) := by decide +kernel
theorem dX5_lengthFor_9 : decode cX5_lengthFor 9 = .ok (.istore_n 2, 1) := by decide +kernel
theorem dX5_lengthFor_10 : decode cX5_lengthFor 10 = .ok (.iload_n 2, 1) := by decide +kernel
theorem dX5_lengthFor_11 : decode cX5_lengthFor 11 = .ok (.ifCond .lt 14, 3) := by decide +kernel
theorem dX5_lengthFor_14 : decode cX5_lengthFor 14 = .ok (.iload_n 2, 1) := by decide +kernel
theorem dX5_lengthFor_15 : decode cX5_lengthFor 15 = .ok (.aload_n 0, 1) := by decide +kernel
theorem dX5_lengthFor_16 : decode cX5_lengthFor 16 = .ok (.getfield 21, 3) := by decide +kernel
theorem dX5_lengthFor_19 : decode cX5_lengthFor 19 = .ok (.getfield 35, 3) := by decide +kernel
theorem dX5_lengthFor_22 : decode cX5_lengthFor 22 = .ok (.if_icmp .lt 5, 3) := by decide +kernel
theorem dX5_lengthFor_25 : decode cX5_lengthFor 25 = .ok (.iconst 0, 1) := by decide +kernel
theorem dX5_lengthFor_26 : decode cX5_lengthFor 26 = .ok (.ireturn, 1) := by decide +kernel
theorem dX5_lengthFor_27 : decode cX5_lengthFor 27 = .ok (.aload_n 0, 1) := by decide +kernel
theorem dX5_lengthFor_28 : decode cX5_lengthFor 28 = .ok (.getfield 21, 3) := by decide +kernel
theorem dX5_lengthFor_31 : decode cX5_lengthFor 31 = .ok (.getfield 40, 3) := by decide +kernel
theorem dX5_lengthFor_34 : decode cX5_lengthFor 34 = .ok (.iload_n 2, 1) := by decide +kernel
theorem dX5_lengthFor_35 : decode cX5_lengthFor 35 = .ok (.iaload, 1) := by decide +kernel
theorem dX5_lengthFor_36 : decode cX5_lengthFor 36 = .ok (.bipush 10, 2) := by decide +kernel
theorem dX5_lengthFor_38 : decode cX5_lengthFor 38 = .ok (.aload_n 0, 1) := by decide +kernel
theorem dX5_lengthFor_39 : decode cX5_lengthFor 39 = .ok (.getfield 25, 3) := by decide +kernel
theorem dX5_lengthFor_42 : decode cX5_lengthFor 42 = .ok (.iload_n 1, 1) := by decide +kernel
theorem dX5_lengthFor_43 : decode cX5_lengthFor 43 = .ok (.aaload, 1) := by decide +kernel
theorem dX5_lengthFor_44 : decode cX5_lengthFor 44 = .ok (.getfield 43, 3) := by decide +kernel
theorem dX5_lengthFor_47 : decode cX5_lengthFor 47 = .ok (.invokestatic 46, 3) := by decide +kernel
theorem dX5_lengthFor_50 : decode cX5_lengthFor 50 = .ok (.imul, 1) := by decide +kernel
theorem dX5_lengthFor_51 : decode cX5_lengthFor 51 = .ok (.iadd, 1) := by decide +kernel
theorem dX5_lengthFor_52 : decode cX5_lengthFor 52 = .ok (.bipush 50, 2) := by decide +kernel
theorem dX5_lengthFor_54 : decode cX5_lengthFor 54 = .ok (.iadd, 1) := by decide +kernel
theorem dX5_lengthFor_55 : decode cX5_lengthFor 55 = .ok (.ireturn, 1) := by decide +kernel
set_option maxRecDepth 20000 in
theorem bX5_lengthFor_0 {G : Gx} {mm : Nat → Nat → Int32} {lm : Nat → Int64} {x1 : Int32} {o : Ou} {z : Wd} {a b : Nat} (hw : ∃ j1 : Nat, x1 = nI j1 ∧ j1 < 8 ∧ (((mm (23 + j1) 0) < 0) → o = .inl (some (.int 0)) ∧ z = (SH, mm, lm)) ∧ ((¬ (mm (23 + j1) 0) < 0) → (((mm (23 + j1) 0) < (mm 4 8)) → ∃ j2 : Nat, (mm (23 + j1) 0) = nI j2 ∧ j2 < 4 ∧ ∃ j3 : Nat, x1 = nI j3 ∧ j3 < 8 ∧ ∃ (v5 : Int32), Ct G M_J9_abs_0f7a4 [.int (mm (23 + j3) 1)] (SH, mm, lm) false (.inl (some (.int v5))) (SH, mm, lm) false 0 0 ∧ o = .inl (some (.int (((mm 5 j2) + (10 * v5)) + 50))) ∧ z = (SH, mm, lm)) ∧ ((¬ (mm (23 + j1) 0) < (mm 4 8)) → o = .inl (some (.int 0)) ∧ z = (SH, mm, lm)))) :
    J G M_X5_lengthFor 0 [(0, .ref 44), (1, .int x1)] [] (SH, mm, lm) false o z false a b := by
  refine J_aload_n rfl (i := 0) rfl dX5_lengthFor_0 ?_
  refine J_getr kls_5 (q := 44) (k := 1) sh_44 (by decide) rfl gw_389 dX5_lengthFor_1 ?_
  refine J_iload_n rfl (i := 1) rfl dX5_lengthFor_4 ?_
  obtain ⟨j1, ej1, hj1, hw⟩ := hw
  refine J_aald (r := 23 + j1) sh_22 ej1 hj1 (by decide) (if_pos hj1) dX5_lengthFor_5 ?_
  refine J_geti kls_0 (q := (23 + j1)) (k := 0) (sh_b23 hj1) (by decide) rfl gw_250 dX5_lengthFor_6 ?_
  refine J_istore_n [(2, .int (mm (23 + j1) 0)), (0, .ref 44), (1, .int x1)] rfl (i := 2) (by decide) rfl dX5_lengthFor_9 ?_
  refine J_iload_n rfl (i := 2) rfl dX5_lengthFor_10 ?_
  refine J_if_lt (tgt := 25) dX5_lengthFor_11 (by decide) (fun hb8 => ?_) (fun hb8 => ?_)
  · replace hw := hw.1 hb8
    refine J_iconst (v := 0) (by decide) dX5_lengthFor_25 ?_
    exact J_fini (ty := .int) rfl rfl dX5_lengthFor_26 hw
  · replace hw := hw.2 hb8
    refine J_iload_n rfl (i := 2) rfl dX5_lengthFor_14 ?_
    refine J_aload_n rfl (i := 0) rfl dX5_lengthFor_15 ?_
    refine J_getr kls_5 (q := 44) (k := 0) sh_44 (by decide) rfl gw_388 dX5_lengthFor_16 ?_
    refine J_geti kls_7 (q := 4) (k := 8) sh_4 (by decide) rfl gw_201 dX5_lengthFor_19 ?_
    refine J_icmp_lt (tgt := 27) dX5_lengthFor_22 (by decide) (fun hb7 => ?_) (fun hb7 => ?_)
    · replace hw := hw.1 hb7
      refine J_aload_n rfl (i := 0) rfl dX5_lengthFor_27 ?_
      refine J_getr kls_5 (q := 44) (k := 0) sh_44 (by decide) rfl gw_388 dX5_lengthFor_28 ?_
      refine J_getr kls_7 (q := 4) (k := 0) sh_4 (by decide) rfl gw_185 dX5_lengthFor_31 ?_
      refine J_iload_n rfl (i := 2) rfl dX5_lengthFor_34 ?_
      obtain ⟨j2, ej2, hj2, hw⟩ := hw
      refine J_iald sh_5 ej2 hj2 (by decide) dX5_lengthFor_35 ?_
      refine J_bipush (v := 10) (by decide) dX5_lengthFor_36 ?_
      refine J_aload_n rfl (i := 0) rfl dX5_lengthFor_38 ?_
      refine J_getr kls_5 (q := 44) (k := 1) sh_44 (by decide) rfl gw_389 dX5_lengthFor_39 ?_
      refine J_iload_n rfl (i := 1) rfl dX5_lengthFor_42 ?_
      obtain ⟨j3, ej3, hj3, hw⟩ := hw
      refine J_aald (r := 23 + j3) sh_22 ej3 hj3 (by decide) (if_pos hj3) dX5_lengthFor_43 ?_
      refine J_geti kls_0 (q := (23 + j3)) (k := 1) (sh_b23 hj3) (by decide) rfl gw_255 dX5_lengthFor_44 ?_
      obtain ⟨v5, hc4, hw⟩ := hw
      refine J_callS (as := [.int (mm (23 + j3) 1)]) (st := [.int 10, .int (mm 5 j2)]) cal_J9_abs_0f7a4 cas_J9_abs_0f7a4 gw_1350 ⟨by decide, by decide⟩ cnt_J9_abs_0f7a4 rfl (Nat.le_of_ble_eq_true rfl) dX5_lengthFor_47 (Nat.zero_add _).symm (Nat.zero_add _).symm hc4 ?_
      refine J_imul dX5_lengthFor_50 ?_
      refine J_iadd dX5_lengthFor_51 ?_
      refine J_bipush (v := 50) (by decide) dX5_lengthFor_52 ?_
      refine J_iadd dX5_lengthFor_54 ?_
      exact J_fini (ty := .int) rfl rfl dX5_lengthFor_55 hw
    · replace hw := hw.2 hb7
      refine J_iconst (v := 0) (by decide) dX5_lengthFor_25 ?_
      exact J_fini (ty := .int) rfl rfl dX5_lengthFor_26 hw
theorem dX5_findCutting_0 : decode cX5_findCutting 0 = .ok (.aload_n 0, 1) := by decide +kernel
theorem dX5_findCutting_1 : decode cX5_findCutting 1 = .ok (.invokevirtual 52, 3) := by decide +kernel
theorem dX5_findCutting_4 : decode cX5_findCutting 4 = .ok (.iconst 0, 1) := by decide +kernel
theorem dX5_findCutting_5 : decode cX5_findCutting 5 = .ok (.istore_n 1, 1) := by decide +kernel
theorem dX5_findCutting_6 : decode cX5_findCutting 6 = .ok (.iload_n 1, 1) := by decide +kernel
theorem dX5_findCutting_7 : decode cX5_findCutting 7 = .ok (.sipush 256, 3) := by decide +kernel
theorem dX5_findCutting_10 : decode cX5_findCutting 10 = .ok (.if_icmp .ge 25, 3) := by decide +kernel
theorem dX5_findCutting_13 : decode cX5_findCutting 13 = .ok (.aload_n 0, 1) := by decide +kernel
theorem dX5_findCutting_14 : decode cX5_findCutting 14 = .ok (.getfield 18, 3) := by decide +kernel
theorem dX5_findCutting_17 : decode cX5_findCutting 17 = .ok (.iload_n 1, 1) := by decide +kernel
theorem dX5_findCutting_18 : decode cX5_findCutting 18 = .ok (.iload_n 1, 1) := by decide +kernel
theorem dX5_findCutting_19 : decode cX5_findCutting 19 = .ok (.ifCond .ne 7, 3) := by decide +kernel
theorem dX5_findCutting_22 : decode cX5_findCutting 22 = .ok (.iconst 0, 1) := by decide +kernel
theorem dX5_findCutting_23 : decode cX5_findCutting 23 = .ok (.goto 5, 3) := by decide +kernel
theorem dX5_findCutting_26 : decode cX5_findCutting 26 = .ok (.ldc 55, 2) := by decide +kernel
theorem dX5_findCutting_28 : decode cX5_findCutting 28 = .ok (.iastore, 1) := by decide +kernel
theorem dX5_findCutting_29 : decode cX5_findCutting 29 = .ok (.iinc 1 1, 3) := by decide +kernel
theorem dX5_findCutting_32 : decode cX5_findCutting 32 = .ok (.goto (-26), 3) := by decide +kernel
theorem dX5_findCutting_35 : decode cX5_findCutting 35 = .ok (.iconst 0, 1) := by decide +kernel
theorem dX5_findCutting_36 : decode cX5_findCutting 36 = .ok (.istore_n 1, 1) := by decide +kernel
theorem dX5_findCutting_37 : decode cX5_findCutting 37 = .ok (.iload_n 1, 1) := by decide +kernel
theorem dX5_findCutting_38 : decode cX5_findCutting 38 = .ok (.aload_n 0, 1) := by decide +kernel
theorem dX5_findCutting_39 : decode cX5_findCutting 39 = .ok (.getfield 21, 3) := by decide +kernel
theorem dX5_findCutting_42 : decode cX5_findCutting 42 = .ok (.getfield 56, 3) := by decide +kernel
theorem dX5_findCutting_45 : decode cX5_findCutting 45 = .ok (.if_icmp .ge 14, 3) := by decide +kernel
theorem dX5_findCutting_48 : decode cX5_findCutting 48 = .ok (.aload_n 0, 1) := by decide +kernel
theorem dX5_findCutting_49 : decode cX5_findCutting 49 = .ok (.iload_n 1, 1) := by decide +kernel
theorem dX5_findCutting_50 : decode cX5_findCutting 50 = .ok (.invokevirtual 59, 3) := by decide +kernel
theorem dX5_findCutting_53 : decode cX5_findCutting 53 = .ok (.iinc 1 1, 3) := by decide +kernel
theorem dX5_findCutting_56 : decode cX5_findCutting 56 = .ok (.goto (-19), 3) := by decide +kernel
theorem dX5_findCutting_59 : decode cX5_findCutting 59 = .ok (.aload_n 0, 1) := by decide +kernel
theorem dX5_findCutting_60 : decode cX5_findCutting 60 = .ok (.getfield 18, 3) := by decide +kernel
theorem dX5_findCutting_63 : decode cX5_findCutting 63 = .ok (.aload_n 0, 1) := by decide +kernel
theorem dX5_findCutting_64 : decode cX5_findCutting 64 = .ok (.getfield 63, 3) := by decide +kernel
theorem dX5_findCutting_67 : decode cX5_findCutting 67 = .ok (.iaload, 1) := by decide +kernel
theorem dX5_findCutting_68 : decode cX5_findCutting 68 = .ok (.ldc 55, 2) := by decide +kernel
theorem dX5_findCutting_70 : decode cX5_findCutting 70 = .ok (.if_icmp .eq 7, 3) := by decide +kernel
theorem dX5_findCutting_73 : decode cX5_findCutting 73 = .ok (.iconst 1, 1) := by decide +kernel
theorem dX5_findCutting_74 : decode cX5_findCutting 74 = .ok (.goto 4, 3) := by decide +kernel
theorem dX5_findCutting_77 : decode cX5_findCutting 77 = .ok (.iconst 0, 1) := by decide +kernel
theorem dX5_findCutting_78 : decode cX5_findCutting 78 = .ok (.ireturn, 1) := by decide +kernel
set_option maxRecDepth 20000 in
theorem bX5_findCutting_0 {G : Gx} {mm : Nat → Nat → Int32} {lm : Nat → Int64}  {o : Ou} {z : Wd} {a b : Nat} (hw : ∃ (m3 : Nat → Nat → Int32), Ct G M_X5_measureSets [.ref 44] (SH, mm, lm) false (.inl none) (SH, m3, lm) false 0 0 ∧ J G M_X5_findCutting 6 [(0, .ref 44), (1, .int 0)] [] (SH, m3, lm) false o z false a b) :
    J G M_X5_findCutting 0 [(0, .ref 44)] [] (SH, mm, lm) false o z false a b := by
  refine J_aload_n rfl (i := 0) rfl dX5_findCutting_0 ?_
  obtain ⟨m3, hc1, hw⟩ := hw
  refine J_callV (as := []) (k := 44) (st := []) cal_X5_measureSets cai_X5_measureSets gw_1362 ⟨by decide, by decide⟩ cnt_X5_measureSets sh_44 rfl rfl (Nat.le_of_ble_eq_true rfl) dX5_findCutting_1 (Nat.zero_add _).symm (Nat.zero_add _).symm hc1 ?_
  refine J_iconst (v := 0) (by decide) dX5_findCutting_4 ?_
  refine J_istore_n [(1, .int 0), (0, .ref 44)] rfl (i := 1) (by decide) rfl dX5_findCutting_5 ?_
  exact J_sub [1, 0] rfl hw
set_option maxRecDepth 20000 in
theorem bX5_findCutting_6 {G : Gx} {mm : Nat → Nat → Int32} {lm : Nat → Int64} {x1 : Int32} {o : Ou} {z : Wd} {a b : Nat} (hw : ((256 ≤ x1) → J G M_X5_findCutting 37 [(0, .ref 44), (1, .int 0)] [] (SH, mm, lm) false o z false a b) ∧ ((¬ 256 ≤ x1) → ((¬ x1 = 0) → ∃ j1 : Nat, x1 = nI j1 ∧ j1 < 256 ∧ J G M_X5_findCutting 6 [(0, .ref 44), (1, .int (x1 + 1))] [] (SH, (mset mm 47 j1 2147483647), lm) false o z false a b) ∧ ((x1 = 0) → ∃ j2 : Nat, x1 = nI j2 ∧ j2 < 256 ∧ J G M_X5_findCutting 6 [(0, .ref 44), (1, .int (x1 + 1))] [] (SH, (mset mm 47 j2 0), lm) false o z false a b))) :
    J G M_X5_findCutting 6 [(0, .ref 44), (1, .int x1)] [] (SH, mm, lm) false o z false a b := by
  refine J_iload_n rfl (i := 1) rfl dX5_findCutting_6 ?_
  refine J_sipush (v := 256) (by decide) dX5_findCutting_7 ?_
  refine J_icmp_ge (tgt := 35) dX5_findCutting_10 (by decide) (fun hb4 => ?_) (fun hb4 => ?_)
  · replace hw := hw.1 hb4
    refine J_iconst (v := 0) (by decide) dX5_findCutting_35 ?_
    refine J_istore_n [(1, .int 0), (0, .ref 44)] rfl (i := 1) (by decide) rfl dX5_findCutting_36 ?_
    exact J_sub [1, 0] rfl hw
  · replace hw := hw.2 hb4
    refine J_aload_n rfl (i := 0) rfl dX5_findCutting_13 ?_
    refine J_getr kls_5 (q := 44) (k := 4) sh_44 (by decide) rfl gw_392 dX5_findCutting_14 ?_
    refine J_iload_n rfl (i := 1) rfl dX5_findCutting_17 ?_
    refine J_iload_n rfl (i := 1) rfl dX5_findCutting_18 ?_
    refine J_if_ne (tgt := 26) dX5_findCutting_19 (by decide) (fun hb3 => ?_) (fun hb3 => ?_)
    · replace hw := hw.1 hb3
      refine J_ldc gw_1371 dX5_findCutting_26 ?_
      obtain ⟨j1, ej1, hj1, hw⟩ := hw
      refine J_iast sh_47 ej1 hj1 (by decide) dX5_findCutting_28 ?_
      refine J_iinc [(1, .int (x1 + 1)), (0, .ref 44)] (i := 1) (v := (x1 + 1)) rfl rfl (by decide) rfl dX5_findCutting_29 ?_
      refine J_goto (tgt := 6) dX5_findCutting_32 (by decide) ?_
      exact J_sub [1, 0] rfl hw
    · replace hw := hw.2 hb3
      refine J_iconst (v := 0) (by decide) dX5_findCutting_22 ?_
      refine J_goto (tgt := 28) dX5_findCutting_23 (by decide) ?_
      obtain ⟨j2, ej2, hj2, hw⟩ := hw
      refine J_iast sh_47 ej2 hj2 (by decide) dX5_findCutting_28 ?_
      refine J_iinc [(1, .int (x1 + 1)), (0, .ref 44)] (i := 1) (v := (x1 + 1)) rfl rfl (by decide) rfl dX5_findCutting_29 ?_
      refine J_goto (tgt := 6) dX5_findCutting_32 (by decide) ?_
      exact J_sub [1, 0] rfl hw
set_option maxRecDepth 20000 in
theorem bX5_findCutting_37 {G : Gx} {mm : Nat → Nat → Int32} {lm : Nat → Int64} {x1 : Int32} {o : Ou} {z : Wd} {a b : Nat} (hw : (((mm 4 11) ≤ x1) → ∃ j1 : Nat, (mm 44 5) = nI j1 ∧ j1 < 256 ∧ (((mm 47 j1) = 2147483647) → o = .inl (some (.int 0)) ∧ z = (SH, mm, lm)) ∧ ((¬ (mm 47 j1) = 2147483647) → o = .inl (some (.int 1)) ∧ z = (SH, mm, lm))) ∧ ((¬ (mm 4 11) ≤ x1) → ∃ (m5 : Nat → Nat → Int32), Ct G M_X5_offerPiece [.ref 44, .int x1] (SH, mm, lm) false (.inl none) (SH, m5, lm) false 0 0 ∧ J G M_X5_findCutting 37 [(0, .ref 44), (1, .int (x1 + 1))] [] (SH, m5, lm) false o z false a b)) :
    J G M_X5_findCutting 37 [(0, .ref 44), (1, .int x1)] [] (SH, mm, lm) false o z false a b := by
  refine J_iload_n rfl (i := 1) rfl dX5_findCutting_37 ?_
  refine J_aload_n rfl (i := 0) rfl dX5_findCutting_38 ?_
  refine J_getr kls_5 (q := 44) (k := 0) sh_44 (by decide) rfl gw_388 dX5_findCutting_39 ?_
  refine J_geti kls_7 (q := 4) (k := 11) sh_4 (by decide) rfl gw_216 dX5_findCutting_42 ?_
  refine J_icmp_ge (tgt := 59) dX5_findCutting_45 (by decide) (fun hb6 => ?_) (fun hb6 => ?_)
  · replace hw := hw.1 hb6
    refine J_aload_n rfl (i := 0) rfl dX5_findCutting_59 ?_
    refine J_getr kls_5 (q := 44) (k := 4) sh_44 (by decide) rfl gw_392 dX5_findCutting_60 ?_
    refine J_aload_n rfl (i := 0) rfl dX5_findCutting_63 ?_
    refine J_geti kls_5 (q := 44) (k := 5) sh_44 (by decide) rfl gw_393 dX5_findCutting_64 ?_
    obtain ⟨j1, ej1, hj1, hw⟩ := hw
    refine J_iald sh_47 ej1 hj1 (by decide) dX5_findCutting_67 ?_
    refine J_ldc gw_1371 dX5_findCutting_68 ?_
    refine J_icmp_eq (tgt := 77) dX5_findCutting_70 (by decide) (fun hb2 => ?_) (fun hb2 => ?_)
    · replace hw := hw.1 hb2
      refine J_iconst (v := 0) (by decide) dX5_findCutting_77 ?_
      exact J_fini (ty := .boolean) rfl rfl dX5_findCutting_78 hw
    · replace hw := hw.2 hb2
      refine J_iconst (v := 1) (by decide) dX5_findCutting_73 ?_
      refine J_goto (tgt := 78) dX5_findCutting_74 (by decide) ?_
      exact J_fini (ty := .boolean) rfl rfl dX5_findCutting_78 hw
  · replace hw := hw.2 hb6
    refine J_aload_n rfl (i := 0) rfl dX5_findCutting_48 ?_
    refine J_iload_n rfl (i := 1) rfl dX5_findCutting_49 ?_
    obtain ⟨m5, hc3, hw⟩ := hw
    refine J_callV (as := [.int x1]) (k := 44) (st := []) cal_X5_offerPiece cai_X5_offerPiece gw_1372 ⟨by decide, by decide⟩ cnt_X5_offerPiece sh_44 rfl rfl (Nat.le_of_ble_eq_true rfl) dX5_findCutting_50 (Nat.zero_add _).symm (Nat.zero_add _).symm hc3 ?_
    refine J_iinc [(1, .int (x1 + 1)), (0, .ref 44)] (i := 1) (v := (x1 + 1)) rfl rfl (by decide) rfl dX5_findCutting_53 ?_
    refine J_goto (tgt := 37) dX5_findCutting_56 (by decide) ?_
    exact J_sub [1, 0] rfl hw
theorem dX5_measureSets_0 : decode cX5_measureSets 0 = .ok (.aload_n 0, 1) := by decide +kernel
theorem dX5_measureSets_1 : decode cX5_measureSets 1 = .ok (.iconst 0, 1) := by decide +kernel
theorem dX5_measureSets_2 : decode cX5_measureSets 2 = .ok (.putfield 63, 3) := by decide +kernel
theorem dX5_measureSets_5 : decode cX5_measureSets 5 = .ok (.aload_n 0, 1) := by decide +kernel
theorem dX5_measureSets_6 : decode cX5_measureSets 6 = .ok (.getfield 11, 3) := by decide +kernel
theorem dX5_measureSets_9 : decode cX5_measureSets 9 = .ok (.iconst 0, 1) := by decide +kernel
theorem dX5_measureSets_10 : decode cX5_measureSets 10 = .ok (.iconst 0, 1) := by decide +kernel
theorem dX5_measureSets_11 : decode cX5_measureSets 11 = .ok (.iastore, 1) := by decide +kernel
theorem dX5_measureSets_12 : decode cX5_measureSets 12 = .ok (.aload_n 0, 1) := by decide +kernel
theorem dX5_measureSets_13 : decode cX5_measureSets 13 = .ok (.getfield 15, 3) := by decide +kernel
theorem dX5_measureSets_16 : decode cX5_measureSets 16 = .ok (.iconst 0, 1) := by decide +kernel
theorem dX5_measureSets_17 : decode cX5_measureSets 17 = .ok (.iconst 0, 1) := by decide +kernel
theorem dX5_measureSets_18 : decode cX5_measureSets 18 = .ok (.iastore, 1) := by decide +kernel
theorem dX5_measureSets_19 : decode cX5_measureSets 19 = .ok (.iconst 0, 1) := by decide +kernel
theorem dX5_measureSets_20 : decode cX5_measureSets 20 = .ok (.istore_n 1, 1) := by decide +kernel
theorem dX5_measureSets_21 : decode cX5_measureSets 21 = .ok (.iload_n 1, 1) := by decide +kernel
theorem dX5_measureSets_22 : decode cX5_measureSets 22 = .ok (.aload_n 0, 1) := by decide +kernel
theorem dX5_measureSets_23 : decode cX5_measureSets 23 = .ok (.getfield 21, 3) := by decide +kernel
theorem dX5_measureSets_26 : decode cX5_measureSets 26 = .ok (.getfield 66, 3) := by decide +kernel
theorem dX5_measureSets_29 : decode cX5_measureSets 29 = .ok (.if_icmp .ge 131, 3) := by decide +kernel
theorem dX5_measureSets_32 : decode cX5_measureSets 32 = .ok (.iconst 1, 1) := by decide +kernel
theorem dX5_measureSets_33 : decode cX5_measureSets 33 = .ok (.iload_n 1, 1) := by decide +kernel
theorem dX5_measureSets_34 : decode cX5_measureSets 34 = .ok (.ishl, 1) := by decide +kernel
theorem dX5_measureSets_35 : decode cX5_measureSets 35 = .ok (.istore_n 2, 1) := by decide +kernel
theorem dX5_measureSets_36 : decode cX5_measureSets 36 = .ok (.aload_n 0, 1) := by decide +kernel
theorem dX5_measureSets_37 : decode cX5_measureSets 37 = .ok (.getfield 25, 3) := by decide +kernel
theorem dX5_measureSets_40 : decode cX5_measureSets 40 = .ok (.iload_n 1, 1) := by decide +kernel
theorem dX5_measureSets_41 : decode cX5_measureSets 41 = .ok (.aaload, 1) := by decide +kernel
theorem dX5_measureSets_42 : decode cX5_measureSets 42 = .ok (.invokevirtual 68, 3) := by decide +kernel
theorem dX5_measureSets_45 : decode cX5_measureSets 45 = .ok (.ifCond .eq 11, 3) := by decide +kernel
theorem dX5_measureSets_48 : decode cX5_measureSets 48 = .ok (.aload_n 0, 1) := by decide +kernel
theorem dX5_measureSets_49 : decode cX5_measureSets 49 = .ok (.iload_n 1, 1) := by decide +kernel
theorem dX5_measureSets_50 : decode cX5_measureSets 50 = .ok (.invokevirtual 72, 3) := by decide +kernel
theorem dX5_measureSets_53 : decode cX5_measureSets 53 = .ok (.goto 4, 3) := by decide +kernel
theorem dX5_measureSets_56 : decode cX5_measureSets 56 = .ok (.iconst 0, 1) := by decide +kernel
theorem dX5_measureSets_57 : decode cX5_measureSets 57 = .ok (.istore_n 3, 1) := by decide +kernel
theorem dX5_measureSets_58 : decode cX5_measureSets 58 = .ok (.iconst 1, 1) := by decide +kernel
theorem dX5_measureSets_59 : decode cX5_measureSets 59 = .ok (.iload_n 1, 1) := by decide +kernel
theorem dX5_measureSets_60 : decode cX5_measureSets 60 = .ok (.invokestatic 75, 3) := by decide +kernel
theorem dX5_measureSets_63 : decode cX5_measureSets 63 = .ok (.ishl, 1) := by decide +kernel
theorem dX5_measureSets_64 : decode cX5_measureSets 64 = .ok (.istore 4, 2) := by decide +kernel
theorem dX5_measureSets_66 : decode cX5_measureSets 66 = .ok (.aload_n 0, 1) := by decide +kernel
theorem dX5_measureSets_67 : decode cX5_measureSets 67 = .ok (.dup, 1) := by decide +kernel
theorem dX5_measureSets_68 : decode cX5_measureSets 68 = .ok (.getfield 63, 3) := by decide +kernel
theorem dX5_measureSets_71 : decode cX5_measureSets 71 = .ok (.aload_n 0, 1) := by decide +kernel
theorem dX5_measureSets_72 : decode cX5_measureSets 72 = .ok (.getfield 25, 3) := by decide +kernel
theorem dX5_measureSets_75 : decode cX5_measureSets 75 = .ok (.iload_n 1, 1) := by decide +kernel
theorem dX5_measureSets_76 : decode cX5_measureSets 76 = .ok (.aaload, 1) := by decide +kernel
theorem dX5_measureSets_77 : decode cX5_measureSets 77 = .ok (.invokevirtual 68, 3) := by decide +kernel
theorem dX5_measureSets_80 : decode cX5_measureSets 80 = .ok (.ifCond .eq 7, 3) := by decide +kernel
theorem dX5_measureSets_83 : decode cX5_measureSets 83 = .ok (.iload_n 2, 1) := by decide +kernel
theorem dX5_measureSets_84 : decode cX5_measureSets 84 = .ok (.goto 4, 3) := by decide +kernel
theorem dX5_measureSets_87 : decode cX5_measureSets 87 = .ok (.iconst 0, 1) := by decide +kernel
theorem dX5_measureSets_88 : decode cX5_measureSets 88 = .ok (.ior, 1) := by decide +kernel
theorem dX5_measureSets_89 : decode cX5_measureSets 89 = .ok (.putfield 63, 3) := by decide +kernel
theorem dX5_measureSets_92 : decode cX5_measureSets 92 = .ok (.iload_n 2, 1) := by decide +kernel
theorem dX5_measureSets_93 : decode cX5_measureSets 93 = .ok (.istore 5, 2) := by decide +kernel
theorem dX5_measureSets_95 : decode cX5_measureSets 95 = .ok (.iload 5, 2) := by decide +kernel
theorem dX5_measureSets_97 : decode cX5_measureSets 97 = .ok (.iconst 2, 1) := by decide +kernel
theorem dX5_measureSets_98 : decode cX5_measureSets 98 = .ok (.iload_n 2, 1) := by decide +kernel
theorem dX5_measureSets_99 : decode cX5_measureSets 99 = .ok (.imul, 1) := by decide +kernel
theorem dX5_measureSets_100 : decode cX5_measureSets 100 = .ok (.if_icmp .ge 54, 3) := by decide +kernel
theorem dX5_measureSets_103 : decode cX5_measureSets 103 = .ok (.iload 5, 2) := by decide +kernel
theorem dX5_measureSets_105 : decode cX5_measureSets 105 = .ok (.sipush 256, 3) := by decide +kernel
theorem dX5_measureSets_108 : decode cX5_measureSets 108 = .ok (.if_icmp .ge 46, 3) := by decide +kernel
theorem dX5_measureSets_111 : decode cX5_measureSets 111 = .ok (.aload_n 0, 1) := by decide +kernel
theorem dX5_measureSets_112 : decode cX5_measureSets 112 = .ok (.getfield 11, 3) := by decide +kernel
theorem dX5_measureSets_115 : decode cX5_measureSets 115 = .ok (.iload 5, 2) := by decide +kernel
theorem dX5_measureSets_117 : decode cX5_measureSets 117 = .ok (.aload_n 0, 1) := by decide +kernel
theorem dX5_measureSets_118 : decode cX5_measureSets 118 = .ok (.getfield 11, 3) := by decide +kernel
theorem dX5_measureSets_121 : decode cX5_measureSets 121 = .ok (.iload 5, 2) := by decide +kernel
theorem dX5_measureSets_123 : decode cX5_measureSets 123 = .ok (.iload_n 2, 1) := by decide +kernel
theorem dX5_measureSets_124 : decode cX5_measureSets 124 = .ok (.isub, 1) := by decide +kernel
theorem dX5_measureSets_125 : decode cX5_measureSets 125 = .ok (.iaload, 1) := by decide +kernel
theorem dX5_measureSets_126 : decode cX5_measureSets 126 = .ok (.iload_n 3, 1) := by decide +kernel
theorem dX5_measureSets_127 : decode cX5_measureSets 127 = .ok (.iadd, 1) := by decide +kernel
theorem dX5_measureSets_128 : decode cX5_measureSets 128 = .ok (.iastore, 1) := by decide +kernel
theorem dX5_measureSets_129 : decode cX5_measureSets 129 = .ok (.aload_n 0, 1) := by decide +kernel
theorem dX5_measureSets_130 : decode cX5_measureSets 130 = .ok (.getfield 15, 3) := by decide +kernel
theorem dX5_measureSets_133 : decode cX5_measureSets 133 = .ok (.iload 5, 2) := by decide +kernel
theorem dX5_measureSets_135 : decode cX5_measureSets 135 = .ok (.aload_n 0, 1) := by decide +kernel
theorem dX5_measureSets_136 : decode cX5_measureSets 136 = .ok (.getfield 15, 3) := by decide +kernel
theorem dX5_measureSets_139 : decode cX5_measureSets 139 = .ok (.iload 5, 2) := by decide +kernel
theorem dX5_measureSets_141 : decode cX5_measureSets 141 = .ok (.iload_n 2, 1) := by decide +kernel
theorem dX5_measureSets_142 : decode cX5_measureSets 142 = .ok (.isub, 1) := by decide +kernel
theorem dX5_measureSets_143 : decode cX5_measureSets 143 = .ok (.iaload, 1) := by decide +kernel
theorem dX5_measureSets_144 : decode cX5_measureSets 144 = .ok (.iload 4, 2) := by decide +kernel
theorem dX5_measureSets_146 : decode cX5_measureSets 146 = .ok (.iadd, 1) := by decide +kernel
theorem dX5_measureSets_147 : decode cX5_measureSets 147 = .ok (.iastore, 1) := by decide +kernel
theorem dX5_measureSets_148 : decode cX5_measureSets 148 = .ok (.iinc 5 1, 3) := by decide +kernel
theorem dX5_measureSets_151 : decode cX5_measureSets 151 = .ok (.goto (-56), 3) := by decide +kernel
theorem dX5_measureSets_154 : decode cX5_measureSets 154 = .ok (.iinc 1 1, 3) := by decide +kernel
theorem dX5_measureSets_157 : decode cX5_measureSets 157 = .ok (.goto (-136), 3) := by decide +kernel
theorem dX5_measureSets_160 : decode cX5_measureSets 160 = .ok (.return_, 1) := by decide +kernel
set_option maxRecDepth 20000 in
theorem bX5_measureSets_0 {G : Gx} {mm : Nat → Nat → Int32} {lm : Nat → Int64}  {o : Ou} {z : Wd} {a b : Nat} (hw : ∃ j1 : Nat, 0 = nI j1 ∧ j1 < 256 ∧ ∃ j2 : Nat, 0 = nI j2 ∧ j2 < 256 ∧ J G M_X5_measureSets 21 [(0, .ref 44), (1, .int 0)] [] (SH, (mset (mset (mset mm 44 5 0) 45 j1 0) 46 j2 0), lm) false o z false a b) :
    J G M_X5_measureSets 0 [(0, .ref 44)] [] (SH, mm, lm) false o z false a b := by
  refine J_aload_n rfl (i := 0) rfl dX5_measureSets_0 ?_
  refine J_iconst (v := 0) (by decide) dX5_measureSets_1 ?_
  refine J_puti kls_5 (q := 44) (k := 5) sh_44 (by decide) rfl rfl (fun _ => rfl) (fun _ => rfl) gw_393 dX5_measureSets_2 ?_
  refine J_aload_n rfl (i := 0) rfl dX5_measureSets_5 ?_
  refine J_getr kls_5 (q := 44) (k := 2) sh_44 (by decide) rfl gw_390 dX5_measureSets_6 ?_
  refine J_iconst (v := 0) (by decide) dX5_measureSets_9 ?_
  refine J_iconst (v := 0) (by decide) dX5_measureSets_10 ?_
  obtain ⟨j1, ej1, hj1, hw⟩ := hw
  refine J_iast sh_45 ej1 hj1 (by decide) dX5_measureSets_11 ?_
  refine J_aload_n rfl (i := 0) rfl dX5_measureSets_12 ?_
  refine J_getr kls_5 (q := 44) (k := 3) sh_44 (by decide) rfl gw_391 dX5_measureSets_13 ?_
  refine J_iconst (v := 0) (by decide) dX5_measureSets_16 ?_
  refine J_iconst (v := 0) (by decide) dX5_measureSets_17 ?_
  obtain ⟨j2, ej2, hj2, hw⟩ := hw
  refine J_iast sh_46 ej2 hj2 (by decide) dX5_measureSets_18 ?_
  refine J_iconst (v := 0) (by decide) dX5_measureSets_19 ?_
  refine J_istore_n [(1, .int 0), (0, .ref 44)] rfl (i := 1) (by decide) rfl dX5_measureSets_20 ?_
  exact J_sub [1, 0] rfl hw
set_option maxRecDepth 20000 in
theorem bX5_measureSets_21 {G : Gx} {mm : Nat → Nat → Int32} {lm : Nat → Int64} {x1 : Int32} {o : Ou} {z : Wd} {a b : Nat} (hw : (((mm 4 9) ≤ x1) → o = .inl none ∧ z = (SH, mm, lm)) ∧ ((¬ (mm 4 9) ≤ x1) → ∃ j1 : Nat, x1 = nI j1 ∧ j1 < 8 ∧ ∃ (v3 : Int32), Ct G M_X0_hangs [.ref (23 + j1)] (SH, mm, lm) false (.inl (some (.int v3))) (SH, mm, lm) false 0 0 ∧ ((v3 = 0) → ∃ (v6 : Int32), Ct G M_X5_digitPlace [.int x1] (SH, mm, lm) false (.inl (some (.int v6))) (SH, mm, lm) false 0 0 ∧ ∃ j8 : Nat, x1 = nI j8 ∧ j8 < 8 ∧ ∃ (v10 : Int32), Ct G M_X0_hangs [.ref (23 + j8)] (SH, mm, lm) false (.inl (some (.int v10))) (SH, mm, lm) false 0 0 ∧ ((v10 = 0) → J G M_X5_measureSets 95 [(0, .ref 44), (1, .int x1), (2, .int (1 <<< (x1 &&& 31))), (3, .int 0), (4, .int (1 <<< (v6 &&& 31))), (5, .int (1 <<< (x1 &&& 31)))] [] (SH, (mset mm 44 5 ((mm 44 5) ||| 0)), lm) false o z false a b) ∧ ((¬ v10 = 0) → J G M_X5_measureSets 95 [(0, .ref 44), (1, .int x1), (2, .int (1 <<< (x1 &&& 31))), (3, .int 0), (4, .int (1 <<< (v6 &&& 31))), (5, .int (1 <<< (x1 &&& 31)))] [] (SH, (mset mm 44 5 ((mm 44 5) ||| (1 <<< (x1 &&& 31)))), lm) false o z false a b)) ∧ ((¬ v3 = 0) → ∃ (v14 : Int32), Ct G M_X5_lengthFor [.ref 44, .int x1] (SH, mm, lm) false (.inl (some (.int v14))) (SH, mm, lm) false 0 0 ∧ ∃ (v17 : Int32), Ct G M_X5_digitPlace [.int x1] (SH, mm, lm) false (.inl (some (.int v17))) (SH, mm, lm) false 0 0 ∧ ∃ j19 : Nat, x1 = nI j19 ∧ j19 < 8 ∧ ∃ (v21 : Int32), Ct G M_X0_hangs [.ref (23 + j19)] (SH, mm, lm) false (.inl (some (.int v21))) (SH, mm, lm) false 0 0 ∧ ((v21 = 0) → J G M_X5_measureSets 95 [(0, .ref 44), (1, .int x1), (2, .int (1 <<< (x1 &&& 31))), (3, .int v14), (4, .int (1 <<< (v17 &&& 31))), (5, .int (1 <<< (x1 &&& 31)))] [] (SH, (mset mm 44 5 ((mm 44 5) ||| 0)), lm) false o z false a b) ∧ ((¬ v21 = 0) → J G M_X5_measureSets 95 [(0, .ref 44), (1, .int x1), (2, .int (1 <<< (x1 &&& 31))), (3, .int v14), (4, .int (1 <<< (v17 &&& 31))), (5, .int (1 <<< (x1 &&& 31)))] [] (SH, (mset mm 44 5 ((mm 44 5) ||| (1 <<< (x1 &&& 31)))), lm) false o z false a b)))) :
    J G M_X5_measureSets 21 [(0, .ref 44), (1, .int x1)] [] (SH, mm, lm) false o z false a b := by
  refine J_iload_n rfl (i := 1) rfl dX5_measureSets_21 ?_
  refine J_aload_n rfl (i := 0) rfl dX5_measureSets_22 ?_
  refine J_getr kls_5 (q := 44) (k := 0) sh_44 (by decide) rfl gw_388 dX5_measureSets_23 ?_
  refine J_geti kls_7 (q := 4) (k := 9) sh_4 (by decide) rfl gw_211 dX5_measureSets_26 ?_
  refine J_icmp_ge (tgt := 160) dX5_measureSets_29 (by decide) (fun hb25 => ?_) (fun hb25 => ?_)
  · replace hw := hw.1 hb25
    exact J_finv rfl dX5_measureSets_160 hw
  · replace hw := hw.2 hb25
    refine J_iconst (v := 1) (by decide) dX5_measureSets_32 ?_
    refine J_iload_n rfl (i := 1) rfl dX5_measureSets_33 ?_
    refine J_ishl dX5_measureSets_34 ?_
    refine J_istore_n [(2, .int (1 <<< (x1 &&& 31))), (0, .ref 44), (1, .int x1)] rfl (i := 2) (by decide) rfl dX5_measureSets_35 ?_
    refine J_aload_n rfl (i := 0) rfl dX5_measureSets_36 ?_
    refine J_getr kls_5 (q := 44) (k := 1) sh_44 (by decide) rfl gw_389 dX5_measureSets_37 ?_
    refine J_iload_n rfl (i := 1) rfl dX5_measureSets_40 ?_
    obtain ⟨j1, ej1, hj1, hw⟩ := hw
    refine J_aald (r := 23 + j1) sh_22 ej1 hj1 (by decide) (if_pos hj1) dX5_measureSets_41 ?_
    obtain ⟨v3, hc2, hw⟩ := hw
    refine J_callV (as := []) (k := (23 + j1)) (st := []) cal_X0_hangs cai_X0_hangs gw_1366 ⟨by decide, by decide⟩ cnt_X0_hangs (sh_b23 hj1) rfl rfl (Nat.le_of_ble_eq_true rfl) dX5_measureSets_42 (Nat.zero_add _).symm (Nat.zero_add _).symm hc2 ?_
    refine J_if_eq (tgt := 56) dX5_measureSets_45 (by decide) (fun hb24 => ?_) (fun hb24 => ?_)
    · replace hw := hw.1 hb24
      refine J_iconst (v := 0) (by decide) dX5_measureSets_56 ?_
      refine J_istore_n [(3, .int 0), (2, .int (1 <<< (x1 &&& 31))), (0, .ref 44), (1, .int x1)] rfl (i := 3) (by decide) rfl dX5_measureSets_57 ?_
      refine J_iconst (v := 1) (by decide) dX5_measureSets_58 ?_
      refine J_iload_n rfl (i := 1) rfl dX5_measureSets_59 ?_
      obtain ⟨v6, hc5, hw⟩ := hw
      refine J_callS (as := [.int x1]) (st := [.int 1]) cal_X5_digitPlace cas_X5_digitPlace gw_1368 ⟨by decide, by decide⟩ cnt_X5_digitPlace rfl (Nat.le_of_ble_eq_true rfl) dX5_measureSets_60 (Nat.zero_add _).symm (Nat.zero_add _).symm hc5 ?_
      refine J_ishl dX5_measureSets_63 ?_
      refine J_istore [(4, .int (1 <<< (v6 &&& 31))), (3, .int 0), (2, .int (1 <<< (x1 &&& 31))), (0, .ref 44), (1, .int x1)] (i := 4) (by decide) rfl dX5_measureSets_64 ?_
      refine J_aload_n rfl (i := 0) rfl dX5_measureSets_66 ?_
      refine J_dupr dX5_measureSets_67 ?_
      refine J_geti kls_5 (q := 44) (k := 5) sh_44 (by decide) rfl gw_393 dX5_measureSets_68 ?_
      refine J_aload_n rfl (i := 0) rfl dX5_measureSets_71 ?_
      refine J_getr kls_5 (q := 44) (k := 1) sh_44 (by decide) rfl gw_389 dX5_measureSets_72 ?_
      refine J_iload_n rfl (i := 1) rfl dX5_measureSets_75 ?_
      obtain ⟨j8, ej8, hj8, hw⟩ := hw
      refine J_aald (r := 23 + j8) sh_22 ej8 hj8 (by decide) (if_pos hj8) dX5_measureSets_76 ?_
      obtain ⟨v10, hc9, hw⟩ := hw
      refine J_callV (as := []) (k := (23 + j8)) (st := [.int (mm 44 5), .ref 44]) cal_X0_hangs cai_X0_hangs gw_1366 ⟨by decide, by decide⟩ cnt_X0_hangs (sh_b23 hj8) rfl rfl (Nat.le_of_ble_eq_true rfl) dX5_measureSets_77 (Nat.zero_add _).symm (Nat.zero_add _).symm hc9 ?_
      refine J_if_eq (tgt := 87) dX5_measureSets_80 (by decide) (fun hb12 => ?_) (fun hb12 => ?_)
      · replace hw := hw.1 hb12
        refine J_iconst (v := 0) (by decide) dX5_measureSets_87 ?_
        refine J_ior dX5_measureSets_88 ?_
        refine J_puti kls_5 (q := 44) (k := 5) sh_44 (by decide) rfl rfl (fun _ => rfl) (fun _ => rfl) gw_393 dX5_measureSets_89 ?_
        refine J_iload_n rfl (i := 2) rfl dX5_measureSets_92 ?_
        refine J_istore [(5, .int (1 <<< (x1 &&& 31))), (4, .int (1 <<< (v6 &&& 31))), (3, .int 0), (2, .int (1 <<< (x1 &&& 31))), (0, .ref 44), (1, .int x1)] (i := 5) (by decide) rfl dX5_measureSets_93 ?_
        exact J_sub [4, 5, 3, 2, 1, 0] rfl hw
      · replace hw := hw.2 hb12
        refine J_iload_n rfl (i := 2) rfl dX5_measureSets_83 ?_
        refine J_goto (tgt := 88) dX5_measureSets_84 (by decide) ?_
        refine J_ior dX5_measureSets_88 ?_
        refine J_puti kls_5 (q := 44) (k := 5) sh_44 (by decide) rfl rfl (fun _ => rfl) (fun _ => rfl) gw_393 dX5_measureSets_89 ?_
        refine J_iload_n rfl (i := 2) rfl dX5_measureSets_92 ?_
        refine J_istore [(5, .int (1 <<< (x1 &&& 31))), (4, .int (1 <<< (v6 &&& 31))), (3, .int 0), (2, .int (1 <<< (x1 &&& 31))), (0, .ref 44), (1, .int x1)] (i := 5) (by decide) rfl dX5_measureSets_93 ?_
        exact J_sub [4, 5, 3, 2, 1, 0] rfl hw
    · replace hw := hw.2 hb24
      refine J_aload_n rfl (i := 0) rfl dX5_measureSets_48 ?_
      refine J_iload_n rfl (i := 1) rfl dX5_measureSets_49 ?_
      obtain ⟨v14, hc13, hw⟩ := hw
      refine J_callV (as := [.int x1]) (k := 44) (st := []) cal_X5_lengthFor cai_X5_lengthFor gw_1367 ⟨by decide, by decide⟩ cnt_X5_lengthFor sh_44 rfl rfl (Nat.le_of_ble_eq_true rfl) dX5_measureSets_50 (Nat.zero_add _).symm (Nat.zero_add _).symm hc13 ?_
      refine J_goto (tgt := 57) dX5_measureSets_53 (by decide) ?_
      refine J_istore_n [(3, .int v14), (2, .int (1 <<< (x1 &&& 31))), (0, .ref 44), (1, .int x1)] rfl (i := 3) (by decide) rfl dX5_measureSets_57 ?_
      refine J_iconst (v := 1) (by decide) dX5_measureSets_58 ?_
      refine J_iload_n rfl (i := 1) rfl dX5_measureSets_59 ?_
      obtain ⟨v17, hc16, hw⟩ := hw
      refine J_callS (as := [.int x1]) (st := [.int 1]) cal_X5_digitPlace cas_X5_digitPlace gw_1368 ⟨by decide, by decide⟩ cnt_X5_digitPlace rfl (Nat.le_of_ble_eq_true rfl) dX5_measureSets_60 (Nat.zero_add _).symm (Nat.zero_add _).symm hc16 ?_
      refine J_ishl dX5_measureSets_63 ?_
      refine J_istore [(4, .int (1 <<< (v17 &&& 31))), (3, .int v14), (2, .int (1 <<< (x1 &&& 31))), (0, .ref 44), (1, .int x1)] (i := 4) (by decide) rfl dX5_measureSets_64 ?_
      refine J_aload_n rfl (i := 0) rfl dX5_measureSets_66 ?_
      refine J_dupr dX5_measureSets_67 ?_
      refine J_geti kls_5 (q := 44) (k := 5) sh_44 (by decide) rfl gw_393 dX5_measureSets_68 ?_
      refine J_aload_n rfl (i := 0) rfl dX5_measureSets_71 ?_
      refine J_getr kls_5 (q := 44) (k := 1) sh_44 (by decide) rfl gw_389 dX5_measureSets_72 ?_
      refine J_iload_n rfl (i := 1) rfl dX5_measureSets_75 ?_
      obtain ⟨j19, ej19, hj19, hw⟩ := hw
      refine J_aald (r := 23 + j19) sh_22 ej19 hj19 (by decide) (if_pos hj19) dX5_measureSets_76 ?_
      obtain ⟨v21, hc20, hw⟩ := hw
      refine J_callV (as := []) (k := (23 + j19)) (st := [.int (mm 44 5), .ref 44]) cal_X0_hangs cai_X0_hangs gw_1366 ⟨by decide, by decide⟩ cnt_X0_hangs (sh_b23 hj19) rfl rfl (Nat.le_of_ble_eq_true rfl) dX5_measureSets_77 (Nat.zero_add _).symm (Nat.zero_add _).symm hc20 ?_
      refine J_if_eq (tgt := 87) dX5_measureSets_80 (by decide) (fun hb23 => ?_) (fun hb23 => ?_)
      · replace hw := hw.1 hb23
        refine J_iconst (v := 0) (by decide) dX5_measureSets_87 ?_
        refine J_ior dX5_measureSets_88 ?_
        refine J_puti kls_5 (q := 44) (k := 5) sh_44 (by decide) rfl rfl (fun _ => rfl) (fun _ => rfl) gw_393 dX5_measureSets_89 ?_
        refine J_iload_n rfl (i := 2) rfl dX5_measureSets_92 ?_
        refine J_istore [(5, .int (1 <<< (x1 &&& 31))), (4, .int (1 <<< (v17 &&& 31))), (3, .int v14), (2, .int (1 <<< (x1 &&& 31))), (0, .ref 44), (1, .int x1)] (i := 5) (by decide) rfl dX5_measureSets_93 ?_
        exact J_sub [4, 5, 3, 2, 1, 0] rfl hw
      · replace hw := hw.2 hb23
        refine J_iload_n rfl (i := 2) rfl dX5_measureSets_83 ?_
        refine J_goto (tgt := 88) dX5_measureSets_84 (by decide) ?_
        refine J_ior dX5_measureSets_88 ?_
        refine J_puti kls_5 (q := 44) (k := 5) sh_44 (by decide) rfl rfl (fun _ => rfl) (fun _ => rfl) gw_393 dX5_measureSets_89 ?_
        refine J_iload_n rfl (i := 2) rfl dX5_measureSets_92 ?_
        refine J_istore [(5, .int (1 <<< (x1 &&& 31))), (4, .int (1 <<< (v17 &&& 31))), (3, .int v14), (2, .int (1 <<< (x1 &&& 31))), (0, .ref 44), (1, .int x1)] (i := 5) (by decide) rfl dX5_measureSets_93 ?_
        exact J_sub [4, 5, 3, 2, 1, 0] rfl hw
set_option maxRecDepth 20000 in
theorem bX5_measureSets_95 {G : Gx} {mm : Nat → Nat → Int32} {lm : Nat → Int64} {x1 : Int32} {x2 : Int32} {x3 : Int32} {x4 : Int32} {x5 : Int32} {o : Ou} {z : Wd} {a b : Nat} (hw : (((2 * x2) ≤ x5) → J G M_X5_measureSets 21 [(0, .ref 44), (1, .int (x1 + 1))] [] (SH, mm, lm) false o z false a b) ∧ ((¬ (2 * x2) ≤ x5) → ((256 ≤ x5) → J G M_X5_measureSets 21 [(0, .ref 44), (1, .int (x1 + 1))] [] (SH, mm, lm) false o z false a b) ∧ ((¬ 256 ≤ x5) → ∃ j1 : Nat, (x5 - x2) = nI j1 ∧ j1 < 256 ∧ ∃ j2 : Nat, x5 = nI j2 ∧ j2 < 256 ∧ ∃ j3 : Nat, (x5 - x2) = nI j3 ∧ j3 < 256 ∧ ∃ j4 : Nat, x5 = nI j4 ∧ j4 < 256 ∧ J G M_X5_measureSets 95 [(0, .ref 44), (1, .int x1), (2, .int x2), (3, .int x3), (4, .int x4), (5, .int (x5 + 1))] [] (SH, (mset (mset mm 45 j2 ((mm 45 j1) + x3)) 46 j4 (((mset mm 45 j2 ((mm 45 j1) + x3)) 46 j3) + x4)), lm) false o z false a b))) :
    J G M_X5_measureSets 95 [(0, .ref 44), (1, .int x1), (2, .int x2), (3, .int x3), (4, .int x4), (5, .int x5)] [] (SH, mm, lm) false o z false a b := by
  refine J_iload (i := 5) rfl dX5_measureSets_95 ?_
  refine J_iconst (v := 2) (by decide) dX5_measureSets_97 ?_
  refine J_iload_n rfl (i := 2) rfl dX5_measureSets_98 ?_
  refine J_imul dX5_measureSets_99 ?_
  refine J_icmp_ge (tgt := 154) dX5_measureSets_100 (by decide) (fun hb6 => ?_) (fun hb6 => ?_)
  · replace hw := hw.1 hb6
    refine J_iinc [(1, .int (x1 + 1)), (0, .ref 44), (2, .int x2), (3, .int x3), (4, .int x4), (5, .int x5)] (i := 1) (v := (x1 + 1)) rfl rfl (by decide) rfl dX5_measureSets_154 ?_
    refine J_goto (tgt := 21) dX5_measureSets_157 (by decide) ?_
    exact J_sub [1, 0] rfl hw
  · replace hw := hw.2 hb6
    refine J_iload (i := 5) rfl dX5_measureSets_103 ?_
    refine J_sipush (v := 256) (by decide) dX5_measureSets_105 ?_
    refine J_icmp_ge (tgt := 154) dX5_measureSets_108 (by decide) (fun hb5 => ?_) (fun hb5 => ?_)
    · replace hw := hw.1 hb5
      refine J_iinc [(1, .int (x1 + 1)), (0, .ref 44), (2, .int x2), (3, .int x3), (4, .int x4), (5, .int x5)] (i := 1) (v := (x1 + 1)) rfl rfl (by decide) rfl dX5_measureSets_154 ?_
      refine J_goto (tgt := 21) dX5_measureSets_157 (by decide) ?_
      exact J_sub [1, 0] rfl hw
    · replace hw := hw.2 hb5
      refine J_aload_n rfl (i := 0) rfl dX5_measureSets_111 ?_
      refine J_getr kls_5 (q := 44) (k := 2) sh_44 (by decide) rfl gw_390 dX5_measureSets_112 ?_
      refine J_iload (i := 5) rfl dX5_measureSets_115 ?_
      refine J_aload_n rfl (i := 0) rfl dX5_measureSets_117 ?_
      refine J_getr kls_5 (q := 44) (k := 2) sh_44 (by decide) rfl gw_390 dX5_measureSets_118 ?_
      refine J_iload (i := 5) rfl dX5_measureSets_121 ?_
      refine J_iload_n rfl (i := 2) rfl dX5_measureSets_123 ?_
      refine J_isub dX5_measureSets_124 ?_
      obtain ⟨j1, ej1, hj1, hw⟩ := hw
      refine J_iald sh_45 ej1 hj1 (by decide) dX5_measureSets_125 ?_
      refine J_iload_n rfl (i := 3) rfl dX5_measureSets_126 ?_
      refine J_iadd dX5_measureSets_127 ?_
      obtain ⟨j2, ej2, hj2, hw⟩ := hw
      refine J_iast sh_45 ej2 hj2 (by decide) dX5_measureSets_128 ?_
      refine J_aload_n rfl (i := 0) rfl dX5_measureSets_129 ?_
      refine J_getr kls_5 (q := 44) (k := 3) sh_44 (by decide) rfl gw_391 dX5_measureSets_130 ?_
      refine J_iload (i := 5) rfl dX5_measureSets_133 ?_
      refine J_aload_n rfl (i := 0) rfl dX5_measureSets_135 ?_
      refine J_getr kls_5 (q := 44) (k := 3) sh_44 (by decide) rfl gw_391 dX5_measureSets_136 ?_
      refine J_iload (i := 5) rfl dX5_measureSets_139 ?_
      refine J_iload_n rfl (i := 2) rfl dX5_measureSets_141 ?_
      refine J_isub dX5_measureSets_142 ?_
      obtain ⟨j3, ej3, hj3, hw⟩ := hw
      refine J_iald sh_46 ej3 hj3 (by decide) dX5_measureSets_143 ?_
      refine J_iload (i := 4) rfl dX5_measureSets_144 ?_
      refine J_iadd dX5_measureSets_146 ?_
      obtain ⟨j4, ej4, hj4, hw⟩ := hw
      refine J_iast sh_46 ej4 hj4 (by decide) dX5_measureSets_147 ?_
      refine J_iinc [(5, .int (x5 + 1)), (0, .ref 44), (1, .int x1), (2, .int x2), (3, .int x3), (4, .int x4)] (i := 5) (v := (x5 + 1)) rfl rfl (by decide) rfl dX5_measureSets_148 ?_
      refine J_goto (tgt := 95) dX5_measureSets_151 (by decide) ?_
      exact J_sub [1, 2, 3, 4, 5, 0] rfl hw
theorem dX5_digitPlace_0 : decode cX5_digitPlace 0 = .ok (.iconst 3, 1) := by decide +kernel
theorem dX5_digitPlace_1 : decode cX5_digitPlace 1 = .ok (.bipush 7, 2) := by decide +kernel
theorem dX5_digitPlace_3 : decode cX5_digitPlace 3 = .ok (.iload_n 0, 1) := by decide +kernel
theorem dX5_digitPlace_4 : decode cX5_digitPlace 4 = .ok (.isub, 1) := by decide +kernel
theorem dX5_digitPlace_5 : decode cX5_digitPlace 5 = .ok (.imul, 1) := by decide +kernel
theorem dX5_digitPlace_6 : decode cX5_digitPlace 6 = .ok (.ireturn, 1) := by decide +kernel
set_option maxRecDepth 20000 in
theorem bX5_digitPlace_0 {G : Gx} {mm : Nat → Nat → Int32} {lm : Nat → Int64} {x0 : Int32} {o : Ou} {z : Wd} {a b : Nat} (hw : o = .inl (some (.int (3 * (7 - x0)))) ∧ z = (SH, mm, lm)) :
    J G M_X5_digitPlace 0 [(0, .int x0)] [] (SH, mm, lm) false o z false a b := by
  refine J_iconst (v := 3) (by decide) dX5_digitPlace_0 ?_
  refine J_bipush (v := 7) (by decide) dX5_digitPlace_1 ?_
  refine J_iload_n rfl (i := 0) rfl dX5_digitPlace_3 ?_
  refine J_isub dX5_digitPlace_4 ?_
  refine J_imul dX5_digitPlace_5 ?_
  exact J_fini (ty := .int) rfl rfl dX5_digitPlace_6 hw
theorem dX5_offerPiece_0 : decode cX5_offerPiece 0 = .ok (.aload_n 0, 1) := by decide +kernel
theorem dX5_offerPiece_1 : decode cX5_offerPiece 1 = .ok (.getfield 63, 3) := by decide +kernel
theorem dX5_offerPiece_4 : decode cX5_offerPiece 4 = .ok (.istore_n 2, 1) := by decide +kernel
theorem dX5_offerPiece_5 : decode cX5_offerPiece 5 = .ok (.iload_n 2, 1) := by decide +kernel
theorem dX5_offerPiece_6 : decode cX5_offerPiece 6 = .ok (.ifCond .le 100, 3) := by decide +kernel
theorem dX5_offerPiece_9 : decode cX5_offerPiece 9 = .ok (.iload_n 2, 1) := by decide +kernel
theorem dX5_offerPiece_10 : decode cX5_offerPiece 10 = .ok (.istore_n 3, 1) := by decide +kernel
theorem dX5_offerPiece_11 : decode cX5_offerPiece 11 = .ok (.iload_n 3, 1) := by decide +kernel
theorem dX5_offerPiece_12 : decode cX5_offerPiece 12 = .ok (.ifCond .le 82, 3) := by decide +kernel
theorem dX5_offerPiece_15 : decode cX5_offerPiece 15 = .ok (.aload_n 0, 1) := by decide +kernel
theorem dX5_offerPiece_16 : decode cX5_offerPiece 16 = .ok (.getfield 18, 3) := by decide +kernel
theorem dX5_offerPiece_19 : decode cX5_offerPiece 19 = .ok (.iload_n 2, 1) := by decide +kernel
theorem dX5_offerPiece_20 : decode cX5_offerPiece 20 = .ok (.iload_n 3, 1) := by decide +kernel
theorem dX5_offerPiece_21 : decode cX5_offerPiece 21 = .ok (.iconst (-1), 1) := by decide +kernel
theorem dX5_offerPiece_22 : decode cX5_offerPiece 22 = .ok (.ixor, 1) := by decide +kernel
theorem dX5_offerPiece_23 : decode cX5_offerPiece 23 = .ok (.iand, 1) := by decide +kernel
theorem dX5_offerPiece_24 : decode cX5_offerPiece 24 = .ok (.iaload, 1) := by decide +kernel
theorem dX5_offerPiece_25 : decode cX5_offerPiece 25 = .ok (.istore 4, 2) := by decide +kernel
theorem dX5_offerPiece_27 : decode cX5_offerPiece 27 = .ok (.aload_n 0, 1) := by decide +kernel
theorem dX5_offerPiece_28 : decode cX5_offerPiece 28 = .ok (.getfield 11, 3) := by decide +kernel
theorem dX5_offerPiece_31 : decode cX5_offerPiece 31 = .ok (.iload_n 3, 1) := by decide +kernel
theorem dX5_offerPiece_32 : decode cX5_offerPiece 32 = .ok (.iaload, 1) := by decide +kernel
theorem dX5_offerPiece_33 : decode cX5_offerPiece 33 = .ok (.aload_n 0, 1) := by decide +kernel
theorem dX5_offerPiece_34 : decode cX5_offerPiece 34 = .ok (.getfield 21, 3) := by decide +kernel
theorem dX5_offerPiece_37 : decode cX5_offerPiece 37 = .ok (.getfield 78, 3) := by decide +kernel
theorem dX5_offerPiece_40 : decode cX5_offerPiece 40 = .ok (.iload_n 1, 1) := by decide +kernel
theorem dX5_offerPiece_41 : decode cX5_offerPiece 41 = .ok (.iaload, 1) := by decide +kernel
theorem dX5_offerPiece_42 : decode cX5_offerPiece 42 = .ok (.if_icmp .gt 43, 3) := by decide +kernel
theorem dX5_offerPiece_45 : decode cX5_offerPiece 45 = .ok (.iload 4, 2) := by decide +kernel
theorem dX5_offerPiece_47 : decode cX5_offerPiece 47 = .ok (.ldc 55, 2) := by decide +kernel
theorem dX5_offerPiece_49 : decode cX5_offerPiece 49 = .ok (.if_icmp .eq 36, 3) := by decide +kernel
theorem dX5_offerPiece_52 : decode cX5_offerPiece 52 = .ok (.iload 4, 2) := by decide +kernel
theorem dX5_offerPiece_54 : decode cX5_offerPiece 54 = .ok (.ldc 81, 2) := by decide +kernel
theorem dX5_offerPiece_56 : decode cX5_offerPiece 56 = .ok (.iadd, 1) := by decide +kernel
theorem dX5_offerPiece_57 : decode cX5_offerPiece 57 = .ok (.iload_n 1, 1) := by decide +kernel
theorem dX5_offerPiece_58 : decode cX5_offerPiece 58 = .ok (.aload_n 0, 1) := by decide +kernel
theorem dX5_offerPiece_59 : decode cX5_offerPiece 59 = .ok (.getfield 15, 3) := by decide +kernel
theorem dX5_offerPiece_62 : decode cX5_offerPiece 62 = .ok (.iload_n 3, 1) := by decide +kernel
theorem dX5_offerPiece_63 : decode cX5_offerPiece 63 = .ok (.iaload, 1) := by decide +kernel
theorem dX5_offerPiece_64 : decode cX5_offerPiece 64 = .ok (.imul, 1) := by decide +kernel
theorem dX5_offerPiece_65 : decode cX5_offerPiece 65 = .ok (.iadd, 1) := by decide +kernel
theorem dX5_offerPiece_66 : decode cX5_offerPiece 66 = .ok (.istore 5, 2) := by decide +kernel
theorem dX5_offerPiece_68 : decode cX5_offerPiece 68 = .ok (.aload_n 0, 1) := by decide +kernel
theorem dX5_offerPiece_69 : decode cX5_offerPiece 69 = .ok (.getfield 18, 3) := by decide +kernel
theorem dX5_offerPiece_72 : decode cX5_offerPiece 72 = .ok (.iload_n 2, 1) := by decide +kernel
theorem dX5_offerPiece_73 : decode cX5_offerPiece 73 = .ok (.aload_n 0, 1) := by decide +kernel
theorem dX5_offerPiece_74 : decode cX5_offerPiece 74 = .ok (.getfield 18, 3) := by decide +kernel
theorem dX5_offerPiece_77 : decode cX5_offerPiece 77 = .ok (.iload_n 2, 1) := by decide +kernel
theorem dX5_offerPiece_78 : decode cX5_offerPiece 78 = .ok (.iaload, 1) := by decide +kernel
theorem dX5_offerPiece_79 : decode cX5_offerPiece 79 = .ok (.iload 5, 2) := by decide +kernel
theorem dX5_offerPiece_81 : decode cX5_offerPiece 81 = .ok (.invokestatic 82, 3) := by decide +kernel
theorem dX5_offerPiece_84 : decode cX5_offerPiece 84 = .ok (.iastore, 1) := by decide +kernel
theorem dX5_offerPiece_85 : decode cX5_offerPiece 85 = .ok (.iload_n 3, 1) := by decide +kernel
theorem dX5_offerPiece_86 : decode cX5_offerPiece 86 = .ok (.iconst 1, 1) := by decide +kernel
theorem dX5_offerPiece_87 : decode cX5_offerPiece 87 = .ok (.isub, 1) := by decide +kernel
theorem dX5_offerPiece_88 : decode cX5_offerPiece 88 = .ok (.iload_n 2, 1) := by decide +kernel
theorem dX5_offerPiece_89 : decode cX5_offerPiece 89 = .ok (.iand, 1) := by decide +kernel
theorem dX5_offerPiece_90 : decode cX5_offerPiece 90 = .ok (.istore_n 3, 1) := by decide +kernel
theorem dX5_offerPiece_91 : decode cX5_offerPiece 91 = .ok (.goto (-80), 3) := by decide +kernel
theorem dX5_offerPiece_94 : decode cX5_offerPiece 94 = .ok (.iload_n 2, 1) := by decide +kernel
theorem dX5_offerPiece_95 : decode cX5_offerPiece 95 = .ok (.iconst 1, 1) := by decide +kernel
theorem dX5_offerPiece_96 : decode cX5_offerPiece 96 = .ok (.isub, 1) := by decide +kernel
theorem dX5_offerPiece_97 : decode cX5_offerPiece 97 = .ok (.aload_n 0, 1) := by decide +kernel
theorem dX5_offerPiece_98 : decode cX5_offerPiece 98 = .ok (.getfield 63, 3) := by decide +kernel
theorem dX5_offerPiece_101 : decode cX5_offerPiece 101 = .ok (.iand, 1) := by decide +kernel
theorem dX5_offerPiece_102 : decode cX5_offerPiece 102 = .ok (.istore_n 2, 1) := by decide +kernel
theorem dX5_offerPiece_103 : decode cX5_offerPiece 103 = .ok (.goto (-98), 3) := by decide +kernel
theorem dX5_offerPiece_106 : decode cX5_offerPiece 106 = .ok (.return_, 1) := by decide +kernel
set_option maxRecDepth 20000 in
theorem bX5_offerPiece_0 {G : Gx} {mm : Nat → Nat → Int32} {lm : Nat → Int64} {x1 : Int32} {o : Ou} {z : Wd} {a b : Nat} (hw : J G M_X5_offerPiece 5 [(0, .ref 44), (1, .int x1), (2, .int (mm 44 5))] [] (SH, mm, lm) false o z false a b) :
    J G M_X5_offerPiece 0 [(0, .ref 44), (1, .int x1)] [] (SH, mm, lm) false o z false a b := by
  refine J_aload_n rfl (i := 0) rfl dX5_offerPiece_0 ?_
  refine J_geti kls_5 (q := 44) (k := 5) sh_44 (by decide) rfl gw_393 dX5_offerPiece_1 ?_
  refine J_istore_n [(2, .int (mm 44 5)), (0, .ref 44), (1, .int x1)] rfl (i := 2) (by decide) rfl dX5_offerPiece_4 ?_
  exact J_sub [1, 2, 0] rfl hw
set_option maxRecDepth 20000 in
theorem bX5_offerPiece_5 {G : Gx} {mm : Nat → Nat → Int32} {lm : Nat → Int64} {x1 : Int32} {x2 : Int32} {o : Ou} {z : Wd} {a b : Nat} (hw : ((x2 ≤ 0) → o = .inl none ∧ z = (SH, mm, lm)) ∧ ((¬ x2 ≤ 0) → J G M_X5_offerPiece 11 [(0, .ref 44), (1, .int x1), (2, .int x2), (3, .int x2)] [] (SH, mm, lm) false o z false a b)) :
    J G M_X5_offerPiece 5 [(0, .ref 44), (1, .int x1), (2, .int x2)] [] (SH, mm, lm) false o z false a b := by
  refine J_iload_n rfl (i := 2) rfl dX5_offerPiece_5 ?_
  refine J_if_le (tgt := 106) dX5_offerPiece_6 (by decide) (fun hb1 => ?_) (fun hb1 => ?_)
  · replace hw := hw.1 hb1
    exact J_finv rfl dX5_offerPiece_106 hw
  · replace hw := hw.2 hb1
    refine J_iload_n rfl (i := 2) rfl dX5_offerPiece_9 ?_
    refine J_istore_n [(3, .int x2), (0, .ref 44), (1, .int x1), (2, .int x2)] rfl (i := 3) (by decide) rfl dX5_offerPiece_10 ?_
    exact J_sub [1, 2, 3, 0] rfl hw
set_option maxRecDepth 20000 in
theorem bX5_offerPiece_11 {G : Gx} {mm : Nat → Nat → Int32} {lm : Nat → Int64} {x1 : Int32} {x2 : Int32} {x3 : Int32} {o : Ou} {z : Wd} {a b : Nat} (hw : ((x3 ≤ 0) → J G M_X5_offerPiece 5 [(0, .ref 44), (1, .int x1), (2, .int ((x2 - 1) &&& (mm 44 5)))] [] (SH, mm, lm) false o z false a b) ∧ ((¬ x3 ≤ 0) → ∃ j1 : Nat, (x2 &&& (x3 ^^^ (-1))) = nI j1 ∧ j1 < 256 ∧ ∃ j2 : Nat, x3 = nI j2 ∧ j2 < 256 ∧ ∃ j3 : Nat, x1 = nI j3 ∧ j3 < 8 ∧ (((mm 12 j3) < (mm 45 j2)) → J G M_X5_offerPiece 11 [(0, .ref 44), (1, .int x1), (2, .int x2), (3, .int ((x3 - 1) &&& x2))] [] (SH, mm, lm) false o z false a b) ∧ ((¬ (mm 12 j3) < (mm 45 j2)) → (((mm 47 j1) = 2147483647) → J G M_X5_offerPiece 11 [(0, .ref 44), (1, .int x1), (2, .int x2), (3, .int ((x3 - 1) &&& x2))] [] (SH, mm, lm) false o z false a b) ∧ ((¬ (mm 47 j1) = 2147483647) → ∃ j4 : Nat, x3 = nI j4 ∧ j4 < 256 ∧ ∃ j5 : Nat, x2 = nI j5 ∧ j5 < 256 ∧ ∃ (v7 : Int32), Ct G M_J9_min_7cf53 [.int (mm 47 j5), .int (((mm 47 j1) + 16777216) + (x1 * (mm 46 j4)))] (SH, mm, lm) false (.inl (some (.int v7))) (SH, mm, lm) false 0 0 ∧ ∃ j9 : Nat, x2 = nI j9 ∧ j9 < 256 ∧ J G M_X5_offerPiece 11 [(0, .ref 44), (1, .int x1), (2, .int x2), (3, .int ((x3 - 1) &&& x2))] [] (SH, (mset mm 47 j9 v7), lm) false o z false a b)))) :
    J G M_X5_offerPiece 11 [(0, .ref 44), (1, .int x1), (2, .int x2), (3, .int x3)] [] (SH, mm, lm) false o z false a b := by
  refine J_iload_n rfl (i := 3) rfl dX5_offerPiece_11 ?_
  refine J_if_le (tgt := 94) dX5_offerPiece_12 (by decide) (fun hb12 => ?_) (fun hb12 => ?_)
  · replace hw := hw.1 hb12
    refine J_iload_n rfl (i := 2) rfl dX5_offerPiece_94 ?_
    refine J_iconst (v := 1) (by decide) dX5_offerPiece_95 ?_
    refine J_isub dX5_offerPiece_96 ?_
    refine J_aload_n rfl (i := 0) rfl dX5_offerPiece_97 ?_
    refine J_geti kls_5 (q := 44) (k := 5) sh_44 (by decide) rfl gw_393 dX5_offerPiece_98 ?_
    refine J_iand dX5_offerPiece_101 ?_
    refine J_istore_n [(2, .int ((x2 - 1) &&& (mm 44 5))), (0, .ref 44), (1, .int x1), (3, .int x3)] rfl (i := 2) (by decide) rfl dX5_offerPiece_102 ?_
    refine J_goto (tgt := 5) dX5_offerPiece_103 (by decide) ?_
    exact J_sub [1, 2, 0] rfl hw
  · replace hw := hw.2 hb12
    refine J_aload_n rfl (i := 0) rfl dX5_offerPiece_15 ?_
    refine J_getr kls_5 (q := 44) (k := 4) sh_44 (by decide) rfl gw_392 dX5_offerPiece_16 ?_
    refine J_iload_n rfl (i := 2) rfl dX5_offerPiece_19 ?_
    refine J_iload_n rfl (i := 3) rfl dX5_offerPiece_20 ?_
    refine J_iconst (v := (-1)) (by decide) dX5_offerPiece_21 ?_
    refine J_ixor dX5_offerPiece_22 ?_
    refine J_iand dX5_offerPiece_23 ?_
    obtain ⟨j1, ej1, hj1, hw⟩ := hw
    refine J_iald sh_47 ej1 hj1 (by decide) dX5_offerPiece_24 ?_
    refine J_istore [(4, .int (mm 47 j1)), (0, .ref 44), (1, .int x1), (2, .int x2), (3, .int x3)] (i := 4) (by decide) rfl dX5_offerPiece_25 ?_
    refine J_aload_n rfl (i := 0) rfl dX5_offerPiece_27 ?_
    refine J_getr kls_5 (q := 44) (k := 2) sh_44 (by decide) rfl gw_390 dX5_offerPiece_28 ?_
    refine J_iload_n rfl (i := 3) rfl dX5_offerPiece_31 ?_
    obtain ⟨j2, ej2, hj2, hw⟩ := hw
    refine J_iald sh_45 ej2 hj2 (by decide) dX5_offerPiece_32 ?_
    refine J_aload_n rfl (i := 0) rfl dX5_offerPiece_33 ?_
    refine J_getr kls_5 (q := 44) (k := 0) sh_44 (by decide) rfl gw_388 dX5_offerPiece_34 ?_
    refine J_getr kls_7 (q := 4) (k := 7) sh_4 (by decide) rfl gw_199 dX5_offerPiece_37 ?_
    refine J_iload_n rfl (i := 1) rfl dX5_offerPiece_40 ?_
    obtain ⟨j3, ej3, hj3, hw⟩ := hw
    refine J_iald sh_12 ej3 hj3 (by decide) dX5_offerPiece_41 ?_
    refine J_icmp_gt (tgt := 85) dX5_offerPiece_42 (by decide) (fun hb11 => ?_) (fun hb11 => ?_)
    · replace hw := hw.1 hb11
      refine J_iload_n rfl (i := 3) rfl dX5_offerPiece_85 ?_
      refine J_iconst (v := 1) (by decide) dX5_offerPiece_86 ?_
      refine J_isub dX5_offerPiece_87 ?_
      refine J_iload_n rfl (i := 2) rfl dX5_offerPiece_88 ?_
      refine J_iand dX5_offerPiece_89 ?_
      refine J_istore_n [(3, .int ((x3 - 1) &&& x2)), (4, .int (mm 47 j1)), (0, .ref 44), (1, .int x1), (2, .int x2)] rfl (i := 3) (by decide) rfl dX5_offerPiece_90 ?_
      refine J_goto (tgt := 11) dX5_offerPiece_91 (by decide) ?_
      exact J_sub [2, 3, 4, 0] rfl hw
    · replace hw := hw.2 hb11
      refine J_iload (i := 4) rfl dX5_offerPiece_45 ?_
      refine J_ldc gw_1371 dX5_offerPiece_47 ?_
      refine J_icmp_eq (tgt := 85) dX5_offerPiece_49 (by decide) (fun hb10 => ?_) (fun hb10 => ?_)
      · replace hw := hw.1 hb10
        refine J_iload_n rfl (i := 3) rfl dX5_offerPiece_85 ?_
        refine J_iconst (v := 1) (by decide) dX5_offerPiece_86 ?_
        refine J_isub dX5_offerPiece_87 ?_
        refine J_iload_n rfl (i := 2) rfl dX5_offerPiece_88 ?_
        refine J_iand dX5_offerPiece_89 ?_
        refine J_istore_n [(3, .int ((x3 - 1) &&& x2)), (4, .int (mm 47 j1)), (0, .ref 44), (1, .int x1), (2, .int x2)] rfl (i := 3) (by decide) rfl dX5_offerPiece_90 ?_
        refine J_goto (tgt := 11) dX5_offerPiece_91 (by decide) ?_
        exact J_sub [2, 3, 4, 0] rfl hw
      · replace hw := hw.2 hb10
        refine J_iload (i := 4) rfl dX5_offerPiece_52 ?_
        refine J_ldc gw_1376 dX5_offerPiece_54 ?_
        refine J_iadd dX5_offerPiece_56 ?_
        refine J_iload_n rfl (i := 1) rfl dX5_offerPiece_57 ?_
        refine J_aload_n rfl (i := 0) rfl dX5_offerPiece_58 ?_
        refine J_getr kls_5 (q := 44) (k := 3) sh_44 (by decide) rfl gw_391 dX5_offerPiece_59 ?_
        refine J_iload_n rfl (i := 3) rfl dX5_offerPiece_62 ?_
        obtain ⟨j4, ej4, hj4, hw⟩ := hw
        refine J_iald sh_46 ej4 hj4 (by decide) dX5_offerPiece_63 ?_
        refine J_imul dX5_offerPiece_64 ?_
        refine J_iadd dX5_offerPiece_65 ?_
        refine J_istore [(5, .int (((mm 47 j1) + 16777216) + (x1 * (mm 46 j4)))), (4, .int (mm 47 j1)), (0, .ref 44), (1, .int x1), (2, .int x2), (3, .int x3)] (i := 5) (by decide) rfl dX5_offerPiece_66 ?_
        refine J_aload_n rfl (i := 0) rfl dX5_offerPiece_68 ?_
        refine J_getr kls_5 (q := 44) (k := 4) sh_44 (by decide) rfl gw_392 dX5_offerPiece_69 ?_
        refine J_iload_n rfl (i := 2) rfl dX5_offerPiece_72 ?_
        refine J_aload_n rfl (i := 0) rfl dX5_offerPiece_73 ?_
        refine J_getr kls_5 (q := 44) (k := 4) sh_44 (by decide) rfl gw_392 dX5_offerPiece_74 ?_
        refine J_iload_n rfl (i := 2) rfl dX5_offerPiece_77 ?_
        obtain ⟨j5, ej5, hj5, hw⟩ := hw
        refine J_iald sh_47 ej5 hj5 (by decide) dX5_offerPiece_78 ?_
        refine J_iload (i := 5) rfl dX5_offerPiece_79 ?_
        obtain ⟨v7, hc6, hw⟩ := hw
        refine J_callS (as := [.int (mm 47 j5), .int (((mm 47 j1) + 16777216) + (x1 * (mm 46 j4)))]) (st := [.int x2, .ref 47]) cal_J9_min_7cf53 cas_J9_min_7cf53 gw_1377 ⟨by decide, by decide⟩ cnt_J9_min_7cf53 rfl (Nat.le_of_ble_eq_true rfl) dX5_offerPiece_81 (Nat.zero_add _).symm (Nat.zero_add _).symm hc6 ?_
        obtain ⟨j9, ej9, hj9, hw⟩ := hw
        refine J_iast sh_47 ej9 hj9 (by decide) dX5_offerPiece_84 ?_
        refine J_iload_n rfl (i := 3) rfl dX5_offerPiece_85 ?_
        refine J_iconst (v := 1) (by decide) dX5_offerPiece_86 ?_
        refine J_isub dX5_offerPiece_87 ?_
        refine J_iload_n rfl (i := 2) rfl dX5_offerPiece_88 ?_
        refine J_iand dX5_offerPiece_89 ?_
        refine J_istore_n [(3, .int ((x3 - 1) &&& x2)), (5, .int (((mm 47 j1) + 16777216) + (x1 * (mm 46 j4)))), (4, .int (mm 47 j1)), (0, .ref 44), (1, .int x1), (2, .int x2)] rfl (i := 3) (by decide) rfl dX5_offerPiece_90 ?_
        refine J_goto (tgt := 11) dX5_offerPiece_91 (by decide) ?_
        exact J_sub [3, 4, 5, 0] rfl hw
theorem dX5_countUsedPieces_0 : decode cX5_countUsedPieces 0 = .ok (.aload_n 0, 1) := by decide +kernel
theorem dX5_countUsedPieces_1 : decode cX5_countUsedPieces 1 = .ok (.getfield 18, 3) := by decide +kernel
theorem dX5_countUsedPieces_4 : decode cX5_countUsedPieces 4 = .ok (.aload_n 0, 1) := by decide +kernel
theorem dX5_countUsedPieces_5 : decode cX5_countUsedPieces 5 = .ok (.getfield 63, 3) := by decide +kernel
theorem dX5_countUsedPieces_8 : decode cX5_countUsedPieces 8 = .ok (.iaload, 1) := by decide +kernel
theorem dX5_countUsedPieces_9 : decode cX5_countUsedPieces 9 = .ok (.ldc 81, 2) := by decide +kernel
theorem dX5_countUsedPieces_11 : decode cX5_countUsedPieces 11 = .ok (.idiv, 1) := by decide +kernel
theorem dX5_countUsedPieces_12 : decode cX5_countUsedPieces 12 = .ok (.ireturn, 1) := by decide +kernel
set_option maxRecDepth 20000 in
theorem bX5_countUsedPieces_0 {G : Gx} {mm : Nat → Nat → Int32} {lm : Nat → Int64}  {o : Ou} {z : Wd} {a b : Nat} (hw : ∃ j1 : Nat, (mm 44 5) = nI j1 ∧ j1 < 256 ∧ o = .inl (some (.int ((mm 47 j1) / 16777216))) ∧ z = (SH, mm, lm)) :
    J G M_X5_countUsedPieces 0 [(0, .ref 44)] [] (SH, mm, lm) false o z false a b := by
  refine J_aload_n rfl (i := 0) rfl dX5_countUsedPieces_0 ?_
  refine J_getr kls_5 (q := 44) (k := 4) sh_44 (by decide) rfl gw_392 dX5_countUsedPieces_1 ?_
  refine J_aload_n rfl (i := 0) rfl dX5_countUsedPieces_4 ?_
  refine J_geti kls_5 (q := 44) (k := 5) sh_44 (by decide) rfl gw_393 dX5_countUsedPieces_5 ?_
  obtain ⟨j1, ej1, hj1, hw⟩ := hw
  refine J_iald sh_47 ej1 hj1 (by decide) dX5_countUsedPieces_8 ?_
  refine J_ldc gw_1376 dX5_countUsedPieces_9 ?_
  refine J_idiv (by decide) dX5_countUsedPieces_11 ?_
  exact J_fini (ty := .int) rfl rfl dX5_countUsedPieces_12 hw
theorem dX5_pieceFor_0 : decode cX5_pieceFor 0 = .ok (.aload_n 0, 1) := by decide +kernel
theorem dX5_pieceFor_1 : decode cX5_pieceFor 1 = .ok (.getfield 18, 3) := by decide +kernel
theorem dX5_pieceFor_4 : decode cX5_pieceFor 4 = .ok (.aload_n 0, 1) := by decide +kernel
theorem dX5_pieceFor_5 : decode cX5_pieceFor 5 = .ok (.getfield 63, 3) := by decide +kernel
theorem dX5_pieceFor_8 : decode cX5_pieceFor 8 = .ok (.iaload, 1) := by decide +kernel
theorem dX5_pieceFor_9 : decode cX5_pieceFor 9 = .ok (.iload_n 1, 1) := by decide +kernel
theorem dX5_pieceFor_10 : decode cX5_pieceFor 10 = .ok (.invokestatic 75, 3) := by decide +kernel
theorem dX5_pieceFor_13 : decode cX5_pieceFor 13 = .ok (.ishr, 1) := by decide +kernel
theorem dX5_pieceFor_14 : decode cX5_pieceFor 14 = .ok (.bipush 7, 2) := by decide +kernel
theorem dX5_pieceFor_16 : decode cX5_pieceFor 16 = .ok (.iand, 1) := by decide +kernel
theorem dX5_pieceFor_17 : decode cX5_pieceFor 17 = .ok (.ireturn, 1) := by decide +kernel
set_option maxRecDepth 20000 in
theorem bX5_pieceFor_0 {G : Gx} {mm : Nat → Nat → Int32} {lm : Nat → Int64} {x1 : Int32} {o : Ou} {z : Wd} {a b : Nat} (hw : ∃ j1 : Nat, (mm 44 5) = nI j1 ∧ j1 < 256 ∧ ∃ (v3 : Int32), Ct G M_X5_digitPlace [.int x1] (SH, mm, lm) false (.inl (some (.int v3))) (SH, mm, lm) false 0 0 ∧ o = .inl (some (.int (((mm 47 j1) >>> (v3 &&& 31)) &&& 7))) ∧ z = (SH, mm, lm)) :
    J G M_X5_pieceFor 0 [(0, .ref 44), (1, .int x1)] [] (SH, mm, lm) false o z false a b := by
  refine J_aload_n rfl (i := 0) rfl dX5_pieceFor_0 ?_
  refine J_getr kls_5 (q := 44) (k := 4) sh_44 (by decide) rfl gw_392 dX5_pieceFor_1 ?_
  refine J_aload_n rfl (i := 0) rfl dX5_pieceFor_4 ?_
  refine J_geti kls_5 (q := 44) (k := 5) sh_44 (by decide) rfl gw_393 dX5_pieceFor_5 ?_
  obtain ⟨j1, ej1, hj1, hw⟩ := hw
  refine J_iald sh_47 ej1 hj1 (by decide) dX5_pieceFor_8 ?_
  refine J_iload_n rfl (i := 1) rfl dX5_pieceFor_9 ?_
  obtain ⟨v3, hc2, hw⟩ := hw
  refine J_callS (as := [.int x1]) (st := [.int (mm 47 j1)]) cal_X5_digitPlace cas_X5_digitPlace gw_1368 ⟨by decide, by decide⟩ cnt_X5_digitPlace rfl (Nat.le_of_ble_eq_true rfl) dX5_pieceFor_10 (Nat.zero_add _).symm (Nat.zero_add _).symm hc2 ?_
  refine J_ishr dX5_pieceFor_13 ?_
  refine J_bipush (v := 7) (by decide) dX5_pieceFor_14 ?_
  refine J_iand dX5_pieceFor_16 ?_
  exact J_fini (ty := .int) rfl rfl dX5_pieceFor_17 hw
theorem dX5_lengthLeft_0 : decode cX5_lengthLeft 0 = .ok (.iconst 0, 1) := by decide +kernel
theorem dX5_lengthLeft_1 : decode cX5_lengthLeft 1 = .ok (.istore_n 1, 1) := by decide +kernel
theorem dX5_lengthLeft_2 : decode cX5_lengthLeft 2 = .ok (.iconst 0, 1) := by decide +kernel
theorem dX5_lengthLeft_3 : decode cX5_lengthLeft 3 = .ok (.istore_n 2, 1) := by decide +kernel
theorem dX5_lengthLeft_4 : decode cX5_lengthLeft 4 = .ok (.iload_n 2, 1) := by decide +kernel
theorem dX5_lengthLeft_5 : decode cX5_lengthLeft 5 = .ok (.aload_n 0, 1) := by decide +kernel
theorem dX5_lengthLeft_6 : decode cX5_lengthLeft 6 = .ok (.getfield 21, 3) := by decide +kernel
theorem dX5_lengthLeft_9 : decode cX5_lengthLeft 9 = .ok (.getfield 66, 3) := by decide +kernel
theorem dX5_lengthLeft_12 : decode cX5_lengthLeft 12 = .ok (.if_icmp .ge 31, 3) := by decide +kernel
theorem dX5_lengthLeft_15 : decode cX5_lengthLeft 15 = .ok (.aload_n 0, 1) := by decide +kernel
theorem dX5_lengthLeft_16 : decode cX5_lengthLeft 16 = .ok (.getfield 25, 3) := by decide +kernel
theorem dX5_lengthLeft_19 : decode cX5_lengthLeft 19 = .ok (.iload_n 2, 1) := by decide +kernel
theorem dX5_lengthLeft_20 : decode cX5_lengthLeft 20 = .ok (.aaload, 1) := by decide +kernel
theorem dX5_lengthLeft_21 : decode cX5_lengthLeft 21 = .ok (.invokevirtual 68, 3) := by decide +kernel
theorem dX5_lengthLeft_24 : decode cX5_lengthLeft 24 = .ok (.ifCond .eq 13, 3) := by decide +kernel
theorem dX5_lengthLeft_27 : decode cX5_lengthLeft 27 = .ok (.iload_n 1, 1) := by decide +kernel
theorem dX5_lengthLeft_28 : decode cX5_lengthLeft 28 = .ok (.iconst 1, 1) := by decide +kernel
theorem dX5_lengthLeft_29 : decode cX5_lengthLeft 29 = .ok (.aload_n 0, 1) := by decide +kernel
theorem dX5_lengthLeft_30 : decode cX5_lengthLeft 30 = .ok (.iload_n 2, 1) := by decide +kernel
theorem dX5_lengthLeft_31 : decode cX5_lengthLeft 31 = .ok (.invokevirtual 86, 3) := by decide +kernel
theorem dX5_lengthLeft_34 : decode cX5_lengthLeft 34 = .ok (.ishl, 1) := by decide +kernel
theorem dX5_lengthLeft_35 : decode cX5_lengthLeft 35 = .ok (.ior, 1) := by decide +kernel
theorem dX5_lengthLeft_36 : decode cX5_lengthLeft 36 = .ok (.istore_n 1, 1) := by decide +kernel
theorem dX5_lengthLeft_37 : decode cX5_lengthLeft 37 = .ok (.iinc 2 1, 3) := by decide +kernel
theorem dX5_lengthLeft_40 : decode cX5_lengthLeft 40 = .ok (.goto (-36), 3) := by decide +kernel
theorem dX5_lengthLeft_43 : decode cX5_lengthLeft 43 = .ok (.aload_n 0, 1) := by decide +kernel
theorem dX5_lengthLeft_44 : decode cX5_lengthLeft 44 = .ok (.getfield 11, 3) := by decide +kernel
theorem dX5_lengthLeft_47 : decode cX5_lengthLeft 47 = .ok (.aload_n 0, 1) := by decide +kernel
theorem dX5_lengthLeft_48 : decode cX5_lengthLeft 48 = .ok (.getfield 63, 3) := by decide +kernel
theorem dX5_lengthLeft_51 : decode cX5_lengthLeft 51 = .ok (.iaload, 1) := by decide +kernel
theorem dX5_lengthLeft_52 : decode cX5_lengthLeft 52 = .ok (.ineg, 1) := by decide +kernel
theorem dX5_lengthLeft_53 : decode cX5_lengthLeft 53 = .ok (.istore_n 2, 1) := by decide +kernel
theorem dX5_lengthLeft_54 : decode cX5_lengthLeft 54 = .ok (.iconst 0, 1) := by decide +kernel
theorem dX5_lengthLeft_55 : decode cX5_lengthLeft 55 = .ok (.istore_n 3, 1) := by decide +kernel
theorem dX5_lengthLeft_56 : decode cX5_lengthLeft 56 = .ok (.iload_n 3, 1) := by decide +kernel
theorem dX5_lengthLeft_57 : decode cX5_lengthLeft 57 = .ok (.aload_n 0, 1) := by decide +kernel
theorem dX5_lengthLeft_58 : decode cX5_lengthLeft 58 = .ok (.getfield 21, 3) := by decide +kernel
theorem dX5_lengthLeft_61 : decode cX5_lengthLeft 61 = .ok (.getfield 56, 3) := by decide +kernel
theorem dX5_lengthLeft_64 : decode cX5_lengthLeft 64 = .ok (.if_icmp .ge 27, 3) := by decide +kernel
theorem dX5_lengthLeft_67 : decode cX5_lengthLeft 67 = .ok (.iload_n 2, 1) := by decide +kernel
theorem dX5_lengthLeft_68 : decode cX5_lengthLeft 68 = .ok (.iload_n 1, 1) := by decide +kernel
theorem dX5_lengthLeft_69 : decode cX5_lengthLeft 69 = .ok (.iload_n 3, 1) := by decide +kernel
theorem dX5_lengthLeft_70 : decode cX5_lengthLeft 70 = .ok (.ishr, 1) := by decide +kernel
theorem dX5_lengthLeft_71 : decode cX5_lengthLeft 71 = .ok (.iconst 1, 1) := by decide +kernel
theorem dX5_lengthLeft_72 : decode cX5_lengthLeft 72 = .ok (.iand, 1) := by decide +kernel
theorem dX5_lengthLeft_73 : decode cX5_lengthLeft 73 = .ok (.aload_n 0, 1) := by decide +kernel
theorem dX5_lengthLeft_74 : decode cX5_lengthLeft 74 = .ok (.getfield 21, 3) := by decide +kernel
theorem dX5_lengthLeft_77 : decode cX5_lengthLeft 77 = .ok (.getfield 78, 3) := by decide +kernel
theorem dX5_lengthLeft_80 : decode cX5_lengthLeft 80 = .ok (.iload_n 3, 1) := by decide +kernel
theorem dX5_lengthLeft_81 : decode cX5_lengthLeft 81 = .ok (.iaload, 1) := by decide +kernel
theorem dX5_lengthLeft_82 : decode cX5_lengthLeft 82 = .ok (.imul, 1) := by decide +kernel
theorem dX5_lengthLeft_83 : decode cX5_lengthLeft 83 = .ok (.iadd, 1) := by decide +kernel
theorem dX5_lengthLeft_84 : decode cX5_lengthLeft 84 = .ok (.istore_n 2, 1) := by decide +kernel
theorem dX5_lengthLeft_85 : decode cX5_lengthLeft 85 = .ok (.iinc 3 1, 3) := by decide +kernel
theorem dX5_lengthLeft_88 : decode cX5_lengthLeft 88 = .ok (.goto (-32), 3) := by decide +kernel
theorem dX5_lengthLeft_91 : decode cX5_lengthLeft 91 = .ok (.iload_n 2, 1) := by decide +kernel
theorem dX5_lengthLeft_92 : decode cX5_lengthLeft 92 = .ok (.ireturn, 1) := by decide +kernel
set_option maxRecDepth 20000 in
theorem bX5_lengthLeft_0 {G : Gx} {mm : Nat → Nat → Int32} {lm : Nat → Int64}  {o : Ou} {z : Wd} {a b : Nat} (hw : J G M_X5_lengthLeft 4 [(0, .ref 44), (1, .int 0), (2, .int 0)] [] (SH, mm, lm) false o z false a b) :
    J G M_X5_lengthLeft 0 [(0, .ref 44)] [] (SH, mm, lm) false o z false a b := by
  refine J_iconst (v := 0) (by decide) dX5_lengthLeft_0 ?_
  refine J_istore_n [(1, .int 0), (0, .ref 44)] rfl (i := 1) (by decide) rfl dX5_lengthLeft_1 ?_
  refine J_iconst (v := 0) (by decide) dX5_lengthLeft_2 ?_
  refine J_istore_n [(2, .int 0), (1, .int 0), (0, .ref 44)] rfl (i := 2) (by decide) rfl dX5_lengthLeft_3 ?_
  exact J_sub [2, 1, 0] rfl hw
set_option maxRecDepth 20000 in
theorem bX5_lengthLeft_4 {G : Gx} {mm : Nat → Nat → Int32} {lm : Nat → Int64} {x1 : Int32} {x2 : Int32} {o : Ou} {z : Wd} {a b : Nat} (hw : (((mm 4 9) ≤ x2) → ∃ j1 : Nat, (mm 44 5) = nI j1 ∧ j1 < 256 ∧ J G M_X5_lengthLeft 56 [(0, .ref 44), (1, .int x1), (2, .int (-(mm 45 j1))), (3, .int 0)] [] (SH, mm, lm) false o z false a b) ∧ ((¬ (mm 4 9) ≤ x2) → ∃ j2 : Nat, x2 = nI j2 ∧ j2 < 8 ∧ ∃ (v4 : Int32), Ct G M_X0_hangs [.ref (23 + j2)] (SH, mm, lm) false (.inl (some (.int v4))) (SH, mm, lm) false 0 0 ∧ ((v4 = 0) → J G M_X5_lengthLeft 4 [(0, .ref 44), (1, .int x1), (2, .int (x2 + 1))] [] (SH, mm, lm) false o z false a b) ∧ ((¬ v4 = 0) → ∃ (v7 : Int32), Ct G M_X5_pieceFor [.ref 44, .int x2] (SH, mm, lm) false (.inl (some (.int v7))) (SH, mm, lm) false 0 0 ∧ J G M_X5_lengthLeft 4 [(0, .ref 44), (1, .int (x1 ||| (1 <<< (v7 &&& 31)))), (2, .int (x2 + 1))] [] (SH, mm, lm) false o z false a b))) :
    J G M_X5_lengthLeft 4 [(0, .ref 44), (1, .int x1), (2, .int x2)] [] (SH, mm, lm) false o z false a b := by
  refine J_iload_n rfl (i := 2) rfl dX5_lengthLeft_4 ?_
  refine J_aload_n rfl (i := 0) rfl dX5_lengthLeft_5 ?_
  refine J_getr kls_5 (q := 44) (k := 0) sh_44 (by decide) rfl gw_388 dX5_lengthLeft_6 ?_
  refine J_geti kls_7 (q := 4) (k := 9) sh_4 (by decide) rfl gw_211 dX5_lengthLeft_9 ?_
  refine J_icmp_ge (tgt := 43) dX5_lengthLeft_12 (by decide) (fun hb10 => ?_) (fun hb10 => ?_)
  · replace hw := hw.1 hb10
    refine J_aload_n rfl (i := 0) rfl dX5_lengthLeft_43 ?_
    refine J_getr kls_5 (q := 44) (k := 2) sh_44 (by decide) rfl gw_390 dX5_lengthLeft_44 ?_
    refine J_aload_n rfl (i := 0) rfl dX5_lengthLeft_47 ?_
    refine J_geti kls_5 (q := 44) (k := 5) sh_44 (by decide) rfl gw_393 dX5_lengthLeft_48 ?_
    obtain ⟨j1, ej1, hj1, hw⟩ := hw
    refine J_iald sh_45 ej1 hj1 (by decide) dX5_lengthLeft_51 ?_
    refine J_ineg dX5_lengthLeft_52 ?_
    refine J_istore_n [(2, .int (-(mm 45 j1))), (0, .ref 44), (1, .int x1)] rfl (i := 2) (by decide) rfl dX5_lengthLeft_53 ?_
    refine J_iconst (v := 0) (by decide) dX5_lengthLeft_54 ?_
    refine J_istore_n [(3, .int 0), (2, .int (-(mm 45 j1))), (0, .ref 44), (1, .int x1)] rfl (i := 3) (by decide) rfl dX5_lengthLeft_55 ?_
    exact J_sub [2, 3, 1, 0] rfl hw
  · replace hw := hw.2 hb10
    refine J_aload_n rfl (i := 0) rfl dX5_lengthLeft_15 ?_
    refine J_getr kls_5 (q := 44) (k := 1) sh_44 (by decide) rfl gw_389 dX5_lengthLeft_16 ?_
    refine J_iload_n rfl (i := 2) rfl dX5_lengthLeft_19 ?_
    obtain ⟨j2, ej2, hj2, hw⟩ := hw
    refine J_aald (r := 23 + j2) sh_22 ej2 hj2 (by decide) (if_pos hj2) dX5_lengthLeft_20 ?_
    obtain ⟨v4, hc3, hw⟩ := hw
    refine J_callV (as := []) (k := (23 + j2)) (st := []) cal_X0_hangs cai_X0_hangs gw_1366 ⟨by decide, by decide⟩ cnt_X0_hangs (sh_b23 hj2) rfl rfl (Nat.le_of_ble_eq_true rfl) dX5_lengthLeft_21 (Nat.zero_add _).symm (Nat.zero_add _).symm hc3 ?_
    refine J_if_eq (tgt := 37) dX5_lengthLeft_24 (by decide) (fun hb9 => ?_) (fun hb9 => ?_)
    · replace hw := hw.1 hb9
      refine J_iinc [(2, .int (x2 + 1)), (0, .ref 44), (1, .int x1)] (i := 2) (v := (x2 + 1)) rfl rfl (by decide) rfl dX5_lengthLeft_37 ?_
      refine J_goto (tgt := 4) dX5_lengthLeft_40 (by decide) ?_
      exact J_sub [1, 2, 0] rfl hw
    · replace hw := hw.2 hb9
      refine J_iload_n rfl (i := 1) rfl dX5_lengthLeft_27 ?_
      refine J_iconst (v := 1) (by decide) dX5_lengthLeft_28 ?_
      refine J_aload_n rfl (i := 0) rfl dX5_lengthLeft_29 ?_
      refine J_iload_n rfl (i := 2) rfl dX5_lengthLeft_30 ?_
      obtain ⟨v7, hc6, hw⟩ := hw
      refine J_callV (as := [.int x2]) (k := 44) (st := [.int 1, .int x1]) cal_X5_pieceFor cai_X5_pieceFor gw_1404 ⟨by decide, by decide⟩ cnt_X5_pieceFor sh_44 rfl rfl (Nat.le_of_ble_eq_true rfl) dX5_lengthLeft_31 (Nat.zero_add _).symm (Nat.zero_add _).symm hc6 ?_
      refine J_ishl dX5_lengthLeft_34 ?_
      refine J_ior dX5_lengthLeft_35 ?_
      refine J_istore_n [(1, .int (x1 ||| (1 <<< (v7 &&& 31)))), (0, .ref 44), (2, .int x2)] rfl (i := 1) (by decide) rfl dX5_lengthLeft_36 ?_
      refine J_iinc [(2, .int (x2 + 1)), (1, .int (x1 ||| (1 <<< (v7 &&& 31)))), (0, .ref 44)] (i := 2) (v := (x2 + 1)) rfl rfl (by decide) rfl dX5_lengthLeft_37 ?_
      refine J_goto (tgt := 4) dX5_lengthLeft_40 (by decide) ?_
      exact J_sub [2, 1, 0] rfl hw
set_option maxRecDepth 20000 in
theorem bX5_lengthLeft_56 {G : Gx} {mm : Nat → Nat → Int32} {lm : Nat → Int64} {x1 : Int32} {x2 : Int32} {x3 : Int32} {o : Ou} {z : Wd} {a b : Nat} (hw : (((mm 4 11) ≤ x3) → o = .inl (some (.int x2)) ∧ z = (SH, mm, lm)) ∧ ((¬ (mm 4 11) ≤ x3) → ∃ j1 : Nat, x3 = nI j1 ∧ j1 < 8 ∧ J G M_X5_lengthLeft 56 [(0, .ref 44), (1, .int x1), (2, .int (x2 + (((x1 >>> (x3 &&& 31)) &&& 1) * (mm 12 j1)))), (3, .int (x3 + 1))] [] (SH, mm, lm) false o z false a b)) :
    J G M_X5_lengthLeft 56 [(0, .ref 44), (1, .int x1), (2, .int x2), (3, .int x3)] [] (SH, mm, lm) false o z false a b := by
  refine J_iload_n rfl (i := 3) rfl dX5_lengthLeft_56 ?_
  refine J_aload_n rfl (i := 0) rfl dX5_lengthLeft_57 ?_
  refine J_getr kls_5 (q := 44) (k := 0) sh_44 (by decide) rfl gw_388 dX5_lengthLeft_58 ?_
  refine J_geti kls_7 (q := 4) (k := 11) sh_4 (by decide) rfl gw_216 dX5_lengthLeft_61 ?_
  refine J_icmp_ge (tgt := 91) dX5_lengthLeft_64 (by decide) (fun hb2 => ?_) (fun hb2 => ?_)
  · replace hw := hw.1 hb2
    refine J_iload_n rfl (i := 2) rfl dX5_lengthLeft_91 ?_
    exact J_fini (ty := .int) rfl rfl dX5_lengthLeft_92 hw
  · replace hw := hw.2 hb2
    refine J_iload_n rfl (i := 2) rfl dX5_lengthLeft_67 ?_
    refine J_iload_n rfl (i := 1) rfl dX5_lengthLeft_68 ?_
    refine J_iload_n rfl (i := 3) rfl dX5_lengthLeft_69 ?_
    refine J_ishr dX5_lengthLeft_70 ?_
    refine J_iconst (v := 1) (by decide) dX5_lengthLeft_71 ?_
    refine J_iand dX5_lengthLeft_72 ?_
    refine J_aload_n rfl (i := 0) rfl dX5_lengthLeft_73 ?_
    refine J_getr kls_5 (q := 44) (k := 0) sh_44 (by decide) rfl gw_388 dX5_lengthLeft_74 ?_
    refine J_getr kls_7 (q := 4) (k := 7) sh_4 (by decide) rfl gw_199 dX5_lengthLeft_77 ?_
    refine J_iload_n rfl (i := 3) rfl dX5_lengthLeft_80 ?_
    obtain ⟨j1, ej1, hj1, hw⟩ := hw
    refine J_iald sh_12 ej1 hj1 (by decide) dX5_lengthLeft_81 ?_
    refine J_imul dX5_lengthLeft_82 ?_
    refine J_iadd dX5_lengthLeft_83 ?_
    refine J_istore_n [(2, .int (x2 + (((x1 >>> (x3 &&& 31)) &&& 1) * (mm 12 j1)))), (0, .ref 44), (1, .int x1), (3, .int x3)] rfl (i := 2) (by decide) rfl dX5_lengthLeft_84 ?_
    refine J_iinc [(3, .int (x3 + 1)), (2, .int (x2 + (((x1 >>> (x3 &&& 31)) &&& 1) * (mm 12 j1)))), (0, .ref 44), (1, .int x1)] (i := 3) (v := (x3 + 1)) rfl rfl (by decide) rfl dX5_lengthLeft_85 ?_
    refine J_goto (tgt := 56) dX5_lengthLeft_88 (by decide) ?_
    exact J_sub [2, 3, 1, 0] rfl hw
theorem dX5_leastMissingLength_0 : decode cX5_leastMissingLength 0 = .ok (.aload_n 0, 1) := by decide +kernel
theorem dX5_leastMissingLength_1 : decode cX5_leastMissingLength 1 = .ok (.getfield 11, 3) := by decide +kernel
theorem dX5_leastMissingLength_4 : decode cX5_leastMissingLength 4 = .ok (.aload_n 0, 1) := by decide +kernel
theorem dX5_leastMissingLength_5 : decode cX5_leastMissingLength 5 = .ok (.getfield 63, 3) := by decide +kernel
theorem dX5_leastMissingLength_8 : decode cX5_leastMissingLength 8 = .ok (.iaload, 1) := by decide +kernel
theorem dX5_leastMissingLength_9 : decode cX5_leastMissingLength 9 = .ok (.istore_n 1, 1) := by decide +kernel
theorem dX5_leastMissingLength_10 : decode cX5_leastMissingLength 10 = .ok (.aload_n 0, 1) := by decide +kernel
theorem dX5_leastMissingLength_11 : decode cX5_leastMissingLength 11 = .ok (.getfield 63, 3) := by decide +kernel
theorem dX5_leastMissingLength_14 : decode cX5_leastMissingLength 14 = .ok (.istore_n 2, 1) := by decide +kernel
theorem dX5_leastMissingLength_15 : decode cX5_leastMissingLength 15 = .ok (.iload_n 2, 1) := by decide +kernel
theorem dX5_leastMissingLength_16 : decode cX5_leastMissingLength 16 = .ok (.ifCond .le 44, 3) := by decide +kernel
theorem dX5_leastMissingLength_19 : decode cX5_leastMissingLength 19 = .ok (.aload_n 0, 1) := by decide +kernel
theorem dX5_leastMissingLength_20 : decode cX5_leastMissingLength 20 = .ok (.getfield 18, 3) := by decide +kernel
theorem dX5_leastMissingLength_23 : decode cX5_leastMissingLength 23 = .ok (.aload_n 0, 1) := by decide +kernel
theorem dX5_leastMissingLength_24 : decode cX5_leastMissingLength 24 = .ok (.getfield 63, 3) := by decide +kernel
theorem dX5_leastMissingLength_27 : decode cX5_leastMissingLength 27 = .ok (.iload_n 2, 1) := by decide +kernel
theorem dX5_leastMissingLength_28 : decode cX5_leastMissingLength 28 = .ok (.iconst (-1), 1) := by decide +kernel
theorem dX5_leastMissingLength_29 : decode cX5_leastMissingLength 29 = .ok (.ixor, 1) := by decide +kernel
theorem dX5_leastMissingLength_30 : decode cX5_leastMissingLength 30 = .ok (.iand, 1) := by decide +kernel
theorem dX5_leastMissingLength_31 : decode cX5_leastMissingLength 31 = .ok (.iaload, 1) := by decide +kernel
theorem dX5_leastMissingLength_32 : decode cX5_leastMissingLength 32 = .ok (.ldc 55, 2) := by decide +kernel
theorem dX5_leastMissingLength_34 : decode cX5_leastMissingLength 34 = .ok (.if_icmp .eq 14, 3) := by decide +kernel
theorem dX5_leastMissingLength_37 : decode cX5_leastMissingLength 37 = .ok (.iload_n 1, 1) := by decide +kernel
theorem dX5_leastMissingLength_38 : decode cX5_leastMissingLength 38 = .ok (.aload_n 0, 1) := by decide +kernel
theorem dX5_leastMissingLength_39 : decode cX5_leastMissingLength 39 = .ok (.getfield 11, 3) := by decide +kernel
theorem dX5_leastMissingLength_42 : decode cX5_leastMissingLength 42 = .ok (.iload_n 2, 1) := by decide +kernel
theorem dX5_leastMissingLength_43 : decode cX5_leastMissingLength 43 = .ok (.iaload, 1) := by decide +kernel
theorem dX5_leastMissingLength_44 : decode cX5_leastMissingLength 44 = .ok (.invokestatic 82, 3) := by decide +kernel
theorem dX5_leastMissingLength_47 : decode cX5_leastMissingLength 47 = .ok (.istore_n 1, 1) := by decide +kernel
theorem dX5_leastMissingLength_48 : decode cX5_leastMissingLength 48 = .ok (.iload_n 2, 1) := by decide +kernel
theorem dX5_leastMissingLength_49 : decode cX5_leastMissingLength 49 = .ok (.iconst 1, 1) := by decide +kernel
theorem dX5_leastMissingLength_50 : decode cX5_leastMissingLength 50 = .ok (.isub, 1) := by decide +kernel
theorem dX5_leastMissingLength_51 : decode cX5_leastMissingLength 51 = .ok (.aload_n 0, 1) := by decide +kernel
theorem dX5_leastMissingLength_52 : decode cX5_leastMissingLength 52 = .ok (.getfield 63, 3) := by decide +kernel
theorem dX5_leastMissingLength_55 : decode cX5_leastMissingLength 55 = .ok (.iand, 1) := by decide +kernel
theorem dX5_leastMissingLength_56 : decode cX5_leastMissingLength 56 = .ok (.istore_n 2, 1) := by decide +kernel
theorem dX5_leastMissingLength_57 : decode cX5_leastMissingLength 57 = .ok (.goto (-42), 3) := by decide +kernel
theorem dX5_leastMissingLength_60 : decode cX5_leastMissingLength 60 = .ok (.iload_n 1, 1) := by decide +kernel
theorem dX5_leastMissingLength_61 : decode cX5_leastMissingLength 61 = .ok (.ireturn, 1) := by decide +kernel
set_option maxRecDepth 20000 in
theorem bX5_leastMissingLength_0 {G : Gx} {mm : Nat → Nat → Int32} {lm : Nat → Int64}  {o : Ou} {z : Wd} {a b : Nat} (hw : ∃ j1 : Nat, (mm 44 5) = nI j1 ∧ j1 < 256 ∧ J G M_X5_leastMissingLength 15 [(0, .ref 44), (1, .int (mm 45 j1)), (2, .int (mm 44 5))] [] (SH, mm, lm) false o z false a b) :
    J G M_X5_leastMissingLength 0 [(0, .ref 44)] [] (SH, mm, lm) false o z false a b := by
  refine J_aload_n rfl (i := 0) rfl dX5_leastMissingLength_0 ?_
  refine J_getr kls_5 (q := 44) (k := 2) sh_44 (by decide) rfl gw_390 dX5_leastMissingLength_1 ?_
  refine J_aload_n rfl (i := 0) rfl dX5_leastMissingLength_4 ?_
  refine J_geti kls_5 (q := 44) (k := 5) sh_44 (by decide) rfl gw_393 dX5_leastMissingLength_5 ?_
  obtain ⟨j1, ej1, hj1, hw⟩ := hw
  refine J_iald sh_45 ej1 hj1 (by decide) dX5_leastMissingLength_8 ?_
  refine J_istore_n [(1, .int (mm 45 j1)), (0, .ref 44)] rfl (i := 1) (by decide) rfl dX5_leastMissingLength_9 ?_
  refine J_aload_n rfl (i := 0) rfl dX5_leastMissingLength_10 ?_
  refine J_geti kls_5 (q := 44) (k := 5) sh_44 (by decide) rfl gw_393 dX5_leastMissingLength_11 ?_
  refine J_istore_n [(2, .int (mm 44 5)), (1, .int (mm 45 j1)), (0, .ref 44)] rfl (i := 2) (by decide) rfl dX5_leastMissingLength_14 ?_
  exact J_sub [2, 1, 0] rfl hw
set_option maxRecDepth 20000 in
theorem bX5_leastMissingLength_15 {G : Gx} {mm : Nat → Nat → Int32} {lm : Nat → Int64} {x1 : Int32} {x2 : Int32} {o : Ou} {z : Wd} {a b : Nat} (hw : ((x2 ≤ 0) → o = .inl (some (.int x1)) ∧ z = (SH, mm, lm)) ∧ ((¬ x2 ≤ 0) → ∃ j1 : Nat, ((mm 44 5) &&& (x2 ^^^ (-1))) = nI j1 ∧ j1 < 256 ∧ (((mm 47 j1) = 2147483647) → J G M_X5_leastMissingLength 15 [(0, .ref 44), (1, .int x1), (2, .int ((x2 - 1) &&& (mm 44 5)))] [] (SH, mm, lm) false o z false a b) ∧ ((¬ (mm 47 j1) = 2147483647) → ∃ j2 : Nat, x2 = nI j2 ∧ j2 < 256 ∧ ∃ (v4 : Int32), Ct G M_J9_min_7cf53 [.int x1, .int (mm 45 j2)] (SH, mm, lm) false (.inl (some (.int v4))) (SH, mm, lm) false 0 0 ∧ J G M_X5_leastMissingLength 15 [(0, .ref 44), (1, .int v4), (2, .int ((x2 - 1) &&& (mm 44 5)))] [] (SH, mm, lm) false o z false a b))) :
    J G M_X5_leastMissingLength 15 [(0, .ref 44), (1, .int x1), (2, .int x2)] [] (SH, mm, lm) false o z false a b := by
  refine J_iload_n rfl (i := 2) rfl dX5_leastMissingLength_15 ?_
  refine J_if_le (tgt := 60) dX5_leastMissingLength_16 (by decide) (fun hb7 => ?_) (fun hb7 => ?_)
  · replace hw := hw.1 hb7
    refine J_iload_n rfl (i := 1) rfl dX5_leastMissingLength_60 ?_
    exact J_fini (ty := .int) rfl rfl dX5_leastMissingLength_61 hw
  · replace hw := hw.2 hb7
    refine J_aload_n rfl (i := 0) rfl dX5_leastMissingLength_19 ?_
    refine J_getr kls_5 (q := 44) (k := 4) sh_44 (by decide) rfl gw_392 dX5_leastMissingLength_20 ?_
    refine J_aload_n rfl (i := 0) rfl dX5_leastMissingLength_23 ?_
    refine J_geti kls_5 (q := 44) (k := 5) sh_44 (by decide) rfl gw_393 dX5_leastMissingLength_24 ?_
    refine J_iload_n rfl (i := 2) rfl dX5_leastMissingLength_27 ?_
    refine J_iconst (v := (-1)) (by decide) dX5_leastMissingLength_28 ?_
    refine J_ixor dX5_leastMissingLength_29 ?_
    refine J_iand dX5_leastMissingLength_30 ?_
    obtain ⟨j1, ej1, hj1, hw⟩ := hw
    refine J_iald sh_47 ej1 hj1 (by decide) dX5_leastMissingLength_31 ?_
    refine J_ldc gw_1371 dX5_leastMissingLength_32 ?_
    refine J_icmp_eq (tgt := 48) dX5_leastMissingLength_34 (by decide) (fun hb6 => ?_) (fun hb6 => ?_)
    · replace hw := hw.1 hb6
      refine J_iload_n rfl (i := 2) rfl dX5_leastMissingLength_48 ?_
      refine J_iconst (v := 1) (by decide) dX5_leastMissingLength_49 ?_
      refine J_isub dX5_leastMissingLength_50 ?_
      refine J_aload_n rfl (i := 0) rfl dX5_leastMissingLength_51 ?_
      refine J_geti kls_5 (q := 44) (k := 5) sh_44 (by decide) rfl gw_393 dX5_leastMissingLength_52 ?_
      refine J_iand dX5_leastMissingLength_55 ?_
      refine J_istore_n [(2, .int ((x2 - 1) &&& (mm 44 5))), (0, .ref 44), (1, .int x1)] rfl (i := 2) (by decide) rfl dX5_leastMissingLength_56 ?_
      refine J_goto (tgt := 15) dX5_leastMissingLength_57 (by decide) ?_
      exact J_sub [1, 2, 0] rfl hw
    · replace hw := hw.2 hb6
      refine J_iload_n rfl (i := 1) rfl dX5_leastMissingLength_37 ?_
      refine J_aload_n rfl (i := 0) rfl dX5_leastMissingLength_38 ?_
      refine J_getr kls_5 (q := 44) (k := 2) sh_44 (by decide) rfl gw_390 dX5_leastMissingLength_39 ?_
      refine J_iload_n rfl (i := 2) rfl dX5_leastMissingLength_42 ?_
      obtain ⟨j2, ej2, hj2, hw⟩ := hw
      refine J_iald sh_45 ej2 hj2 (by decide) dX5_leastMissingLength_43 ?_
      obtain ⟨v4, hc3, hw⟩ := hw
      refine J_callS (as := [.int x1, .int (mm 45 j2)]) (st := []) cal_J9_min_7cf53 cas_J9_min_7cf53 gw_1377 ⟨by decide, by decide⟩ cnt_J9_min_7cf53 rfl (Nat.le_of_ble_eq_true rfl) dX5_leastMissingLength_44 (Nat.zero_add _).symm (Nat.zero_add _).symm hc3 ?_
      refine J_istore_n [(1, .int v4), (0, .ref 44), (2, .int x2)] rfl (i := 1) (by decide) rfl dX5_leastMissingLength_47 ?_
      refine J_iload_n rfl (i := 2) rfl dX5_leastMissingLength_48 ?_
      refine J_iconst (v := 1) (by decide) dX5_leastMissingLength_49 ?_
      refine J_isub dX5_leastMissingLength_50 ?_
      refine J_aload_n rfl (i := 0) rfl dX5_leastMissingLength_51 ?_
      refine J_geti kls_5 (q := 44) (k := 5) sh_44 (by decide) rfl gw_393 dX5_leastMissingLength_52 ?_
      refine J_iand dX5_leastMissingLength_55 ?_
      refine J_istore_n [(2, .int ((x2 - 1) &&& (mm 44 5))), (1, .int v4), (0, .ref 44)] rfl (i := 2) (by decide) rfl dX5_leastMissingLength_56 ?_
      refine J_goto (tgt := 15) dX5_leastMissingLength_57 (by decide) ?_
      exact J_sub [2, 1, 0] rfl hw
