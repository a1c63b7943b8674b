/-! ===== decode rows and walks between cut points, by program (wip/gen/mk10.py) ===== -/
theorem dJ6_bitCount_0f7a4_0 : decode cJ6_bitCount_0f7a4 0 = .ok (.iload_n 0, 1) := by decide +kernel
theorem dJ6_bitCount_0f7a4_1 : decode cJ6_bitCount_0f7a4 1 = .ok (.iload_n 0, 1) := by decide +kernel
theorem dJ6_bitCount_0f7a4_2 : decode cJ6_bitCount_0f7a4 2 = .ok (.iconst 1, 1) := by decide +kernel
theorem dJ6_bitCount_0f7a4_3 : decode cJ6_bitCount_0f7a4 3 = .ok (.iushr, 1) := by decide +kernel
theorem dJ6_bitCount_0f7a4_4 : decode cJ6_bitCount_0f7a4 4 = .ok (.ldc_w 265, 3) := by decide +kernel
theorem dJ6_bitCount_0f7a4_7 : decode cJ6_bitCount_0f7a4 7 = .ok (.iand, 1) := by decide +kernel
theorem dJ6_bitCount_0f7a4_8 : decode cJ6_bitCount_0f7a4 8 = .ok (.isub, 1) := by decide +kernel
theorem dJ6_bitCount_0f7a4_9 : decode cJ6_bitCount_0f7a4 9 = .ok (.istore_n 0, 1) := by decide +kernel
theorem dJ6_bitCount_0f7a4_10 : decode cJ6_bitCount_0f7a4 10 = .ok (.iload_n 0, 1) := by decide +kernel
theorem dJ6_bitCount_0f7a4_11 : decode cJ6_bitCount_0f7a4 11 = .ok (.ldc_w 266, 3) := by decide +kernel
theorem dJ6_bitCount_0f7a4_14 : decode cJ6_bitCount_0f7a4 14 = .ok (.iand, 1) := by decide +kernel
theorem dJ6_bitCount_0f7a4_15 : decode cJ6_bitCount_0f7a4 15 = .ok (.iload_n 0, 1) := by decide +kernel
theorem dJ6_bitCount_0f7a4_16 : decode cJ6_bitCount_0f7a4 16 = .ok (.iconst 2, 1) := by decide +kernel
theorem dJ6_bitCount_0f7a4_17 : decode cJ6_bitCount_0f7a4 17 = .ok (.iushr, 1) := by decide +kernel
theorem dJ6_bitCount_0f7a4_18 : decode cJ6_bitCount_0f7a4 18 = .ok (.ldc_w 266, 3) := by decide +kernel
theorem dJ6_bitCount_0f7a4_21 : decode cJ6_bitCount_0f7a4 21 = .ok (.iand, 1) := by decide +kernel
theorem dJ6_bitCount_0f7a4_22 : decode cJ6_bitCount_0f7a4 22 = .ok (.iadd, 1) := by decide +kernel
theorem dJ6_bitCount_0f7a4_23 : decode cJ6_bitCount_0f7a4 23 = .ok (.istore_n 0, 1) := by decide +kernel
theorem dJ6_bitCount_0f7a4_24 : decode cJ6_bitCount_0f7a4 24 = .ok (.iload_n 0, 1) := by decide +kernel
theorem dJ6_bitCount_0f7a4_25 : decode cJ6_bitCount_0f7a4 25 = .ok (.iload_n 0, 1) := by decide +kernel
theorem dJ6_bitCount_0f7a4_26 : decode cJ6_bitCount_0f7a4 26 = .ok (.iconst 4, 1) := by decide +kernel
theorem dJ6_bitCount_0f7a4_27 : decode cJ6_bitCount_0f7a4 27 = .ok (.iushr, 1) := by decide +kernel
theorem dJ6_bitCount_0f7a4_28 : decode cJ6_bitCount_0f7a4 28 = .ok (.iadd, 1) := by decide +kernel
theorem dJ6_bitCount_0f7a4_29 : decode cJ6_bitCount_0f7a4 29 = .ok (.ldc_w 267, 3) := by decide +kernel
theorem dJ6_bitCount_0f7a4_32 : decode cJ6_bitCount_0f7a4 32 = .ok (.iand, 1) := by decide +kernel
theorem dJ6_bitCount_0f7a4_33 : decode cJ6_bitCount_0f7a4 33 = .ok (.istore_n 0, 1) := by decide +kernel
theorem dJ6_bitCount_0f7a4_34 : decode cJ6_bitCount_0f7a4 34 = .ok (.iload_n 0, 1) := by decide +kernel
theorem dJ6_bitCount_0f7a4_35 : decode cJ6_bitCount_0f7a4 35 = .ok (.iload_n 0, 1) := by decide +kernel
theorem dJ6_bitCount_0f7a4_36 : decode cJ6_bitCount_0f7a4 36 = .ok (.bipush 8, 2) := by decide +kernel
theorem dJ6_bitCount_0f7a4_38 : decode cJ6_bitCount_0f7a4 38 = .ok (.iushr, 1) := by decide +kernel
theorem dJ6_bitCount_0f7a4_39 : decode cJ6_bitCount_0f7a4 39 = .ok (.iadd, 1) := by decide +kernel
theorem dJ6_bitCount_0f7a4_40 : decode cJ6_bitCount_0f7a4 40 = .ok (.istore_n 0, 1) := by decide +kernel
theorem dJ6_bitCount_0f7a4_41 : decode cJ6_bitCount_0f7a4 41 = .ok (.iload_n 0, 1) := by decide +kernel
theorem dJ6_bitCount_0f7a4_42 : decode cJ6_bitCount_0f7a4 42 = .ok (.iload_n 0, 1) := by decide +kernel
theorem dJ6_bitCount_0f7a4_43 : decode cJ6_bitCount_0f7a4 43 = .ok (.bipush 16, 2) := by decide +kernel
theorem dJ6_bitCount_0f7a4_45 : decode cJ6_bitCount_0f7a4 45 = .ok (.iushr, 1) := by decide +kernel
theorem dJ6_bitCount_0f7a4_46 : decode cJ6_bitCount_0f7a4 46 = .ok (.iadd, 1) := by decide +kernel
theorem dJ6_bitCount_0f7a4_47 : decode cJ6_bitCount_0f7a4 47 = .ok (.istore_n 0, 1) := by decide +kernel
theorem dJ6_bitCount_0f7a4_48 : decode cJ6_bitCount_0f7a4 48 = .ok (.iload_n 0, 1) := by decide +kernel
theorem dJ6_bitCount_0f7a4_49 : decode cJ6_bitCount_0f7a4 49 = .ok (.bipush 63, 2) := by decide +kernel
theorem dJ6_bitCount_0f7a4_51 : decode cJ6_bitCount_0f7a4 51 = .ok (.iand, 1) := by decide +kernel
theorem dJ6_bitCount_0f7a4_52 : decode cJ6_bitCount_0f7a4 52 = .ok (.ireturn, 1) := by decide +kernel
set_option maxRecDepth 20000 in
theorem bJ6_bitCount_0f7a4_0 {G : Gx} {mm : Nat → Nat → Int32} {lm : Nat → Int64} {x0 : Int32} {o : Ou} {z : Wd} {a b : Nat} (hw : o = .inl (some (.int ((((((((x0 - ((x0.toUInt32 >>> ((1 : Int32).toUInt32 &&& Int32.toUInt32 31)).toInt32 &&& 1431655765)) &&& 858993459) + (((x0 - ((x0.toUInt32 >>> ((1 : Int32).toUInt32 &&& Int32.toUInt32 31)).toInt32 &&& 1431655765)).toUInt32 >>> ((2 : Int32).toUInt32 &&& Int32.toUInt32 31)).toInt32 &&& 858993459)) + ((((x0 - ((x0.toUInt32 >>> ((1 : Int32).toUInt32 &&& Int32.toUInt32 31)).toInt32 &&& 1431655765)) &&& 858993459) + (((x0 - ((x0.toUInt32 >>> ((1 : Int32).toUInt32 &&& Int32.toUInt32 31)).toInt32 &&& 1431655765)).toUInt32 >>> ((2 : Int32).toUInt32 &&& Int32.toUInt32 31)).toInt32 &&& 858993459)).toUInt32 >>> ((4 : Int32).toUInt32 &&& Int32.toUInt32 31)).toInt32) &&& 252645135) + ((((((x0 - ((x0.toUInt32 >>> ((1 : Int32).toUInt32 &&& Int32.toUInt32 31)).toInt32 &&& 1431655765)) &&& 858993459) + (((x0 - ((x0.toUInt32 >>> ((1 : Int32).toUInt32 &&& Int32.toUInt32 31)).toInt32 &&& 1431655765)).toUInt32 >>> ((2 : Int32).toUInt32 &&& Int32.toUInt32 31)).toInt32 &&& 858993459)) + ((((x0 - ((x0.toUInt32 >>> ((1 : Int32).toUInt32 &&& Int32.toUInt32 31)).toInt32 &&& 1431655765)) &&& 858993459) + (((x0 - ((x0.toUInt32 >>> ((1 : Int32).toUInt32 &&& Int32.toUInt32 31)).toInt32 &&& 1431655765)).toUInt32 >>> ((2 : Int32).toUInt32 &&& Int32.toUInt32 31)).toInt32 &&& 858993459)).toUInt32 >>> ((4 : Int32).toUInt32 &&& Int32.toUInt32 31)).toInt32) &&& 252645135).toUInt32 >>> ((8 : Int32).toUInt32 &&& Int32.toUInt32 31)).toInt32) + (((((((x0 - ((x0.toUInt32 >>> ((1 : Int32).toUInt32 &&& Int32.toUInt32 31)).toInt32 &&& 1431655765)) &&& 858993459) + (((x0 - ((x0.toUInt32 >>> ((1 : Int32).toUInt32 &&& Int32.toUInt32 31)).toInt32 &&& 1431655765)).toUInt32 >>> ((2 : Int32).toUInt32 &&& Int32.toUInt32 31)).toInt32 &&& 858993459)) + ((((x0 - ((x0.toUInt32 >>> ((1 : Int32).toUInt32 &&& Int32.toUInt32 31)).toInt32 &&& 1431655765)) &&& 858993459) + (((x0 - ((x0.toUInt32 >>> ((1 : Int32).toUInt32 &&& Int32.toUInt32 31)).toInt32 &&& 1431655765)).toUInt32 >>> ((2 : Int32).toUInt32 &&& Int32.toUInt32 31)).toInt32 &&& 858993459)).toUInt32 >>> ((4 : Int32).toUInt32 &&& Int32.toUInt32 31)).toInt32) &&& 252645135) + ((((((x0 - ((x0.toUInt32 >>> ((1 : Int32).toUInt32 &&& Int32.toUInt32 31)).toInt32 &&& 1431655765)) &&& 858993459) + (((x0 - ((x0.toUInt32 >>> ((1 : Int32).toUInt32 &&& Int32.toUInt32 31)).toInt32 &&& 1431655765)).toUInt32 >>> ((2 : Int32).toUInt32 &&& Int32.toUInt32 31)).toInt32 &&& 858993459)) + ((((x0 - ((x0.toUInt32 >>> ((1 : Int32).toUInt32 &&& Int32.toUInt32 31)).toInt32 &&& 1431655765)) &&& 858993459) + (((x0 - ((x0.toUInt32 >>> ((1 : Int32).toUInt32 &&& Int32.toUInt32 31)).toInt32 &&& 1431655765)).toUInt32 >>> ((2 : Int32).toUInt32 &&& Int32.toUInt32 31)).toInt32 &&& 858993459)).toUInt32 >>> ((4 : Int32).toUInt32 &&& Int32.toUInt32 31)).toInt32) &&& 252645135).toUInt32 >>> ((8 : Int32).toUInt32 &&& Int32.toUInt32 31)).toInt32).toUInt32 >>> ((16 : Int32).toUInt32 &&& Int32.toUInt32 31)).toInt32) &&& 63))) ∧ z = (SH, mm, lm)) :
    J G M_J6_bitCount_0f7a4 0 [(0, .int x0)] [] (SH, mm, lm) false o z false a b := by
  refine J_iload_n rfl (i := 0) rfl dJ6_bitCount_0f7a4_0 ?_
  refine J_iload_n rfl (i := 0) rfl dJ6_bitCount_0f7a4_1 ?_
  refine J_iconst (v := 1) (by decide) dJ6_bitCount_0f7a4_2 ?_
  refine J_iushr dJ6_bitCount_0f7a4_3 ?_
  refine J_ldcw gw_923 dJ6_bitCount_0f7a4_4 ?_
  refine J_iand dJ6_bitCount_0f7a4_7 ?_
  refine J_isub dJ6_bitCount_0f7a4_8 ?_
  refine J_istore_n [(0, .int (x0 - ((x0.toUInt32 >>> ((1 : Int32).toUInt32 &&& Int32.toUInt32 31)).toInt32 &&& 1431655765)))] rfl (i := 0) (by decide) rfl dJ6_bitCount_0f7a4_9 ?_
  refine J_iload_n rfl (i := 0) rfl dJ6_bitCount_0f7a4_10 ?_
  refine J_ldcw gw_924 dJ6_bitCount_0f7a4_11 ?_
  refine J_iand dJ6_bitCount_0f7a4_14 ?_
  refine J_iload_n rfl (i := 0) rfl dJ6_bitCount_0f7a4_15 ?_
  refine J_iconst (v := 2) (by decide) dJ6_bitCount_0f7a4_16 ?_
  refine J_iushr dJ6_bitCount_0f7a4_17 ?_
  refine J_ldcw gw_924 dJ6_bitCount_0f7a4_18 ?_
  refine J_iand dJ6_bitCount_0f7a4_21 ?_
  refine J_iadd dJ6_bitCount_0f7a4_22 ?_
  refine J_istore_n [(0, .int (((x0 - ((x0.toUInt32 >>> ((1 : Int32).toUInt32 &&& Int32.toUInt32 31)).toInt32 &&& 1431655765)) &&& 858993459) + (((x0 - ((x0.toUInt32 >>> ((1 : Int32).toUInt32 &&& Int32.toUInt32 31)).toInt32 &&& 1431655765)).toUInt32 >>> ((2 : Int32).toUInt32 &&& Int32.toUInt32 31)).toInt32 &&& 858993459)))] rfl (i := 0) (by decide) rfl dJ6_bitCount_0f7a4_23 ?_
  refine J_iload_n rfl (i := 0) rfl dJ6_bitCount_0f7a4_24 ?_
  refine J_iload_n rfl (i := 0) rfl dJ6_bitCount_0f7a4_25 ?_
  refine J_iconst (v := 4) (by decide) dJ6_bitCount_0f7a4_26 ?_
  refine J_iushr dJ6_bitCount_0f7a4_27 ?_
  refine J_iadd dJ6_bitCount_0f7a4_28 ?_
  refine J_ldcw gw_925 dJ6_bitCount_0f7a4_29 ?_
  refine J_iand dJ6_bitCount_0f7a4_32 ?_
  refine J_istore_n [(0, .int (((((x0 - ((x0.toUInt32 >>> ((1 : Int32).toUInt32 &&& Int32.toUInt32 31)).toInt32 &&& 1431655765)) &&& 858993459) + (((x0 - ((x0.toUInt32 >>> ((1 : Int32).toUInt32 &&& Int32.toUInt32 31)).toInt32 &&& 1431655765)).toUInt32 >>> ((2 : Int32).toUInt32 &&& Int32.toUInt32 31)).toInt32 &&& 858993459)) + ((((x0 - ((x0.toUInt32 >>> ((1 : Int32).toUInt32 &&& Int32.toUInt32 31)).toInt32 &&& 1431655765)) &&& 858993459) + (((x0 - ((x0.toUInt32 >>> ((1 : Int32).toUInt32 &&& Int32.toUInt32 31)).toInt32 &&& 1431655765)).toUInt32 >>> ((2 : Int32).toUInt32 &&& Int32.toUInt32 31)).toInt32 &&& 858993459)).toUInt32 >>> ((4 : Int32).toUInt32 &&& Int32.toUInt32 31)).toInt32) &&& 252645135))] rfl (i := 0) (by decide) rfl dJ6_bitCount_0f7a4_33 ?_
  refine J_iload_n rfl (i := 0) rfl dJ6_bitCount_0f7a4_34 ?_
  refine J_iload_n rfl (i := 0) rfl dJ6_bitCount_0f7a4_35 ?_
  refine J_bipush (v := 8) (by decide) dJ6_bitCount_0f7a4_36 ?_
  refine J_iushr dJ6_bitCount_0f7a4_38 ?_
  refine J_iadd dJ6_bitCount_0f7a4_39 ?_
  refine J_istore_n [(0, .int ((((((x0 - ((x0.toUInt32 >>> ((1 : Int32).toUInt32 &&& Int32.toUInt32 31)).toInt32 &&& 1431655765)) &&& 858993459) + (((x0 - ((x0.toUInt32 >>> ((1 : Int32).toUInt32 &&& Int32.toUInt32 31)).toInt32 &&& 1431655765)).toUInt32 >>> ((2 : Int32).toUInt32 &&& Int32.toUInt32 31)).toInt32 &&& 858993459)) + ((((x0 - ((x0.toUInt32 >>> ((1 : Int32).toUInt32 &&& Int32.toUInt32 31)).toInt32 &&& 1431655765)) &&& 858993459) + (((x0 - ((x0.toUInt32 >>> ((1 : Int32).toUInt32 &&& Int32.toUInt32 31)).toInt32 &&& 1431655765)).toUInt32 >>> ((2 : Int32).toUInt32 &&& Int32.toUInt32 31)).toInt32 &&& 858993459)).toUInt32 >>> ((4 : Int32).toUInt32 &&& Int32.toUInt32 31)).toInt32) &&& 252645135) + ((((((x0 - ((x0.toUInt32 >>> ((1 : Int32).toUInt32 &&& Int32.toUInt32 31)).toInt32 &&& 1431655765)) &&& 858993459) + (((x0 - ((x0.toUInt32 >>> ((1 : Int32).toUInt32 &&& Int32.toUInt32 31)).toInt32 &&& 1431655765)).toUInt32 >>> ((2 : Int32).toUInt32 &&& Int32.toUInt32 31)).toInt32 &&& 858993459)) + ((((x0 - ((x0.toUInt32 >>> ((1 : Int32).toUInt32 &&& Int32.toUInt32 31)).toInt32 &&& 1431655765)) &&& 858993459) + (((x0 - ((x0.toUInt32 >>> ((1 : Int32).toUInt32 &&& Int32.toUInt32 31)).toInt32 &&& 1431655765)).toUInt32 >>> ((2 : Int32).toUInt32 &&& Int32.toUInt32 31)).toInt32 &&& 858993459)).toUInt32 >>> ((4 : Int32).toUInt32 &&& Int32.toUInt32 31)).toInt32) &&& 252645135).toUInt32 >>> ((8 : Int32).toUInt32 &&& Int32.toUInt32 31)).toInt32))] rfl (i := 0) (by decide) rfl dJ6_bitCount_0f7a4_40 ?_
  refine J_iload_n rfl (i := 0) rfl dJ6_bitCount_0f7a4_41 ?_
  refine J_iload_n rfl (i := 0) rfl dJ6_bitCount_0f7a4_42 ?_
  refine J_bipush (v := 16) (by decide) dJ6_bitCount_0f7a4_43 ?_
  refine J_iushr dJ6_bitCount_0f7a4_45 ?_
  refine J_iadd dJ6_bitCount_0f7a4_46 ?_
  refine J_istore_n [(0, .int (((((((x0 - ((x0.toUInt32 >>> ((1 : Int32).toUInt32 &&& Int32.toUInt32 31)).toInt32 &&& 1431655765)) &&& 858993459) + (((x0 - ((x0.toUInt32 >>> ((1 : Int32).toUInt32 &&& Int32.toUInt32 31)).toInt32 &&& 1431655765)).toUInt32 >>> ((2 : Int32).toUInt32 &&& Int32.toUInt32 31)).toInt32 &&& 858993459)) + ((((x0 - ((x0.toUInt32 >>> ((1 : Int32).toUInt32 &&& Int32.toUInt32 31)).toInt32 &&& 1431655765)) &&& 858993459) + (((x0 - ((x0.toUInt32 >>> ((1 : Int32).toUInt32 &&& Int32.toUInt32 31)).toInt32 &&& 1431655765)).toUInt32 >>> ((2 : Int32).toUInt32 &&& Int32.toUInt32 31)).toInt32 &&& 858993459)).toUInt32 >>> ((4 : Int32).toUInt32 &&& Int32.toUInt32 31)).toInt32) &&& 252645135) + ((((((x0 - ((x0.toUInt32 >>> ((1 : Int32).toUInt32 &&& Int32.toUInt32 31)).toInt32 &&& 1431655765)) &&& 858993459) + (((x0 - ((x0.toUInt32 >>> ((1 : Int32).toUInt32 &&& Int32.toUInt32 31)).toInt32 &&& 1431655765)).toUInt32 >>> ((2 : Int32).toUInt32 &&& Int32.toUInt32 31)).toInt32 &&& 858993459)) + ((((x0 - ((x0.toUInt32 >>> ((1 : Int32).toUInt32 &&& Int32.toUInt32 31)).toInt32 &&& 1431655765)) &&& 858993459) + (((x0 - ((x0.toUInt32 >>> ((1 : Int32).toUInt32 &&& Int32.toUInt32 31)).toInt32 &&& 1431655765)).toUInt32 >>> ((2 : Int32).toUInt32 &&& Int32.toUInt32 31)).toInt32 &&& 858993459)).toUInt32 >>> ((4 : Int32).toUInt32 &&& Int32.toUInt32 31)).toInt32) &&& 252645135).toUInt32 >>> ((8 : Int32).toUInt32 &&& Int32.toUInt32 31)).toInt32) + (((((((x0 - ((x0.toUInt32 >>> ((1 : Int32).toUInt32 &&& Int32.toUInt32 31)).toInt32 &&& 1431655765)) &&& 858993459) + (((x0 - ((x0.toUInt32 >>> ((1 : Int32).toUInt32 &&& Int32.toUInt32 31)).toInt32 &&& 1431655765)).toUInt32 >>> ((2 : Int32).toUInt32 &&& Int32.toUInt32 31)).toInt32 &&& 858993459)) + ((((x0 - ((x0.toUInt32 >>> ((1 : Int32).toUInt32 &&& Int32.toUInt32 31)).toInt32 &&& 1431655765)) &&& 858993459) + (((x0 - ((x0.toUInt32 >>> ((1 : Int32).toUInt32 &&& Int32.toUInt32 31)).toInt32 &&& 1431655765)).toUInt32 >>> ((2 : Int32).toUInt32 &&& Int32.toUInt32 31)).toInt32 &&& 858993459)).toUInt32 >>> ((4 : Int32).toUInt32 &&& Int32.toUInt32 31)).toInt32) &&& 252645135) + ((((((x0 - ((x0.toUInt32 >>> ((1 : Int32).toUInt32 &&& Int32.toUInt32 31)).toInt32 &&& 1431655765)) &&& 858993459) + (((x0 - ((x0.toUInt32 >>> ((1 : Int32).toUInt32 &&& Int32.toUInt32 31)).toInt32 &&& 1431655765)).toUInt32 >>> ((2 : Int32).toUInt32 &&& Int32.toUInt32 31)).toInt32 &&& 858993459)) + ((((x0 - ((x0.toUInt32 >>> ((1 : Int32).toUInt32 &&& Int32.toUInt32 31)).toInt32 &&& 1431655765)) &&& 858993459) + (((x0 - ((x0.toUInt32 >>> ((1 : Int32).toUInt32 &&& Int32.toUInt32 31)).toInt32 &&& 1431655765)).toUInt32 >>> ((2 : Int32).toUInt32 &&& Int32.toUInt32 31)).toInt32 &&& 858993459)).toUInt32 >>> ((4 : Int32).toUInt32 &&& Int32.toUInt32 31)).toInt32) &&& 252645135).toUInt32 >>> ((8 : Int32).toUInt32 &&& Int32.toUInt32 31)).toInt32).toUInt32 >>> ((16 : Int32).toUInt32 &&& Int32.toUInt32 31)).toInt32))] rfl (i := 0) (by decide) rfl dJ6_bitCount_0f7a4_47 ?_
  refine J_iload_n rfl (i := 0) rfl dJ6_bitCount_0f7a4_48 ?_
  refine J_bipush (v := 63) (by decide) dJ6_bitCount_0f7a4_49 ?_
  refine J_iand dJ6_bitCount_0f7a4_51 ?_
  exact J_fini (ty := .int) rfl rfl dJ6_bitCount_0f7a4_52 hw
theorem dJ9_abs_0f7a4_0 : decode cJ9_abs_0f7a4 0 = .ok (.iload_n 0, 1) := by decide +kernel
theorem dJ9_abs_0f7a4_1 : decode cJ9_abs_0f7a4 1 = .ok (.ifCond .ge 8, 3) := by decide +kernel
theorem dJ9_abs_0f7a4_4 : decode cJ9_abs_0f7a4 4 = .ok (.iload_n 0, 1) := by decide +kernel
theorem dJ9_abs_0f7a4_5 : decode cJ9_abs_0f7a4 5 = .ok (.ineg, 1) := by decide +kernel
theorem dJ9_abs_0f7a4_6 : decode cJ9_abs_0f7a4 6 = .ok (.goto 4, 3) := by decide +kernel
theorem dJ9_abs_0f7a4_9 : decode cJ9_abs_0f7a4 9 = .ok (.iload_n 0, 1) := by decide +kernel
theorem dJ9_abs_0f7a4_10 : decode cJ9_abs_0f7a4 10 = .ok (.ireturn, 1) := by decide +kernel
set_option maxRecDepth 20000 in
theorem bJ9_abs_0f7a4_0 {G : Gx} {mm : Nat → Nat → Int32} {lm : Nat → Int64} {x0 : Int32} {o : Ou} {z : Wd} {a b : Nat} (hw : ((0 ≤ x0) → o = .inl (some (.int x0)) ∧ z = (SH, mm, lm)) ∧ ((¬ 0 ≤ x0) → o = .inl (some (.int (-x0))) ∧ z = (SH, mm, lm))) :
    J G M_J9_abs_0f7a4 0 [(0, .int x0)] [] (SH, mm, lm) false o z false a b := by
  refine J_iload_n rfl (i := 0) rfl dJ9_abs_0f7a4_0 ?_
  refine J_if_ge (tgt := 9) dJ9_abs_0f7a4_1 (by decide) (fun hb1 => ?_) (fun hb1 => ?_)
  · replace hw := hw.1 hb1
    refine J_iload_n rfl (i := 0) rfl dJ9_abs_0f7a4_9 ?_
    exact J_fini (ty := .int) rfl rfl dJ9_abs_0f7a4_10 hw
  · replace hw := hw.2 hb1
    refine J_iload_n rfl (i := 0) rfl dJ9_abs_0f7a4_4 ?_
    refine J_ineg dJ9_abs_0f7a4_5 ?_
    refine J_goto (tgt := 10) dJ9_abs_0f7a4_6 (by decide) ?_
    exact J_fini (ty := .int) rfl rfl dJ9_abs_0f7a4_10 hw
theorem dJ9_max_7cf53_0 : decode cJ9_max_7cf53 0 = .ok (.iload_n 0, 1) := by decide +kernel
theorem dJ9_max_7cf53_1 : decode cJ9_max_7cf53 1 = .ok (.iload_n 1, 1) := by decide +kernel
theorem dJ9_max_7cf53_2 : decode cJ9_max_7cf53 2 = .ok (.if_icmp .lt 7, 3) := by decide +kernel
theorem dJ9_max_7cf53_5 : decode cJ9_max_7cf53 5 = .ok (.iload_n 0, 1) := by decide +kernel
theorem dJ9_max_7cf53_6 : decode cJ9_max_7cf53 6 = .ok (.goto 4, 3) := by decide +kernel
theorem dJ9_max_7cf53_9 : decode cJ9_max_7cf53 9 = .ok (.iload_n 1, 1) := by decide +kernel
theorem dJ9_max_7cf53_10 : decode cJ9_max_7cf53 10 = .ok (.ireturn, 1) := by decide +kernel
set_option maxRecDepth 20000 in
theorem bJ9_max_7cf53_0 {G : Gx} {mm : Nat → Nat → Int32} {lm : Nat → Int64} {x0 : Int32} {x1 : Int32} {o : Ou} {z : Wd} {a b : Nat} (hw : ((x0 < x1) → o = .inl (some (.int x1)) ∧ z = (SH, mm, lm)) ∧ ((¬ x0 < x1) → o = .inl (some (.int x0)) ∧ z = (SH, mm, lm))) :
    J G M_J9_max_7cf53 0 [(0, .int x0), (1, .int x1)] [] (SH, mm, lm) false o z false a b := by
  refine J_iload_n rfl (i := 0) rfl dJ9_max_7cf53_0 ?_
  refine J_iload_n rfl (i := 1) rfl dJ9_max_7cf53_1 ?_
  refine J_icmp_lt (tgt := 9) dJ9_max_7cf53_2 (by decide) (fun hb1 => ?_) (fun hb1 => ?_)
  · replace hw := hw.1 hb1
    refine J_iload_n rfl (i := 1) rfl dJ9_max_7cf53_9 ?_
    exact J_fini (ty := .int) rfl rfl dJ9_max_7cf53_10 hw
  · replace hw := hw.2 hb1
    refine J_iload_n rfl (i := 0) rfl dJ9_max_7cf53_5 ?_
    refine J_goto (tgt := 10) dJ9_max_7cf53_6 (by decide) ?_
    exact J_fini (ty := .int) rfl rfl dJ9_max_7cf53_10 hw
theorem dJ9_min_7cf53_0 : decode cJ9_min_7cf53 0 = .ok (.iload_n 0, 1) := by decide +kernel
theorem dJ9_min_7cf53_1 : decode cJ9_min_7cf53 1 = .ok (.iload_n 1, 1) := by decide +kernel
theorem dJ9_min_7cf53_2 : decode cJ9_min_7cf53 2 = .ok (.if_icmp .gt 7, 3) := by decide +kernel
theorem dJ9_min_7cf53_5 : decode cJ9_min_7cf53 5 = .ok (.iload_n 0, 1) := by decide +kernel
theorem dJ9_min_7cf53_6 : decode cJ9_min_7cf53 6 = .ok (.goto 4, 3) := by decide +kernel
theorem dJ9_min_7cf53_9 : decode cJ9_min_7cf53 9 = .ok (.iload_n 1, 1) := by decide +kernel
theorem dJ9_min_7cf53_10 : decode cJ9_min_7cf53 10 = .ok (.ireturn, 1) := by decide +kernel
set_option maxRecDepth 20000 in
theorem bJ9_min_7cf53_0 {G : Gx} {mm : Nat → Nat → Int32} {lm : Nat → Int64} {x0 : Int32} {x1 : Int32} {o : Ou} {z : Wd} {a b : Nat} (hw : ((x1 < x0) → o = .inl (some (.int x1)) ∧ z = (SH, mm, lm)) ∧ ((¬ x1 < x0) → o = .inl (some (.int x0)) ∧ z = (SH, mm, lm))) :
    J G M_J9_min_7cf53 0 [(0, .int x0), (1, .int x1)] [] (SH, mm, lm) false o z false a b := by
  refine J_iload_n rfl (i := 0) rfl dJ9_min_7cf53_0 ?_
  refine J_iload_n rfl (i := 1) rfl dJ9_min_7cf53_1 ?_
  refine J_icmp_gt (tgt := 9) dJ9_min_7cf53_2 (by decide) (fun hb1 => ?_) (fun hb1 => ?_)
  · replace hw := hw.1 hb1
    refine J_iload_n rfl (i := 1) rfl dJ9_min_7cf53_9 ?_
    exact J_fini (ty := .int) rfl rfl dJ9_min_7cf53_10 hw
  · replace hw := hw.2 hb1
    refine J_iload_n rfl (i := 0) rfl dJ9_min_7cf53_5 ?_
    refine J_goto (tgt := 10) dJ9_min_7cf53_6 (by decide) ?_
    exact J_fini (ty := .int) rfl rfl dJ9_min_7cf53_10 hw
theorem dJ0_length_8abf5_0 : decode cJ0_length_8abf5 0 = .ok (.aload_n 0, 1) := by decide +kernel
theorem dJ0_length_8abf5_1 : decode cJ0_length_8abf5 1 = .ok (.getfield 9, 3) := by decide +kernel
theorem dJ0_length_8abf5_4 : decode cJ0_length_8abf5 4 = .ok (.arraylength, 1) := by decide +kernel
theorem dJ0_length_8abf5_5 : decode cJ0_length_8abf5 5 = .ok (.aload_n 0, 1) := by decide +kernel
theorem dJ0_length_8abf5_6 : decode cJ0_length_8abf5 6 = .ok (.invokevirtual 335, 3) := by decide +kernel
theorem dJ0_length_8abf5_9 : decode cJ0_length_8abf5 9 = .ok (.ishr, 1) := by decide +kernel
theorem dJ0_length_8abf5_10 : decode cJ0_length_8abf5 10 = .ok (.ireturn, 1) := by decide +kernel
set_option maxRecDepth 20000 in
theorem bJ0_length_8abf5_0 {G : Gx} {mm : Nat → Nat → Int32} {lm : Nat → Int64} {kq v : Nat} {l : List Int32} (hk : (kq, v, l) ∈ kwS) {o : Ou} {z : Wd} {a b : Nat} (hw : ∃ (v2 : Int32), Ct G M_J0_coder_7d493 [.ref kq] (SH, mm, lm) false (.inl (some (.int v2))) (SH, mm, lm) false 0 0 ∧ o = .inl (some (.int ((nI l.length) >>> (v2 &&& 31)))) ∧ z = (SH, mm, lm)) :
    J G M_J0_length_8abf5 0 [(0, .ref kq)] [] (SH, mm, lm) false o z false a b := by
  refine J_aload_n rfl (i := 0) rfl dJ0_length_8abf5_0 ?_
  refine J_sgetV hk gw_2071 dJ0_length_8abf5_1 ?_
  refine J_salen hk rfl dJ0_length_8abf5_4 ?_
  refine J_aload_n rfl (i := 0) rfl dJ0_length_8abf5_5 ?_
  obtain ⟨v2, hc1, hw⟩ := hw
  refine J_callT (as := []) (st := [.int (nI l.length)]) hk cal_J0_coder_7d493 rfl cai_J0_coder_7d493 gw_518 ⟨by decide, by decide⟩ cnt_J0_coder_7d493 rfl (Nat.le_of_ble_eq_true rfl) dJ0_length_8abf5_6 (Nat.zero_add _).symm (Nat.zero_add _).symm hc1 ?_
  refine J_ishr dJ0_length_8abf5_9 ?_
  exact J_fini (ty := .int) rfl rfl dJ0_length_8abf5_10 hw
theorem dJ0_charAt_5068e_0 : decode cJ0_charAt_5068e 0 = .ok (.aload_n 0, 1) := by decide +kernel
theorem dJ0_charAt_5068e_1 : decode cJ0_charAt_5068e 1 = .ok (.invokevirtual 492, 3) := by decide +kernel
theorem dJ0_charAt_5068e_4 : decode cJ0_charAt_5068e 4 = .ok (.ifCond .eq 12, 3) := by decide +kernel
theorem dJ0_charAt_5068e_7 : decode cJ0_charAt_5068e 7 = .ok (.aload_n 0, 1) := by decide +kernel
theorem dJ0_charAt_5068e_8 : decode cJ0_charAt_5068e 8 = .ok (.getfield 9, 3) := by decide +kernel
theorem dJ0_charAt_5068e_11 : decode cJ0_charAt_5068e 11 = .ok (.iload_n 1, 1) := by decide +kernel
theorem dJ0_charAt_5068e_12 : decode cJ0_charAt_5068e 12 = .ok (.invokestatic 495, 3) := by decide +kernel
theorem dJ0_charAt_5068e_15 : decode cJ0_charAt_5068e 15 = .ok (.ireturn, 1) := by decide +kernel
theorem dJ0_charAt_5068e_16 : decode cJ0_charAt_5068e 16 = .ok (.aload_n 0, 1) := by decide +kernel
theorem dJ0_charAt_5068e_17 : decode cJ0_charAt_5068e 17 = .ok (.getfield 9, 3) := by decide +kernel
theorem dJ0_charAt_5068e_20 : decode cJ0_charAt_5068e 20 = .ok (.iload_n 1, 1) := by decide +kernel
theorem dJ0_charAt_5068e_21 : decode cJ0_charAt_5068e 21 = .ok (.invokestatic 498, 3) := by decide +kernel
theorem dJ0_charAt_5068e_24 : decode cJ0_charAt_5068e 24 = .ok (.ireturn, 1) := by decide +kernel
set_option maxRecDepth 20000 in
theorem bJ0_charAt_5068e_0 {G : Gx} {mm : Nat → Nat → Int32} {lm : Nat → Int64} {kq v : Nat} {l : List Int32} (hk : (kq, v, l) ∈ kwS) {x1 : Int32} {o : Ou} {z : Wd} {a b : Nat} (hw : ∃ (v2 : Int32), Ct G M_J0_isLatin1_aae02 [.ref kq] (SH, mm, lm) false (.inl (some (.int v2))) (SH, mm, lm) false 0 0 ∧ ((v2 = 0) → ∃ (v5 : Int32), Ct G M_J2_charAt_3b067 [.ref v, .int x1] (SH, mm, lm) false (.inl (some (.int v5))) (SH, mm, lm) false 0 0 ∧ narrow .char (.int v5) = .int v5 ∧ o = .inl (some (.int v5)) ∧ z = (SH, mm, lm)) ∧ ((¬ v2 = 0) → ∃ (v8 : Int32), Ct G M_J1_charAt_3b067 [.ref v, .int x1] (SH, mm, lm) false (.inl (some (.int v8))) (SH, mm, lm) false 0 0 ∧ narrow .char (.int v8) = .int v8 ∧ o = .inl (some (.int v8)) ∧ z = (SH, mm, lm))) :
    J G M_J0_charAt_5068e 0 [(0, .ref kq), (1, .int x1)] [] (SH, mm, lm) false o z false a b := by
  refine J_aload_n rfl (i := 0) rfl dJ0_charAt_5068e_0 ?_
  obtain ⟨v2, hc1, hw⟩ := hw
  refine J_callT (as := []) (st := []) hk cal_J0_isLatin1_aae02 rfl cai_J0_isLatin1_aae02 gw_528 ⟨by decide, by decide⟩ cnt_J0_isLatin1_aae02 rfl (Nat.le_of_ble_eq_true rfl) dJ0_charAt_5068e_1 (Nat.zero_add _).symm (Nat.zero_add _).symm hc1 ?_
  refine J_if_eq (tgt := 16) dJ0_charAt_5068e_4 (by decide) (fun hb10 => ?_) (fun hb10 => ?_)
  · replace hw := hw.1 hb10
    refine J_aload_n rfl (i := 0) rfl dJ0_charAt_5068e_16 ?_
    refine J_sgetV hk gw_2071 dJ0_charAt_5068e_17 ?_
    refine J_iload_n rfl (i := 1) rfl dJ0_charAt_5068e_20 ?_
    obtain ⟨v5, hc4, hw⟩ := hw
    refine J_callS (as := [.ref v, .int x1]) (st := []) cal_J2_charAt_3b067 cas_J2_charAt_3b067 gw_543 ⟨by decide, by decide⟩ cnt_J2_charAt_3b067 rfl (Nat.le_of_ble_eq_true rfl) dJ0_charAt_5068e_21 (Nat.zero_add _).symm (Nat.zero_add _).symm hc4 ?_
    exact J_fini (ty := .char) rfl hw.1 dJ0_charAt_5068e_24 hw.2
  · replace hw := hw.2 hb10
    refine J_aload_n rfl (i := 0) rfl dJ0_charAt_5068e_7 ?_
    refine J_sgetV hk gw_2071 dJ0_charAt_5068e_8 ?_
    refine J_iload_n rfl (i := 1) rfl dJ0_charAt_5068e_11 ?_
    obtain ⟨v8, hc7, hw⟩ := hw
    refine J_callS (as := [.ref v, .int x1]) (st := []) cal_J1_charAt_3b067 cas_J1_charAt_3b067 gw_532 ⟨by decide, by decide⟩ cnt_J1_charAt_3b067 rfl (Nat.le_of_ble_eq_true rfl) dJ0_charAt_5068e_12 (Nat.zero_add _).symm (Nat.zero_add _).symm hc7 ?_
    exact J_fini (ty := .char) rfl hw.1 dJ0_charAt_5068e_15 hw.2
theorem dJ0_coder_7d493_0 : decode cJ0_coder_7d493 0 = .ok (.getstatic 38, 3) := by decide +kernel
theorem dJ0_coder_7d493_3 : decode cJ0_coder_7d493 3 = .ok (.ifCond .eq 10, 3) := by decide +kernel
theorem dJ0_coder_7d493_6 : decode cJ0_coder_7d493 6 = .ok (.aload_n 0, 1) := by decide +kernel
theorem dJ0_coder_7d493_7 : decode cJ0_coder_7d493 7 = .ok (.getfield 15, 3) := by decide +kernel
theorem dJ0_coder_7d493_10 : decode cJ0_coder_7d493 10 = .ok (.goto 4, 3) := by decide +kernel
theorem dJ0_coder_7d493_14 : decode cJ0_coder_7d493 14 = .ok (.ireturn, 1) := by decide +kernel
set_option maxRecDepth 20000 in
theorem bJ0_coder_7d493_0 {G : Gx} {mm : Nat → Nat → Int32} {lm : Nat → Int64} {kq v : Nat} {l : List Int32} (hk : (kq, v, l) ∈ kwS) {o : Ou} {z : Wd} {a b : Nat} (hw : o = .inl (some (.int 0)) ∧ z = (SH, mm, lm)) :
    J G M_J0_coder_7d493 0 [(0, .ref kq)] [] (SH, mm, lm) false o z false a b := by
  refine J_sgets gw_522 dJ0_coder_7d493_0 ?_
  refine J_if_eq (tgt := 13) dJ0_coder_7d493_3 (by decide) (fun hb1 => absurd hb1 (by decide)) (fun _ => ?_)
  refine J_aload_n rfl (i := 0) rfl dJ0_coder_7d493_6 ?_
  refine J_sgetC hk gw_2072 dJ0_coder_7d493_7 ?_
  refine J_goto (tgt := 14) dJ0_coder_7d493_10 (by decide) ?_
  exact J_fini (ty := .byte) rfl rfl dJ0_coder_7d493_14 hw
theorem dJ0_isLatin1_aae02_0 : decode cJ0_isLatin1_aae02 0 = .ok (.getstatic 38, 3) := by decide +kernel
theorem dJ0_isLatin1_aae02_3 : decode cJ0_isLatin1_aae02 3 = .ok (.ifCond .eq 14, 3) := by decide +kernel
theorem dJ0_isLatin1_aae02_6 : decode cJ0_isLatin1_aae02 6 = .ok (.aload_n 0, 1) := by decide +kernel
theorem dJ0_isLatin1_aae02_7 : decode cJ0_isLatin1_aae02 7 = .ok (.getfield 15, 3) := by decide +kernel
theorem dJ0_isLatin1_aae02_10 : decode cJ0_isLatin1_aae02 10 = .ok (.ifCond .ne 7, 3) := by decide +kernel
theorem dJ0_isLatin1_aae02_13 : decode cJ0_isLatin1_aae02 13 = .ok (.iconst 1, 1) := by decide +kernel
theorem dJ0_isLatin1_aae02_14 : decode cJ0_isLatin1_aae02 14 = .ok (.goto 4, 3) := by decide +kernel
theorem dJ0_isLatin1_aae02_18 : decode cJ0_isLatin1_aae02 18 = .ok (.ireturn, 1) := by decide +kernel
set_option maxRecDepth 20000 in
theorem bJ0_isLatin1_aae02_0 {G : Gx} {mm : Nat → Nat → Int32} {lm : Nat → Int64} {kq v : Nat} {l : List Int32} (hk : (kq, v, l) ∈ kwS) {o : Ou} {z : Wd} {a b : Nat} (hw : o = .inl (some (.int 1)) ∧ z = (SH, mm, lm)) :
    J G M_J0_isLatin1_aae02 0 [(0, .ref kq)] [] (SH, mm, lm) false o z false a b := by
  refine J_sgets gw_522 dJ0_isLatin1_aae02_0 ?_
  refine J_if_eq (tgt := 17) dJ0_isLatin1_aae02_3 (by decide) (fun hb1 => absurd hb1 (by decide)) (fun _ => ?_)
  refine J_aload_n rfl (i := 0) rfl dJ0_isLatin1_aae02_6 ?_
  refine J_sgetC hk gw_2072 dJ0_isLatin1_aae02_7 ?_
  refine J_if_ne (tgt := 17) dJ0_isLatin1_aae02_10 (by decide) (fun hb2 => absurd hb2 (by decide)) (fun _ => ?_)
  refine J_iconst (v := 1) (by decide) dJ0_isLatin1_aae02_13 ?_
  refine J_goto (tgt := 18) dJ0_isLatin1_aae02_14 (by decide) ?_
  exact J_fini (ty := .boolean) rfl rfl dJ0_isLatin1_aae02_18 hw
theorem dJ0_checkIndex_df160_0 : decode cJ0_checkIndex_df160 0 = .ok (.iload_n 0, 1) := by decide +kernel
theorem dJ0_checkIndex_df160_1 : decode cJ0_checkIndex_df160 1 = .ok (.iload_n 1, 1) := by decide +kernel
theorem dJ0_checkIndex_df160_2 : decode cJ0_checkIndex_df160 2 = .ok (.getstatic 1053, 3) := by decide +kernel
theorem dJ0_checkIndex_df160_5 : decode cJ0_checkIndex_df160 5 = .ok (.invokestatic 1059, 3) := by decide +kernel
theorem dJ0_checkIndex_df160_8 : decode cJ0_checkIndex_df160 8 = .ok (.pop, 1) := by decide +kernel
theorem dJ0_checkIndex_df160_9 : decode cJ0_checkIndex_df160 9 = .ok (.return_, 1) := by decide +kernel
set_option maxRecDepth 20000 in
theorem bJ0_checkIndex_df160_0 {G : Gx} {mm : Nat → Nat → Int32} {lm : Nat → Int64} {x0 : Int32} {x1 : Int32} {o : Ou} {z : Wd} {a b : Nat} (hw : ∀ fx1 : Value, (fx1 = .null ∨ fx1 = .ref 1005) → ∃ (v3 : Int32), Ct G M_J3_checkIndex_8e157 [.int x0, .int x1, fx1] (SH, mm, lm) false (.inl (some (.int v3))) (SH, mm, lm) false 0 0 ∧ o = .inl none ∧ z = (SH, mm, lm)) :
    J G M_J0_checkIndex_df160 0 [(0, .int x0), (1, .int x1)] [] (SH, mm, lm) false o z false a b := by
  refine J_iload_n rfl (i := 0) rfl dJ0_checkIndex_df160_0 ?_
  refine J_iload_n rfl (i := 1) rfl dJ0_checkIndex_df160_1 ?_
  refine J_sgetF gw_538 dJ0_checkIndex_df160_2 (fun fx1 hfx1 => ?_)
  replace hw := hw fx1 hfx1
  obtain ⟨v3, hc2, hw⟩ := hw
  refine J_callS (as := [.int x0, .int x1, fx1]) (st := []) cal_J3_checkIndex_8e157 cas_J3_checkIndex_8e157 gw_540 ⟨by decide, by decide⟩ cnt_J3_checkIndex_8e157 rfl (Nat.le_of_ble_eq_true rfl) dJ0_checkIndex_df160_5 (Nat.zero_add _).symm (Nat.zero_add _).symm hc2 ?_
  refine J_pop dJ0_checkIndex_df160_8 ?_
  exact J_finv rfl dJ0_checkIndex_df160_9 hw
theorem dJ1_charAt_3b067_0 : decode cJ1_charAt_3b067 0 = .ok (.iload_n 1, 1) := by decide +kernel
theorem dJ1_charAt_3b067_1 : decode cJ1_charAt_3b067 1 = .ok (.aload_n 0, 1) := by decide +kernel
theorem dJ1_charAt_3b067_2 : decode cJ1_charAt_3b067 2 = .ok (.arraylength, 1) := by decide +kernel
theorem dJ1_charAt_3b067_3 : decode cJ1_charAt_3b067 3 = .ok (.invokestatic 9, 3) := by decide +kernel
theorem dJ1_charAt_3b067_6 : decode cJ1_charAt_3b067 6 = .ok (.aload_n 0, 1) := by decide +kernel
theorem dJ1_charAt_3b067_7 : decode cJ1_charAt_3b067 7 = .ok (.iload_n 1, 1) := by decide +kernel
theorem dJ1_charAt_3b067_8 : decode cJ1_charAt_3b067 8 = .ok (.baload, 1) := by decide +kernel
theorem dJ1_charAt_3b067_9 : decode cJ1_charAt_3b067 9 = .ok (.sipush 255, 3) := by decide +kernel
theorem dJ1_charAt_3b067_12 : decode cJ1_charAt_3b067 12 = .ok (.iand, 1) := by decide +kernel
theorem dJ1_charAt_3b067_13 : decode cJ1_charAt_3b067 13 = .ok (.i2c, 1) := by decide +kernel
theorem dJ1_charAt_3b067_14 : decode cJ1_charAt_3b067 14 = .ok (.ireturn, 1) := by decide +kernel
set_option maxRecDepth 20000 in
theorem bJ1_charAt_3b067_0 {G : Gx} {mm : Nat → Nat → Int32} {lm : Nat → Int64} {kq v : Nat} {l : List Int32} (hk : (kq, v, l) ∈ kwS) {x1 : Int32} {o : Ou} {z : Wd} {a b : Nat} (hw : Ct G M_J0_checkIndex_df160 [.int x1, .int (nI l.length)] (SH, mm, lm) false (.inl none) (SH, mm, lm) false 0 0 ∧ ∃ j4 : Nat, x1 = nI j4 ∧ j4 < l.length ∧ narrow .char (.int ((Int32.toUInt32 ((l.getD j4 0) &&& 255) % 65536).toInt32)) = .int ((Int32.toUInt32 ((l.getD j4 0) &&& 255) % 65536).toInt32) ∧ o = .inl (some (.int ((Int32.toUInt32 ((l.getD j4 0) &&& 255) % 65536).toInt32))) ∧ z = (SH, mm, lm)) :
    J G M_J1_charAt_3b067 0 [(0, .ref v), (1, .int x1)] [] (SH, mm, lm) false o z false a b := by
  refine J_iload_n rfl (i := 1) rfl dJ1_charAt_3b067_0 ?_
  refine J_aload_n rfl (i := 0) rfl dJ1_charAt_3b067_1 ?_
  refine J_salen hk rfl dJ1_charAt_3b067_2 ?_
  obtain ⟨hc1, hw⟩ := hw
  refine J_callS (as := [.int x1, .int (nI l.length)]) (st := []) cal_J0_checkIndex_df160 cas_J0_checkIndex_df160 gw_535 ⟨by decide, by decide⟩ cnt_J0_checkIndex_df160 rfl (Nat.le_of_ble_eq_true rfl) dJ1_charAt_3b067_3 (Nat.zero_add _).symm (Nat.zero_add _).symm hc1 ?_
  refine J_aload_n rfl (i := 0) rfl dJ1_charAt_3b067_6 ?_
  refine J_iload_n rfl (i := 1) rfl dJ1_charAt_3b067_7 ?_
  obtain ⟨j4, ej4, hj4, hw⟩ := hw
  refine J_sbald hk ej4 hj4 (kw_len hk) dJ1_charAt_3b067_8 ?_
  refine J_sipush (v := 255) (by decide) dJ1_charAt_3b067_9 ?_
  refine J_iand dJ1_charAt_3b067_12 ?_
  refine J_i2c rfl dJ1_charAt_3b067_13 ?_
  exact J_fini (ty := .char) rfl hw.1 dJ1_charAt_3b067_14 hw.2
theorem dJ3_checkIndex_8e157_0 : decode cJ3_checkIndex_8e157 0 = .ok (.iload_n 0, 1) := by decide +kernel
theorem dJ3_checkIndex_8e157_1 : decode cJ3_checkIndex_8e157 1 = .ok (.ifCond .lt 8, 3) := by decide +kernel
theorem dJ3_checkIndex_8e157_4 : decode cJ3_checkIndex_8e157 4 = .ok (.iload_n 0, 1) := by decide +kernel
theorem dJ3_checkIndex_8e157_5 : decode cJ3_checkIndex_8e157 5 = .ok (.iload_n 1, 1) := by decide +kernel
theorem dJ3_checkIndex_8e157_6 : decode cJ3_checkIndex_8e157 6 = .ok (.if_icmp .lt 10, 3) := by decide +kernel
theorem dJ3_checkIndex_8e157_9 : decode cJ3_checkIndex_8e157 9 = .ok (.aload_n 2, 1) := by decide +kernel
theorem dJ3_checkIndex_8e157_16 : decode cJ3_checkIndex_8e157 16 = .ok (.iload_n 0, 1) := by decide +kernel
theorem dJ3_checkIndex_8e157_17 : decode cJ3_checkIndex_8e157 17 = .ok (.ireturn, 1) := by decide +kernel
set_option maxRecDepth 20000 in
theorem bJ3_checkIndex_8e157_0 {G : Gx} {mm : Nat → Nat → Int32} {lm : Nat → Int64} {x0 : Int32} {x1 : Int32} {x2 : Value} {o : Ou} {z : Wd} {a b : Nat} (hw : ((x0 < 0) → False) ∧ ((¬ x0 < 0) → ((x0 < x1) → o = .inl (some (.int x0)) ∧ z = (SH, mm, lm)) ∧ ((¬ x0 < x1) → False))) :
    J G M_J3_checkIndex_8e157 0 [(0, .int x0), (1, .int x1), (2, x2)] [] (SH, mm, lm) false o z false a b := by
  refine J_iload_n rfl (i := 0) rfl dJ3_checkIndex_8e157_0 ?_
  refine J_if_lt (tgt := 9) dJ3_checkIndex_8e157_1 (by decide) (fun hb2 => ?_) (fun hb2 => ?_)
  · replace hw := hw.1 hb2
    exact hw.elim
  · replace hw := hw.2 hb2
    refine J_iload_n rfl (i := 0) rfl dJ3_checkIndex_8e157_4 ?_
    refine J_iload_n rfl (i := 1) rfl dJ3_checkIndex_8e157_5 ?_
    refine J_icmp_lt (tgt := 16) dJ3_checkIndex_8e157_6 (by decide) (fun hb1 => ?_) (fun hb1 => ?_)
    · replace hw := hw.1 hb1
      refine J_iload_n rfl (i := 0) rfl dJ3_checkIndex_8e157_16 ?_
      exact J_fini (ty := .int) rfl rfl dJ3_checkIndex_8e157_17 hw
    · replace hw := hw.2 hb1
      exact hw.elim
