/-! ===== decode rows and walks between cut points, by program (wip/gen/mk10.py) ===== -/
theorem dX3_forgetAll_0 : decode cX3_forgetAll 0 = .ok (.aload_n 0, 1) := by decide +kernel
theorem dX3_forgetAll_1 : decode cX3_forgetAll 1 = .ok (.iconst 0, 1) := by decide +kernel
theorem dX3_forgetAll_2 : decode cX3_forgetAll 2 = .ok (.putfield 20, 3) := by decide +kernel
theorem dX3_forgetAll_5 : decode cX3_forgetAll 5 = .ok (.aload_n 0, 1) := by decide +kernel
theorem dX3_forgetAll_6 : decode cX3_forgetAll 6 = .ok (.iconst 0, 1) := by decide +kernel
theorem dX3_forgetAll_7 : decode cX3_forgetAll 7 = .ok (.putfield 24, 3) := by decide +kernel
theorem dX3_forgetAll_10 : decode cX3_forgetAll 10 = .ok (.return_, 1) := by decide +kernel
set_option maxRecDepth 20000 in
theorem bX3_forgetAll_0 {G : Gx} {mm : Nat → Nat → Int32} {lm : Nat → Int64}  {o : Ou} {z : Wd} {a b : Nat} (hw : o = .inl none ∧ z = (SH, (mset (mset mm 48 2 0) 48 3 0), lm)) :
    J G M_X3_forgetAll 0 [(0, .ref 48)] [] (SH, mm, lm) false o z false a b := by
  refine J_aload_n rfl (i := 0) rfl dX3_forgetAll_0 ?_
  refine J_iconst (v := 0) (by decide) dX3_forgetAll_1 ?_
  refine J_puti kls_3 (q := 48) (k := 2) sh_48 (by decide) rfl rfl (fun _ => rfl) (fun _ => rfl) gw_417 dX3_forgetAll_2 ?_
  refine J_aload_n rfl (i := 0) rfl dX3_forgetAll_5 ?_
  refine J_iconst (v := 0) (by decide) dX3_forgetAll_6 ?_
  refine J_puti kls_3 (q := 48) (k := 3) sh_48 (by decide) rfl rfl (fun _ => rfl) (fun _ => rfl) gw_418 dX3_forgetAll_7 ?_
  exact J_finv rfl dX3_forgetAll_10 hw
theorem dX3_push_0 : decode cX3_push 0 = .ok (.aload_n 0, 1) := by decide +kernel
theorem dX3_push_1 : decode cX3_push 1 = .ok (.getfield 24, 3) := by decide +kernel
theorem dX3_push_4 : decode cX3_push 4 = .ok (.bipush 12, 2) := by decide +kernel
theorem dX3_push_6 : decode cX3_push 6 = .ok (.if_icmp .ne 26, 3) := by decide +kernel
theorem dX3_push_9 : decode cX3_push 9 = .ok (.aload_n 0, 1) := by decide +kernel
theorem dX3_push_10 : decode cX3_push 10 = .ok (.aload_n 0, 1) := by decide +kernel
theorem dX3_push_11 : decode cX3_push 11 = .ok (.getfield 20, 3) := by decide +kernel
theorem dX3_push_14 : decode cX3_push 14 = .ok (.iconst 1, 1) := by decide +kernel
theorem dX3_push_15 : decode cX3_push 15 = .ok (.iadd, 1) := by decide +kernel
theorem dX3_push_16 : decode cX3_push 16 = .ok (.bipush 12, 2) := by decide +kernel
theorem dX3_push_18 : decode cX3_push 18 = .ok (.irem, 1) := by decide +kernel
theorem dX3_push_19 : decode cX3_push 19 = .ok (.putfield 20, 3) := by decide +kernel
theorem dX3_push_22 : decode cX3_push 22 = .ok (.aload_n 0, 1) := by decide +kernel
theorem dX3_push_23 : decode cX3_push 23 = .ok (.dup, 1) := by decide +kernel
theorem dX3_push_24 : decode cX3_push 24 = .ok (.getfield 24, 3) := by decide +kernel
theorem dX3_push_27 : decode cX3_push 27 = .ok (.iconst 1, 1) := by decide +kernel
theorem dX3_push_28 : decode cX3_push 28 = .ok (.isub, 1) := by decide +kernel
theorem dX3_push_29 : decode cX3_push 29 = .ok (.putfield 24, 3) := by decide +kernel
theorem dX3_push_32 : decode cX3_push 32 = .ok (.aload_n 0, 1) := by decide +kernel
theorem dX3_push_33 : decode cX3_push 33 = .ok (.getfield 20, 3) := by decide +kernel
theorem dX3_push_36 : decode cX3_push 36 = .ok (.aload_n 0, 1) := by decide +kernel
theorem dX3_push_37 : decode cX3_push 37 = .ok (.getfield 24, 3) := by decide +kernel
theorem dX3_push_40 : decode cX3_push 40 = .ok (.iadd, 1) := by decide +kernel
theorem dX3_push_41 : decode cX3_push 41 = .ok (.bipush 12, 2) := by decide +kernel
theorem dX3_push_43 : decode cX3_push 43 = .ok (.irem, 1) := by decide +kernel
theorem dX3_push_44 : decode cX3_push 44 = .ok (.istore_n 3, 1) := by decide +kernel
theorem dX3_push_45 : decode cX3_push 45 = .ok (.aload_n 0, 1) := by decide +kernel
theorem dX3_push_46 : decode cX3_push 46 = .ok (.getfield 9, 3) := by decide +kernel
theorem dX3_push_49 : decode cX3_push 49 = .ok (.iload_n 3, 1) := by decide +kernel
theorem dX3_push_50 : decode cX3_push 50 = .ok (.iload_n 1, 1) := by decide +kernel
theorem dX3_push_51 : decode cX3_push 51 = .ok (.iastore, 1) := by decide +kernel
theorem dX3_push_52 : decode cX3_push 52 = .ok (.aload_n 0, 1) := by decide +kernel
theorem dX3_push_53 : decode cX3_push 53 = .ok (.getfield 15, 3) := by decide +kernel
theorem dX3_push_56 : decode cX3_push 56 = .ok (.iload_n 3, 1) := by decide +kernel
theorem dX3_push_57 : decode cX3_push 57 = .ok (.aaload, 1) := by decide +kernel
theorem dX3_push_58 : decode cX3_push 58 = .ok (.aload_n 2, 1) := by decide +kernel
theorem dX3_push_59 : decode cX3_push 59 = .ok (.invokevirtual 27, 3) := by decide +kernel
theorem dX3_push_62 : decode cX3_push 62 = .ok (.aload_n 0, 1) := by decide +kernel
theorem dX3_push_63 : decode cX3_push 63 = .ok (.dup, 1) := by decide +kernel
theorem dX3_push_64 : decode cX3_push 64 = .ok (.getfield 24, 3) := by decide +kernel
theorem dX3_push_67 : decode cX3_push 67 = .ok (.iconst 1, 1) := by decide +kernel
theorem dX3_push_68 : decode cX3_push 68 = .ok (.iadd, 1) := by decide +kernel
theorem dX3_push_69 : decode cX3_push 69 = .ok (.putfield 24, 3) := by decide +kernel
theorem dX3_push_72 : decode cX3_push 72 = .ok (.return_, 1) := by decide +kernel
set_option maxRecDepth 20000 in
theorem bX3_push_0 {G : Gx} {mm : Nat → Nat → Int32} {lm : Nat → Int64} {x1 : Int32} {r : Nat} (hq_r : SH[r]? = some (.inl (0, bsl))) {o : Ou} {z : Wd} {a b : Nat} (hw : ((¬ (mm 48 3) = 12) → ∃ j1 : Nat, (((mm 48 2) + (mm 48 3)) - ((mm 48 2) + (mm 48 3)) / 12 * 12) = nI j1 ∧ j1 < 12 ∧ ∃ j2 : Nat, (((mm 48 2) + (mm 48 3)) - ((mm 48 2) + (mm 48 3)) / 12 * 12) = nI j2 ∧ j2 < 12 ∧ ∃ (m5 : Nat → Nat → Int32), Ct G M_X0_copyFrom [.ref (51 + j2), .ref r] (SH, (mset mm 49 j1 x1), lm) false (.inl none) (SH, m5, lm) false 0 0 ∧ o = .inl none ∧ z = (SH, (mset m5 48 3 ((m5 48 3) + 1)), lm)) ∧ (((mm 48 3) = 12) → ∃ j6 : Nat, ((((mset (mset mm 48 2 (((mm 48 2) + 1) - ((mm 48 2) + 1) / 12 * 12)) 48 3 (((mset mm 48 2 (((mm 48 2) + 1) - ((mm 48 2) + 1) / 12 * 12)) 48 3) - 1)) 48 2) + ((mset (mset mm 48 2 (((mm 48 2) + 1) - ((mm 48 2) + 1) / 12 * 12)) 48 3 (((mset mm 48 2 (((mm 48 2) + 1) - ((mm 48 2) + 1) / 12 * 12)) 48 3) - 1)) 48 3)) - (((mset (mset mm 48 2 (((mm 48 2) + 1) - ((mm 48 2) + 1) / 12 * 12)) 48 3 (((mset mm 48 2 (((mm 48 2) + 1) - ((mm 48 2) + 1) / 12 * 12)) 48 3) - 1)) 48 2) + ((mset (mset mm 48 2 (((mm 48 2) + 1) - ((mm 48 2) + 1) / 12 * 12)) 48 3 (((mset mm 48 2 (((mm 48 2) + 1) - ((mm 48 2) + 1) / 12 * 12)) 48 3) - 1)) 48 3)) / 12 * 12) = nI j6 ∧ j6 < 12 ∧ ∃ j7 : Nat, ((((mset (mset mm 48 2 (((mm 48 2) + 1) - ((mm 48 2) + 1) / 12 * 12)) 48 3 (((mset mm 48 2 (((mm 48 2) + 1) - ((mm 48 2) + 1) / 12 * 12)) 48 3) - 1)) 48 2) + ((mset (mset mm 48 2 (((mm 48 2) + 1) - ((mm 48 2) + 1) / 12 * 12)) 48 3 (((mset mm 48 2 (((mm 48 2) + 1) - ((mm 48 2) + 1) / 12 * 12)) 48 3) - 1)) 48 3)) - (((mset (mset mm 48 2 (((mm 48 2) + 1) - ((mm 48 2) + 1) / 12 * 12)) 48 3 (((mset mm 48 2 (((mm 48 2) + 1) - ((mm 48 2) + 1) / 12 * 12)) 48 3) - 1)) 48 2) + ((mset (mset mm 48 2 (((mm 48 2) + 1) - ((mm 48 2) + 1) / 12 * 12)) 48 3 (((mset mm 48 2 (((mm 48 2) + 1) - ((mm 48 2) + 1) / 12 * 12)) 48 3) - 1)) 48 3)) / 12 * 12) = nI j7 ∧ j7 < 12 ∧ ∃ (m10 : Nat → Nat → Int32), Ct G M_X0_copyFrom [.ref (51 + j7), .ref r] (SH, (mset (mset (mset mm 48 2 (((mm 48 2) + 1) - ((mm 48 2) + 1) / 12 * 12)) 48 3 (((mset mm 48 2 (((mm 48 2) + 1) - ((mm 48 2) + 1) / 12 * 12)) 48 3) - 1)) 49 j6 x1), lm) false (.inl none) (SH, m10, lm) false 0 0 ∧ o = .inl none ∧ z = (SH, (mset m10 48 3 ((m10 48 3) + 1)), lm))) :
    J G M_X3_push 0 [(0, .ref 48), (1, .int x1), (2, .ref r)] [] (SH, mm, lm) false o z false a b := by
  refine J_aload_n rfl (i := 0) rfl dX3_push_0 ?_
  refine J_geti kls_3 (q := 48) (k := 3) sh_48 (by decide) rfl gw_418 dX3_push_1 ?_
  refine J_bipush (v := 12) (by decide) dX3_push_4 ?_
  refine J_icmp_ne (tgt := 32) dX3_push_6 (by decide) (fun hb11 => ?_) (fun hb11 => ?_)
  · replace hw := hw.1 hb11
    refine J_aload_n rfl (i := 0) rfl dX3_push_32 ?_
    refine J_geti kls_3 (q := 48) (k := 2) sh_48 (by decide) rfl gw_417 dX3_push_33 ?_
    refine J_aload_n rfl (i := 0) rfl dX3_push_36 ?_
    refine J_geti kls_3 (q := 48) (k := 3) sh_48 (by decide) rfl gw_418 dX3_push_37 ?_
    refine J_iadd dX3_push_40 ?_
    refine J_bipush (v := 12) (by decide) dX3_push_41 ?_
    refine J_irem (by decide) dX3_push_43 ?_
    refine J_istore_n [(3, .int (((mm 48 2) + (mm 48 3)) - ((mm 48 2) + (mm 48 3)) / 12 * 12)), (0, .ref 48), (1, .int x1), (2, .ref r)] rfl (i := 3) (by decide) rfl dX3_push_44 ?_
    refine J_aload_n rfl (i := 0) rfl dX3_push_45 ?_
    refine J_getr kls_3 (q := 48) (k := 0) sh_48 (by decide) rfl gw_415 dX3_push_46 ?_
    refine J_iload_n rfl (i := 3) rfl dX3_push_49 ?_
    refine J_iload_n rfl (i := 1) rfl dX3_push_50 ?_
    obtain ⟨j1, ej1, hj1, hw⟩ := hw
    refine J_iast sh_49 ej1 hj1 (by decide) dX3_push_51 ?_
    refine J_aload_n rfl (i := 0) rfl dX3_push_52 ?_
    refine J_getr kls_3 (q := 48) (k := 1) sh_48 (by decide) rfl gw_416 dX3_push_53 ?_
    refine J_iload_n rfl (i := 3) rfl dX3_push_56 ?_
    obtain ⟨j2, ej2, hj2, hw⟩ := hw
    refine J_aald (r := 51 + j2) sh_50 ej2 hj2 (by decide) (if_pos hj2) dX3_push_57 ?_
    refine J_aload_n rfl (i := 2) rfl dX3_push_58 ?_
    obtain ⟨m5, hc3, hw⟩ := hw
    refine J_callV (as := [.ref r]) (k := (51 + j2)) (st := []) cal_X0_copyFrom cai_X0_copyFrom gw_785 ⟨by decide, by decide⟩ cnt_X0_copyFrom (sh_b51 hj2) rfl rfl (Nat.le_of_ble_eq_true rfl) dX3_push_59 (Nat.zero_add _).symm (Nat.zero_add _).symm hc3 ?_
    refine J_aload_n rfl (i := 0) rfl dX3_push_62 ?_
    refine J_dupr dX3_push_63 ?_
    refine J_geti kls_3 (q := 48) (k := 3) sh_48 (by decide) rfl gw_418 dX3_push_64 ?_
    refine J_iconst (v := 1) (by decide) dX3_push_67 ?_
    refine J_iadd dX3_push_68 ?_
    refine J_puti kls_3 (q := 48) (k := 3) sh_48 (by decide) rfl rfl (fun _ => rfl) (fun _ => rfl) gw_418 dX3_push_69 ?_
    exact J_finv rfl dX3_push_72 hw
  · replace hw := hw.2 hb11
    refine J_aload_n rfl (i := 0) rfl dX3_push_9 ?_
    refine J_aload_n rfl (i := 0) rfl dX3_push_10 ?_
    refine J_geti kls_3 (q := 48) (k := 2) sh_48 (by decide) rfl gw_417 dX3_push_11 ?_
    refine J_iconst (v := 1) (by decide) dX3_push_14 ?_
    refine J_iadd dX3_push_15 ?_
    refine J_bipush (v := 12) (by decide) dX3_push_16 ?_
    refine J_irem (by decide) dX3_push_18 ?_
    refine J_puti kls_3 (q := 48) (k := 2) sh_48 (by decide) rfl rfl (fun _ => rfl) (fun _ => rfl) gw_417 dX3_push_19 ?_
    refine J_aload_n rfl (i := 0) rfl dX3_push_22 ?_
    refine J_dupr dX3_push_23 ?_
    refine J_geti kls_3 (q := 48) (k := 3) sh_48 (by decide) rfl gw_418 dX3_push_24 ?_
    refine J_iconst (v := 1) (by decide) dX3_push_27 ?_
    refine J_isub dX3_push_28 ?_
    refine J_puti kls_3 (q := 48) (k := 3) sh_48 (by decide) rfl rfl (fun _ => rfl) (fun _ => rfl) gw_418 dX3_push_29 ?_
    refine J_aload_n rfl (i := 0) rfl dX3_push_32 ?_
    refine J_geti kls_3 (q := 48) (k := 2) sh_48 (by decide) rfl gw_417 dX3_push_33 ?_
    refine J_aload_n rfl (i := 0) rfl dX3_push_36 ?_
    refine J_geti kls_3 (q := 48) (k := 3) sh_48 (by decide) rfl gw_418 dX3_push_37 ?_
    refine J_iadd dX3_push_40 ?_
    refine J_bipush (v := 12) (by decide) dX3_push_41 ?_
    refine J_irem (by decide) dX3_push_43 ?_
    refine J_istore_n [(3, .int ((((mset (mset mm 48 2 (((mm 48 2) + 1) - ((mm 48 2) + 1) / 12 * 12)) 48 3 (((mset mm 48 2 (((mm 48 2) + 1) - ((mm 48 2) + 1) / 12 * 12)) 48 3) - 1)) 48 2) + ((mset (mset mm 48 2 (((mm 48 2) + 1) - ((mm 48 2) + 1) / 12 * 12)) 48 3 (((mset mm 48 2 (((mm 48 2) + 1) - ((mm 48 2) + 1) / 12 * 12)) 48 3) - 1)) 48 3)) - (((mset (mset mm 48 2 (((mm 48 2) + 1) - ((mm 48 2) + 1) / 12 * 12)) 48 3 (((mset mm 48 2 (((mm 48 2) + 1) - ((mm 48 2) + 1) / 12 * 12)) 48 3) - 1)) 48 2) + ((mset (mset mm 48 2 (((mm 48 2) + 1) - ((mm 48 2) + 1) / 12 * 12)) 48 3 (((mset mm 48 2 (((mm 48 2) + 1) - ((mm 48 2) + 1) / 12 * 12)) 48 3) - 1)) 48 3)) / 12 * 12)), (0, .ref 48), (1, .int x1), (2, .ref r)] rfl (i := 3) (by decide) rfl dX3_push_44 ?_
    refine J_aload_n rfl (i := 0) rfl dX3_push_45 ?_
    refine J_getr kls_3 (q := 48) (k := 0) sh_48 (by decide) rfl gw_415 dX3_push_46 ?_
    refine J_iload_n rfl (i := 3) rfl dX3_push_49 ?_
    refine J_iload_n rfl (i := 1) rfl dX3_push_50 ?_
    obtain ⟨j6, ej6, hj6, hw⟩ := hw
    refine J_iast sh_49 ej6 hj6 (by decide) dX3_push_51 ?_
    refine J_aload_n rfl (i := 0) rfl dX3_push_52 ?_
    refine J_getr kls_3 (q := 48) (k := 1) sh_48 (by decide) rfl gw_416 dX3_push_53 ?_
    refine J_iload_n rfl (i := 3) rfl dX3_push_56 ?_
    obtain ⟨j7, ej7, hj7, hw⟩ := hw
    refine J_aald (r := 51 + j7) sh_50 ej7 hj7 (by decide) (if_pos hj7) dX3_push_57 ?_
    refine J_aload_n rfl (i := 2) rfl dX3_push_58 ?_
    obtain ⟨m10, hc8, hw⟩ := hw
    refine J_callV (as := [.ref r]) (k := (51 + j7)) (st := []) cal_X0_copyFrom cai_X0_copyFrom gw_785 ⟨by decide, by decide⟩ cnt_X0_copyFrom (sh_b51 hj7) rfl rfl (Nat.le_of_ble_eq_true rfl) dX3_push_59 (Nat.zero_add _).symm (Nat.zero_add _).symm hc8 ?_
    refine J_aload_n rfl (i := 0) rfl dX3_push_62 ?_
    refine J_dupr dX3_push_63 ?_
    refine J_geti kls_3 (q := 48) (k := 3) sh_48 (by decide) rfl gw_418 dX3_push_64 ?_
    refine J_iconst (v := 1) (by decide) dX3_push_67 ?_
    refine J_iadd dX3_push_68 ?_
    refine J_puti kls_3 (q := 48) (k := 3) sh_48 (by decide) rfl rfl (fun _ => rfl) (fun _ => rfl) gw_418 dX3_push_69 ?_
    exact J_finv rfl dX3_push_72 hw
theorem dX3_stepBack_0 : decode cX3_stepBack 0 = .ok (.aload_n 0, 1) := by decide +kernel
theorem dX3_stepBack_1 : decode cX3_stepBack 1 = .ok (.getfield 24, 3) := by decide +kernel
theorem dX3_stepBack_4 : decode cX3_stepBack 4 = .ok (.ifCond .ne 4, 3) := by decide +kernel
theorem dX3_stepBack_7 : decode cX3_stepBack 7 = .ok (.return_, 1) := by decide +kernel
theorem dX3_stepBack_8 : decode cX3_stepBack 8 = .ok (.aload_n 0, 1) := by decide +kernel
theorem dX3_stepBack_9 : decode cX3_stepBack 9 = .ok (.dup, 1) := by decide +kernel
theorem dX3_stepBack_10 : decode cX3_stepBack 10 = .ok (.getfield 24, 3) := by decide +kernel
theorem dX3_stepBack_13 : decode cX3_stepBack 13 = .ok (.iconst 1, 1) := by decide +kernel
theorem dX3_stepBack_14 : decode cX3_stepBack 14 = .ok (.isub, 1) := by decide +kernel
theorem dX3_stepBack_15 : decode cX3_stepBack 15 = .ok (.putfield 24, 3) := by decide +kernel
theorem dX3_stepBack_18 : decode cX3_stepBack 18 = .ok (.aload_n 0, 1) := by decide +kernel
theorem dX3_stepBack_19 : decode cX3_stepBack 19 = .ok (.getfield 20, 3) := by decide +kernel
theorem dX3_stepBack_22 : decode cX3_stepBack 22 = .ok (.aload_n 0, 1) := by decide +kernel
theorem dX3_stepBack_23 : decode cX3_stepBack 23 = .ok (.getfield 24, 3) := by decide +kernel
theorem dX3_stepBack_26 : decode cX3_stepBack 26 = .ok (.iadd, 1) := by decide +kernel
theorem dX3_stepBack_27 : decode cX3_stepBack 27 = .ok (.bipush 12, 2) := by decide +kernel
theorem dX3_stepBack_29 : decode cX3_stepBack 29 = .ok (.irem, 1) := by decide +kernel
theorem dX3_stepBack_30 : decode cX3_stepBack 30 = .ok (.istore_n 2, 1) := by decide +kernel
theorem dX3_stepBack_31 : decode cX3_stepBack 31 = .ok (.aload_n 0, 1) := by decide +kernel
theorem dX3_stepBack_32 : decode cX3_stepBack 32 = .ok (.getfield 9, 3) := by decide +kernel
theorem dX3_stepBack_35 : decode cX3_stepBack 35 = .ok (.iload_n 2, 1) := by decide +kernel
theorem dX3_stepBack_36 : decode cX3_stepBack 36 = .ok (.iaload, 1) := by decide +kernel
theorem dX3_stepBack_37 : decode cX3_stepBack 37 = .ok (.istore_n 3, 1) := by decide +kernel
theorem dX3_stepBack_38 : decode cX3_stepBack 38 = .ok (.iload_n 3, 1) := by decide +kernel
theorem dX3_stepBack_39 : decode cX3_stepBack 39 = .ok (.ifCond .lt 21, 3) := by decide +kernel
theorem dX3_stepBack_42 : decode cX3_stepBack 42 = .ok (.iload_n 3, 1) := by decide +kernel
theorem dX3_stepBack_43 : decode cX3_stepBack 43 = .ok (.aload_n 1, 1) := by decide +kernel
theorem dX3_stepBack_44 : decode cX3_stepBack 44 = .ok (.arraylength, 1) := by decide +kernel
theorem dX3_stepBack_45 : decode cX3_stepBack 45 = .ok (.if_icmp .ge 15, 3) := by decide +kernel
theorem dX3_stepBack_48 : decode cX3_stepBack 48 = .ok (.aload_n 1, 1) := by decide +kernel
theorem dX3_stepBack_49 : decode cX3_stepBack 49 = .ok (.iload_n 3, 1) := by decide +kernel
theorem dX3_stepBack_50 : decode cX3_stepBack 50 = .ok (.aaload, 1) := by decide +kernel
theorem dX3_stepBack_51 : decode cX3_stepBack 51 = .ok (.aload_n 0, 1) := by decide +kernel
theorem dX3_stepBack_52 : decode cX3_stepBack 52 = .ok (.getfield 15, 3) := by decide +kernel
theorem dX3_stepBack_55 : decode cX3_stepBack 55 = .ok (.iload_n 2, 1) := by decide +kernel
theorem dX3_stepBack_56 : decode cX3_stepBack 56 = .ok (.aaload, 1) := by decide +kernel
theorem dX3_stepBack_57 : decode cX3_stepBack 57 = .ok (.invokevirtual 27, 3) := by decide +kernel
theorem dX3_stepBack_60 : decode cX3_stepBack 60 = .ok (.return_, 1) := by decide +kernel
set_option maxRecDepth 20000 in
theorem bX3_stepBack_0 {G : Gx} {mm : Nat → Nat → Int32} {lm : Nat → Int64}  {o : Ou} {z : Wd} {a b : Nat} (hw : ((¬ (mm 48 3) = 0) → ∃ j1 : Nat, ((((mset mm 48 3 ((mm 48 3) - 1)) 48 2) + ((mset mm 48 3 ((mm 48 3) - 1)) 48 3)) - (((mset mm 48 3 ((mm 48 3) - 1)) 48 2) + ((mset mm 48 3 ((mm 48 3) - 1)) 48 3)) / 12 * 12) = nI j1 ∧ j1 < 12 ∧ ((((mset mm 48 3 ((mm 48 3) - 1)) 49 j1) < 0) → o = .inl none ∧ z = (SH, (mset mm 48 3 ((mm 48 3) - 1)), lm)) ∧ ((¬ ((mset mm 48 3 ((mm 48 3) - 1)) 49 j1) < 0) → ((8 ≤ ((mset mm 48 3 ((mm 48 3) - 1)) 49 j1)) → o = .inl none ∧ z = (SH, (mset mm 48 3 ((mm 48 3) - 1)), lm)) ∧ ((¬ 8 ≤ ((mset mm 48 3 ((mm 48 3) - 1)) 49 j1)) → ∃ j2 : Nat, ((mset mm 48 3 ((mm 48 3) - 1)) 49 j1) = nI j2 ∧ j2 < 8 ∧ ∃ j3 : Nat, ((((mset mm 48 3 ((mm 48 3) - 1)) 48 2) + ((mset mm 48 3 ((mm 48 3) - 1)) 48 3)) - (((mset mm 48 3 ((mm 48 3) - 1)) 48 2) + ((mset mm 48 3 ((mm 48 3) - 1)) 48 3)) / 12 * 12) = nI j3 ∧ j3 < 12 ∧ ∃ (m6 : Nat → Nat → Int32), Ct G M_X0_copyFrom [.ref (23 + j2), .ref (51 + j3)] (SH, (mset mm 48 3 ((mm 48 3) - 1)), lm) false (.inl none) (SH, m6, lm) false 0 0 ∧ o = .inl none ∧ z = (SH, m6, lm)))) ∧ (((mm 48 3) = 0) → o = .inl none ∧ z = (SH, mm, lm))) :
    J G M_X3_stepBack 0 [(0, .ref 48), (1, .ref 22)] [] (SH, mm, lm) false o z false a b := by
  refine J_aload_n rfl (i := 0) rfl dX3_stepBack_0 ?_
  refine J_geti kls_3 (q := 48) (k := 3) sh_48 (by decide) rfl gw_418 dX3_stepBack_1 ?_
  refine J_if_ne (tgt := 8) dX3_stepBack_4 (by decide) (fun hb9 => ?_) (fun hb9 => ?_)
  · replace hw := hw.1 hb9
    refine J_aload_n rfl (i := 0) rfl dX3_stepBack_8 ?_
    refine J_dupr dX3_stepBack_9 ?_
    refine J_geti kls_3 (q := 48) (k := 3) sh_48 (by decide) rfl gw_418 dX3_stepBack_10 ?_
    refine J_iconst (v := 1) (by decide) dX3_stepBack_13 ?_
    refine J_isub dX3_stepBack_14 ?_
    refine J_puti kls_3 (q := 48) (k := 3) sh_48 (by decide) rfl rfl (fun _ => rfl) (fun _ => rfl) gw_418 dX3_stepBack_15 ?_
    refine J_aload_n rfl (i := 0) rfl dX3_stepBack_18 ?_
    refine J_geti kls_3 (q := 48) (k := 2) sh_48 (by decide) rfl gw_417 dX3_stepBack_19 ?_
    refine J_aload_n rfl (i := 0) rfl dX3_stepBack_22 ?_
    refine J_geti kls_3 (q := 48) (k := 3) sh_48 (by decide) rfl gw_418 dX3_stepBack_23 ?_
    refine J_iadd dX3_stepBack_26 ?_
    refine J_bipush (v := 12) (by decide) dX3_stepBack_27 ?_
    refine J_irem (by decide) dX3_stepBack_29 ?_
    refine J_istore_n [(2, .int ((((mset mm 48 3 ((mm 48 3) - 1)) 48 2) + ((mset mm 48 3 ((mm 48 3) - 1)) 48 3)) - (((mset mm 48 3 ((mm 48 3) - 1)) 48 2) + ((mset mm 48 3 ((mm 48 3) - 1)) 48 3)) / 12 * 12)), (0, .ref 48), (1, .ref 22)] rfl (i := 2) (by decide) rfl dX3_stepBack_30 ?_
    refine J_aload_n rfl (i := 0) rfl dX3_stepBack_31 ?_
    refine J_getr kls_3 (q := 48) (k := 0) sh_48 (by decide) rfl gw_415 dX3_stepBack_32 ?_
    refine J_iload_n rfl (i := 2) rfl dX3_stepBack_35 ?_
    obtain ⟨j1, ej1, hj1, hw⟩ := hw
    refine J_iald sh_49 ej1 hj1 (by decide) dX3_stepBack_36 ?_
    refine J_istore_n [(3, .int ((mset mm 48 3 ((mm 48 3) - 1)) 49 j1)), (2, .int ((((mset mm 48 3 ((mm 48 3) - 1)) 48 2) + ((mset mm 48 3 ((mm 48 3) - 1)) 48 3)) - (((mset mm 48 3 ((mm 48 3) - 1)) 48 2) + ((mset mm 48 3 ((mm 48 3) - 1)) 48 3)) / 12 * 12)), (0, .ref 48), (1, .ref 22)] rfl (i := 3) (by decide) rfl dX3_stepBack_37 ?_
    refine J_iload_n rfl (i := 3) rfl dX3_stepBack_38 ?_
    refine J_if_lt (tgt := 60) dX3_stepBack_39 (by decide) (fun hb8 => ?_) (fun hb8 => ?_)
    · replace hw := hw.1 hb8
      exact J_finv rfl dX3_stepBack_60 hw
    · replace hw := hw.2 hb8
      refine J_iload_n rfl (i := 3) rfl dX3_stepBack_42 ?_
      refine J_aload_n rfl (i := 1) rfl dX3_stepBack_43 ?_
      refine J_alenr (v := 8) sh_22 rfl (by decide) dX3_stepBack_44 ?_
      refine J_icmp_ge (tgt := 60) dX3_stepBack_45 (by decide) (fun hb7 => ?_) (fun hb7 => ?_)
      · replace hw := hw.1 hb7
        exact J_finv rfl dX3_stepBack_60 hw
      · replace hw := hw.2 hb7
        refine J_aload_n rfl (i := 1) rfl dX3_stepBack_48 ?_
        refine J_iload_n rfl (i := 3) rfl dX3_stepBack_49 ?_
        obtain ⟨j2, ej2, hj2, hw⟩ := hw
        refine J_aald (r := 23 + j2) sh_22 ej2 hj2 (by decide) (if_pos hj2) dX3_stepBack_50 ?_
        refine J_aload_n rfl (i := 0) rfl dX3_stepBack_51 ?_
        refine J_getr kls_3 (q := 48) (k := 1) sh_48 (by decide) rfl gw_416 dX3_stepBack_52 ?_
        refine J_iload_n rfl (i := 2) rfl dX3_stepBack_55 ?_
        obtain ⟨j3, ej3, hj3, hw⟩ := hw
        refine J_aald (r := 51 + j3) sh_50 ej3 hj3 (by decide) (if_pos hj3) dX3_stepBack_56 ?_
        obtain ⟨m6, hc4, hw⟩ := hw
        refine J_callV (as := [.ref (51 + j3)]) (k := (23 + j2)) (st := []) cal_X0_copyFrom cai_X0_copyFrom gw_785 ⟨by decide, by decide⟩ cnt_X0_copyFrom (sh_b23 hj2) rfl rfl (Nat.le_of_ble_eq_true rfl) dX3_stepBack_57 (Nat.zero_add _).symm (Nat.zero_add _).symm hc4 ?_
        exact J_finv rfl dX3_stepBack_60 hw
  · replace hw := hw.2 hb9
    exact J_finv rfl dX3_stepBack_7 hw
