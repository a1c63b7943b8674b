/-! ===== decode rows and walks between cut points, by program (wip/gen/mk10.py) ===== -/
theorem dX10_setChime_0 : decode cX10_setChime 0 = .ok (.aload_n 0, 1) := by decide +kernel
theorem dX10_setChime_1 : decode cX10_setChime 1 = .ok (.aload_n 0, 1) := by decide +kernel
theorem dX10_setChime_2 : decode cX10_setChime 2 = .ok (.iload_n 1, 1) := by decide +kernel
theorem dX10_setChime_3 : decode cX10_setChime 3 = .ok (.invokevirtual 235, 3) := by decide +kernel
theorem dX10_setChime_6 : decode cX10_setChime 6 = .ok (.ifCond .eq 31, 3) := by decide +kernel
theorem dX10_setChime_9 : decode cX10_setChime 9 = .ok (.iload_n 2, 1) := by decide +kernel
theorem dX10_setChime_10 : decode cX10_setChime 10 = .ok (.i2l, 1) := by decide +kernel
theorem dX10_setChime_11 : decode cX10_setChime 11 = .ok (.lconst 0, 1) := by decide +kernel
theorem dX10_setChime_12 : decode cX10_setChime 12 = .ok (.ldc2_w 360, 3) := by decide +kernel
theorem dX10_setChime_15 : decode cX10_setChime 15 = .ok (.invokestatic 91, 3) := by decide +kernel
theorem dX10_setChime_18 : decode cX10_setChime 18 = .ok (.ifCond .eq 19, 3) := by decide +kernel
theorem dX10_setChime_21 : decode cX10_setChime 21 = .ok (.iload_n 3, 1) := by decide +kernel
theorem dX10_setChime_22 : decode cX10_setChime 22 = .ok (.i2l, 1) := by decide +kernel
theorem dX10_setChime_23 : decode cX10_setChime 23 = .ok (.lconst 1, 1) := by decide +kernel
theorem dX10_setChime_24 : decode cX10_setChime 24 = .ok (.ldc2_w 362, 3) := by decide +kernel
theorem dX10_setChime_27 : decode cX10_setChime 27 = .ok (.invokestatic 91, 3) := by decide +kernel
theorem dX10_setChime_30 : decode cX10_setChime 30 = .ok (.ifCond .eq 7, 3) := by decide +kernel
theorem dX10_setChime_33 : decode cX10_setChime 33 = .ok (.iconst 1, 1) := by decide +kernel
theorem dX10_setChime_34 : decode cX10_setChime 34 = .ok (.goto 4, 3) := by decide +kernel
theorem dX10_setChime_37 : decode cX10_setChime 37 = .ok (.iconst 0, 1) := by decide +kernel
theorem dX10_setChime_38 : decode cX10_setChime 38 = .ok (.invokevirtual 221, 3) := by decide +kernel
theorem dX10_setChime_41 : decode cX10_setChime 41 = .ok (.ifCond .eq 5, 3) := by decide +kernel
theorem dX10_setChime_44 : decode cX10_setChime 44 = .ok (.iconst 0, 1) := by decide +kernel
theorem dX10_setChime_45 : decode cX10_setChime 45 = .ok (.ireturn, 1) := by decide +kernel
theorem dX10_setChime_46 : decode cX10_setChime 46 = .ok (.aload_n 0, 1) := by decide +kernel
theorem dX10_setChime_47 : decode cX10_setChime 47 = .ok (.invokevirtual 257, 3) := by decide +kernel
theorem dX10_setChime_50 : decode cX10_setChime 50 = .ok (.aload_n 0, 1) := by decide +kernel
theorem dX10_setChime_51 : decode cX10_setChime 51 = .ok (.iload_n 1, 1) := by decide +kernel
theorem dX10_setChime_52 : decode cX10_setChime 52 = .ok (.bipush 6, 2) := by decide +kernel
theorem dX10_setChime_54 : decode cX10_setChime 54 = .ok (.iload_n 2, 1) := by decide +kernel
theorem dX10_setChime_55 : decode cX10_setChime 55 = .ok (.invokevirtual 260, 3) := by decide +kernel
theorem dX10_setChime_58 : decode cX10_setChime 58 = .ok (.aload_n 0, 1) := by decide +kernel
theorem dX10_setChime_59 : decode cX10_setChime 59 = .ok (.iload_n 1, 1) := by decide +kernel
theorem dX10_setChime_60 : decode cX10_setChime 60 = .ok (.bipush 7, 2) := by decide +kernel
theorem dX10_setChime_62 : decode cX10_setChime 62 = .ok (.iload_n 3, 1) := by decide +kernel
theorem dX10_setChime_63 : decode cX10_setChime 63 = .ok (.invokevirtual 260, 3) := by decide +kernel
theorem dX10_setChime_66 : decode cX10_setChime 66 = .ok (.iconst 1, 1) := by decide +kernel
theorem dX10_setChime_67 : decode cX10_setChime 67 = .ok (.sipush 1439, 3) := by decide +kernel
theorem dX10_setChime_70 : decode cX10_setChime 70 = .ok (.iload_n 2, 1) := by decide +kernel
theorem dX10_setChime_71 : decode cX10_setChime 71 = .ok (.isub, 1) := by decide +kernel
theorem dX10_setChime_72 : decode cX10_setChime 72 = .ok (.iload_n 3, 1) := by decide +kernel
theorem dX10_setChime_73 : decode cX10_setChime 73 = .ok (.idiv, 1) := by decide +kernel
theorem dX10_setChime_74 : decode cX10_setChime 74 = .ok (.iadd, 1) := by decide +kernel
theorem dX10_setChime_75 : decode cX10_setChime 75 = .ok (.ireturn, 1) := by decide +kernel
set_option maxRecDepth 20000 in
theorem bX10_setChime_0 {G : Gx} {mm : Nat → Nat → Int32} {lm : Nat → Int64} {x1 : Int32} {x2 : Int32} {x3 : Int32} {o : Ou} {z : Wd} {a b : Nat} (hw : ∃ (v2 : Int32), Ct G M_X10_isBell [.ref 63, .int x1] (SH, mm, lm) false (.inl (some (.int v2))) (SH, mm, lm) false 0 0 ∧ ((v2 = 0) → ∃ (v5 : Int32) (m6 : Nat → Nat → Int32), Ct G M_X10_isWrong [.ref 63, .int 0] (SH, mm, lm) false (.inl (some (.int v5))) (SH, m6, lm) false 0 0 ∧ ((v5 = 0) → J G M_X10_setChime 46 [(0, .ref 63), (1, .int x1), (2, .int x2), (3, .int x3)] [] (SH, m6, lm) false o z false a b) ∧ ((¬ v5 = 0) → o = .inl (some (.int 0)) ∧ z = (SH, m6, lm))) ∧ ((¬ v2 = 0) → ∃ (v9 : Int32), Ct G M_X10_isIn [.long (Int32.toInt64 x2), .long 0, .long 1439] (SH, mm, lm) false (.inl (some (.int v9))) (SH, mm, lm) false 0 0 ∧ ((v9 = 0) → ∃ (v12 : Int32) (m13 : Nat → Nat → Int32), Ct G M_X10_isWrong [.ref 63, .int 0] (SH, mm, lm) false (.inl (some (.int v12))) (SH, m13, lm) false 0 0 ∧ ((v12 = 0) → J G M_X10_setChime 46 [(0, .ref 63), (1, .int x1), (2, .int x2), (3, .int x3)] [] (SH, m13, lm) false o z false a b) ∧ ((¬ v12 = 0) → o = .inl (some (.int 0)) ∧ z = (SH, m13, lm))) ∧ ((¬ v9 = 0) → ∃ (v16 : Int32), Ct G M_X10_isIn [.long (Int32.toInt64 x3), .long 1, .long 1440] (SH, mm, lm) false (.inl (some (.int v16))) (SH, mm, lm) false 0 0 ∧ ((v16 = 0) → ∃ (v19 : Int32) (m20 : Nat → Nat → Int32), Ct G M_X10_isWrong [.ref 63, .int 0] (SH, mm, lm) false (.inl (some (.int v19))) (SH, m20, lm) false 0 0 ∧ ((v19 = 0) → J G M_X10_setChime 46 [(0, .ref 63), (1, .int x1), (2, .int x2), (3, .int x3)] [] (SH, m20, lm) false o z false a b) ∧ ((¬ v19 = 0) → o = .inl (some (.int 0)) ∧ z = (SH, m20, lm))) ∧ ((¬ v16 = 0) → ∃ (v23 : Int32) (m24 : Nat → Nat → Int32), Ct G M_X10_isWrong [.ref 63, .int 1] (SH, mm, lm) false (.inl (some (.int v23))) (SH, m24, lm) false 0 0 ∧ ((v23 = 0) → J G M_X10_setChime 46 [(0, .ref 63), (1, .int x1), (2, .int x2), (3, .int x3)] [] (SH, m24, lm) false o z false a b) ∧ ((¬ v23 = 0) → o = .inl (some (.int 0)) ∧ z = (SH, m24, lm)))))) :
    J G M_X10_setChime 0 [(0, .ref 63), (1, .int x1), (2, .int x2), (3, .int x3)] [] (SH, mm, lm) false o z false a b := by
  refine J_aload_n rfl (i := 0) rfl dX10_setChime_0 ?_
  refine J_aload_n rfl (i := 0) rfl dX10_setChime_1 ?_
  refine J_iload_n rfl (i := 1) rfl dX10_setChime_2 ?_
  obtain ⟨v2, hc1, hw⟩ := hw
  refine J_callV (as := [.int x1]) (k := 63) (st := [.ref 63]) cal_X10_isBell cai_X10_isBell gw_1671 ⟨by decide, by decide⟩ cnt_X10_isBell sh_63 rfl rfl (Nat.le_of_ble_eq_true rfl) dX10_setChime_3 (Nat.zero_add _).symm (Nat.zero_add _).symm hc1 ?_
  refine J_if_eq (tgt := 37) dX10_setChime_6 (by decide) (fun hb28 => ?_) (fun hb28 => ?_)
  · replace hw := hw.1 hb28
    refine J_iconst (v := 0) (by decide) dX10_setChime_37 ?_
    obtain ⟨v5, m6, hc4, hw⟩ := hw
    refine J_callV (as := [.int 0]) (k := 63) (st := []) cal_X10_isWrong cai_X10_isWrong gw_1663 ⟨by decide, by decide⟩ cnt_X10_isWrong sh_63 rfl rfl (Nat.le_of_ble_eq_true rfl) dX10_setChime_38 (Nat.zero_add _).symm (Nat.zero_add _).symm hc4 ?_
    refine J_if_eq (tgt := 46) dX10_setChime_41 (by decide) (fun hb7 => ?_) (fun hb7 => ?_)
    · replace hw := hw.1 hb7
      exact hw
    · replace hw := hw.2 hb7
      refine J_iconst (v := 0) (by decide) dX10_setChime_44 ?_
      exact J_fini (ty := .int) rfl rfl dX10_setChime_45 hw
  · replace hw := hw.2 hb28
    refine J_iload_n rfl (i := 2) rfl dX10_setChime_9 ?_
    refine J_i2l dX10_setChime_10 ?_
    refine J_lconst (v := 0) (by decide) dX10_setChime_11 ?_
    refine J_ldc2 gw_1939 dX10_setChime_12 ?_
    obtain ⟨v9, hc8, hw⟩ := hw
    refine J_callS (as := [.long (Int32.toInt64 x2), .long 0, .long 1439]) (st := [.ref 63]) cal_X10_isIn cas_X10_isIn gw_1573 ⟨by decide, by decide⟩ cnt_X10_isIn rfl (Nat.le_of_ble_eq_true rfl) dX10_setChime_15 (Nat.zero_add _).symm (Nat.zero_add _).symm hc8 ?_
    refine J_if_eq (tgt := 37) dX10_setChime_18 (by decide) (fun hb27 => ?_) (fun hb27 => ?_)
    · replace hw := hw.1 hb27
      refine J_iconst (v := 0) (by decide) dX10_setChime_37 ?_
      obtain ⟨v12, m13, hc11, hw⟩ := hw
      refine J_callV (as := [.int 0]) (k := 63) (st := []) cal_X10_isWrong cai_X10_isWrong gw_1663 ⟨by decide, by decide⟩ cnt_X10_isWrong sh_63 rfl rfl (Nat.le_of_ble_eq_true rfl) dX10_setChime_38 (Nat.zero_add _).symm (Nat.zero_add _).symm hc11 ?_
      refine J_if_eq (tgt := 46) dX10_setChime_41 (by decide) (fun hb14 => ?_) (fun hb14 => ?_)
      · replace hw := hw.1 hb14
        exact hw
      · replace hw := hw.2 hb14
        refine J_iconst (v := 0) (by decide) dX10_setChime_44 ?_
        exact J_fini (ty := .int) rfl rfl dX10_setChime_45 hw
    · replace hw := hw.2 hb27
      refine J_iload_n rfl (i := 3) rfl dX10_setChime_21 ?_
      refine J_i2l dX10_setChime_22 ?_
      refine J_lconst (v := 1) (by decide) dX10_setChime_23 ?_
      refine J_ldc2 gw_1940 dX10_setChime_24 ?_
      obtain ⟨v16, hc15, hw⟩ := hw
      refine J_callS (as := [.long (Int32.toInt64 x3), .long 1, .long 1440]) (st := [.ref 63]) cal_X10_isIn cas_X10_isIn gw_1573 ⟨by decide, by decide⟩ cnt_X10_isIn rfl (Nat.le_of_ble_eq_true rfl) dX10_setChime_27 (Nat.zero_add _).symm (Nat.zero_add _).symm hc15 ?_
      refine J_if_eq (tgt := 37) dX10_setChime_30 (by decide) (fun hb26 => ?_) (fun hb26 => ?_)
      · replace hw := hw.1 hb26
        refine J_iconst (v := 0) (by decide) dX10_setChime_37 ?_
        obtain ⟨v19, m20, hc18, hw⟩ := hw
        refine J_callV (as := [.int 0]) (k := 63) (st := []) cal_X10_isWrong cai_X10_isWrong gw_1663 ⟨by decide, by decide⟩ cnt_X10_isWrong sh_63 rfl rfl (Nat.le_of_ble_eq_true rfl) dX10_setChime_38 (Nat.zero_add _).symm (Nat.zero_add _).symm hc18 ?_
        refine J_if_eq (tgt := 46) dX10_setChime_41 (by decide) (fun hb21 => ?_) (fun hb21 => ?_)
        · replace hw := hw.1 hb21
          exact hw
        · replace hw := hw.2 hb21
          refine J_iconst (v := 0) (by decide) dX10_setChime_44 ?_
          exact J_fini (ty := .int) rfl rfl dX10_setChime_45 hw
      · replace hw := hw.2 hb26
        refine J_iconst (v := 1) (by decide) dX10_setChime_33 ?_
        refine J_goto (tgt := 38) dX10_setChime_34 (by decide) ?_
        obtain ⟨v23, m24, hc22, hw⟩ := hw
        refine J_callV (as := [.int 1]) (k := 63) (st := []) cal_X10_isWrong cai_X10_isWrong gw_1663 ⟨by decide, by decide⟩ cnt_X10_isWrong sh_63 rfl rfl (Nat.le_of_ble_eq_true rfl) dX10_setChime_38 (Nat.zero_add _).symm (Nat.zero_add _).symm hc22 ?_
        refine J_if_eq (tgt := 46) dX10_setChime_41 (by decide) (fun hb25 => ?_) (fun hb25 => ?_)
        · replace hw := hw.1 hb25
          exact hw
        · replace hw := hw.2 hb25
          refine J_iconst (v := 0) (by decide) dX10_setChime_44 ?_
          exact J_fini (ty := .int) rfl rfl dX10_setChime_45 hw
set_option maxRecDepth 20000 in
theorem bX10_setChime_46 {G : Gx} {mm : Nat → Nat → Int32} {lm : Nat → Int64} {x1 : Int32} {x2 : Int32} {x3 : Int32} {o : Ou} {z : Wd} {a b : Nat} (hw : ∃ (m3 : Nat → Nat → Int32), Ct G M_X10_remember [.ref 63] (SH, mm, lm) false (.inl none) (SH, m3, lm) false 0 0 ∧ ∃ (m6 : Nat → Nat → Int32), Ct G M_X10_set [.ref 63, .int x1, .int 6, .int x2] (SH, m3, lm) false (.inl none) (SH, m6, lm) false 0 0 ∧ ∃ (m9 : Nat → Nat → Int32), Ct G M_X10_set [.ref 63, .int x1, .int 7, .int x3] (SH, m6, lm) false (.inl none) (SH, m9, lm) false 0 0 ∧ ¬ x3 = 0 ∧ o = .inl (some (.int (1 + ((1439 - x2) / x3)))) ∧ z = (SH, m9, lm)) :
    J G M_X10_setChime 46 [(0, .ref 63), (1, .int x1), (2, .int x2), (3, .int x3)] [] (SH, mm, lm) false o z false a b := by
  refine J_aload_n rfl (i := 0) rfl dX10_setChime_46 ?_
  obtain ⟨m3, hc1, hw⟩ := hw
  refine J_callV (as := []) (k := 63) (st := []) cal_X10_remember cai_X10_remember gw_1707 ⟨by decide, by decide⟩ cnt_X10_remember sh_63 rfl rfl (Nat.le_of_ble_eq_true rfl) dX10_setChime_47 (Nat.zero_add _).symm (Nat.zero_add _).symm hc1 ?_
  refine J_aload_n rfl (i := 0) rfl dX10_setChime_50 ?_
  refine J_iload_n rfl (i := 1) rfl dX10_setChime_51 ?_
  refine J_bipush (v := 6) (by decide) dX10_setChime_52 ?_
  refine J_iload_n rfl (i := 2) rfl dX10_setChime_54 ?_
  obtain ⟨m6, hc4, hw⟩ := hw
  refine J_callV (as := [.int x1, .int 6, .int x2]) (k := 63) (st := []) cal_X10_set cai_X10_set gw_1711 ⟨by decide, by decide⟩ cnt_X10_set sh_63 rfl rfl (Nat.le_of_ble_eq_true rfl) dX10_setChime_55 (Nat.zero_add _).symm (Nat.zero_add _).symm hc4 ?_
  refine J_aload_n rfl (i := 0) rfl dX10_setChime_58 ?_
  refine J_iload_n rfl (i := 1) rfl dX10_setChime_59 ?_
  refine J_bipush (v := 7) (by decide) dX10_setChime_60 ?_
  refine J_iload_n rfl (i := 3) rfl dX10_setChime_62 ?_
  obtain ⟨m9, hc7, hw⟩ := hw
  refine J_callV (as := [.int x1, .int 7, .int x3]) (k := 63) (st := []) cal_X10_set cai_X10_set gw_1711 ⟨by decide, by decide⟩ cnt_X10_set sh_63 rfl rfl (Nat.le_of_ble_eq_true rfl) dX10_setChime_63 (Nat.zero_add _).symm (Nat.zero_add _).symm hc7 ?_
  refine J_iconst (v := 1) (by decide) dX10_setChime_66 ?_
  refine J_sipush (v := 1439) (by decide) dX10_setChime_67 ?_
  refine J_iload_n rfl (i := 2) rfl dX10_setChime_70 ?_
  refine J_isub dX10_setChime_71 ?_
  refine J_iload_n rfl (i := 3) rfl dX10_setChime_72 ?_
  obtain ⟨hz10, hw⟩ := hw
  refine J_idiv hz10 dX10_setChime_73 ?_
  refine J_iadd dX10_setChime_74 ?_
  exact J_fini (ty := .int) rfl rfl dX10_setChime_75 hw
theorem dX10_clearChime_0 : decode cX10_clearChime 0 = .ok (.aload_n 0, 1) := by decide +kernel
theorem dX10_clearChime_1 : decode cX10_clearChime 1 = .ok (.aload_n 0, 1) := by decide +kernel
theorem dX10_clearChime_2 : decode cX10_clearChime 2 = .ok (.iload_n 1, 1) := by decide +kernel
theorem dX10_clearChime_3 : decode cX10_clearChime 3 = .ok (.invokevirtual 235, 3) := by decide +kernel
theorem dX10_clearChime_6 : decode cX10_clearChime 6 = .ok (.invokevirtual 221, 3) := by decide +kernel
theorem dX10_clearChime_9 : decode cX10_clearChime 9 = .ok (.ifCond .eq 5, 3) := by decide +kernel
theorem dX10_clearChime_12 : decode cX10_clearChime 12 = .ok (.iconst 0, 1) := by decide +kernel
theorem dX10_clearChime_13 : decode cX10_clearChime 13 = .ok (.ireturn, 1) := by decide +kernel
theorem dX10_clearChime_14 : decode cX10_clearChime 14 = .ok (.aload_n 0, 1) := by decide +kernel
theorem dX10_clearChime_15 : decode cX10_clearChime 15 = .ok (.iload_n 1, 1) := by decide +kernel
theorem dX10_clearChime_16 : decode cX10_clearChime 16 = .ok (.invokevirtual 364, 3) := by decide +kernel
theorem dX10_clearChime_19 : decode cX10_clearChime 19 = .ok (.ifCond .ne 6, 3) := by decide +kernel
theorem dX10_clearChime_22 : decode cX10_clearChime 22 = .ok (.bipush (-2), 2) := by decide +kernel
theorem dX10_clearChime_24 : decode cX10_clearChime 24 = .ok (.ireturn, 1) := by decide +kernel
theorem dX10_clearChime_25 : decode cX10_clearChime 25 = .ok (.aload_n 0, 1) := by decide +kernel
theorem dX10_clearChime_26 : decode cX10_clearChime 26 = .ok (.invokevirtual 257, 3) := by decide +kernel
theorem dX10_clearChime_29 : decode cX10_clearChime 29 = .ok (.aload_n 0, 1) := by decide +kernel
theorem dX10_clearChime_30 : decode cX10_clearChime 30 = .ok (.iload_n 1, 1) := by decide +kernel
theorem dX10_clearChime_31 : decode cX10_clearChime 31 = .ok (.bipush 7, 2) := by decide +kernel
theorem dX10_clearChime_33 : decode cX10_clearChime 33 = .ok (.iconst (-1), 1) := by decide +kernel
theorem dX10_clearChime_34 : decode cX10_clearChime 34 = .ok (.invokevirtual 260, 3) := by decide +kernel
theorem dX10_clearChime_37 : decode cX10_clearChime 37 = .ok (.iconst 0, 1) := by decide +kernel
theorem dX10_clearChime_38 : decode cX10_clearChime 38 = .ok (.istore_n 2, 1) := by decide +kernel
theorem dX10_clearChime_39 : decode cX10_clearChime 39 = .ok (.iconst 0, 1) := by decide +kernel
theorem dX10_clearChime_40 : decode cX10_clearChime 40 = .ok (.istore_n 3, 1) := by decide +kernel
theorem dX10_clearChime_41 : decode cX10_clearChime 41 = .ok (.iload_n 3, 1) := by decide +kernel
theorem dX10_clearChime_42 : decode cX10_clearChime 42 = .ok (.aload_n 0, 1) := by decide +kernel
theorem dX10_clearChime_43 : decode cX10_clearChime 43 = .ok (.getfield 206, 3) := by decide +kernel
theorem dX10_clearChime_46 : decode cX10_clearChime 46 = .ok (.if_icmp .ge 25, 3) := by decide +kernel
theorem dX10_clearChime_49 : decode cX10_clearChime 49 = .ok (.iload_n 2, 1) := by decide +kernel
theorem dX10_clearChime_50 : decode cX10_clearChime 50 = .ok (.aload_n 0, 1) := by decide +kernel
theorem dX10_clearChime_51 : decode cX10_clearChime 51 = .ok (.iload_n 3, 1) := by decide +kernel
theorem dX10_clearChime_52 : decode cX10_clearChime 52 = .ok (.invokevirtual 364, 3) := by decide +kernel
theorem dX10_clearChime_55 : decode cX10_clearChime 55 = .ok (.ifCond .eq 7, 3) := by decide +kernel
theorem dX10_clearChime_58 : decode cX10_clearChime 58 = .ok (.iconst 1, 1) := by decide +kernel
theorem dX10_clearChime_59 : decode cX10_clearChime 59 = .ok (.goto 4, 3) := by decide +kernel
theorem dX10_clearChime_62 : decode cX10_clearChime 62 = .ok (.iconst 0, 1) := by decide +kernel
theorem dX10_clearChime_63 : decode cX10_clearChime 63 = .ok (.iadd, 1) := by decide +kernel
theorem dX10_clearChime_64 : decode cX10_clearChime 64 = .ok (.istore_n 2, 1) := by decide +kernel
theorem dX10_clearChime_65 : decode cX10_clearChime 65 = .ok (.iinc 3 1, 3) := by decide +kernel
theorem dX10_clearChime_68 : decode cX10_clearChime 68 = .ok (.goto (-27), 3) := by decide +kernel
theorem dX10_clearChime_71 : decode cX10_clearChime 71 = .ok (.iload_n 2, 1) := by decide +kernel
theorem dX10_clearChime_72 : decode cX10_clearChime 72 = .ok (.ireturn, 1) := by decide +kernel
set_option maxRecDepth 20000 in
theorem bX10_clearChime_0 {G : Gx} {mm : Nat → Nat → Int32} {lm : Nat → Int64} {x1 : Int32} {o : Ou} {z : Wd} {a b : Nat} (hw : ∃ (v2 : Int32), Ct G M_X10_isBell [.ref 63, .int x1] (SH, mm, lm) false (.inl (some (.int v2))) (SH, mm, lm) false 0 0 ∧ ∃ (v5 : Int32) (m6 : Nat → Nat → Int32), Ct G M_X10_isWrong [.ref 63, .int v2] (SH, mm, lm) false (.inl (some (.int v5))) (SH, m6, lm) false 0 0 ∧ ((v5 = 0) → J G M_X10_clearChime 14 [(0, .ref 63), (1, .int x1)] [] (SH, m6, lm) false o z false a b) ∧ ((¬ v5 = 0) → o = .inl (some (.int 0)) ∧ z = (SH, m6, lm))) :
    J G M_X10_clearChime 0 [(0, .ref 63), (1, .int x1)] [] (SH, mm, lm) false o z false a b := by
  refine J_aload_n rfl (i := 0) rfl dX10_clearChime_0 ?_
  refine J_aload_n rfl (i := 0) rfl dX10_clearChime_1 ?_
  refine J_iload_n rfl (i := 1) rfl dX10_clearChime_2 ?_
  obtain ⟨v2, hc1, hw⟩ := hw
  refine J_callV (as := [.int x1]) (k := 63) (st := [.ref 63]) cal_X10_isBell cai_X10_isBell gw_1671 ⟨by decide, by decide⟩ cnt_X10_isBell sh_63 rfl rfl (Nat.le_of_ble_eq_true rfl) dX10_clearChime_3 (Nat.zero_add _).symm (Nat.zero_add _).symm hc1 ?_
  obtain ⟨v5, m6, hc4, hw⟩ := hw
  refine J_callV (as := [.int v2]) (k := 63) (st := []) cal_X10_isWrong cai_X10_isWrong gw_1663 ⟨by decide, by decide⟩ cnt_X10_isWrong sh_63 rfl rfl (Nat.le_of_ble_eq_true rfl) dX10_clearChime_6 (Nat.zero_add _).symm (Nat.zero_add _).symm hc4 ?_
  refine J_if_eq (tgt := 14) dX10_clearChime_9 (by decide) (fun hb7 => ?_) (fun hb7 => ?_)
  · replace hw := hw.1 hb7
    exact hw
  · replace hw := hw.2 hb7
    refine J_iconst (v := 0) (by decide) dX10_clearChime_12 ?_
    exact J_fini (ty := .int) rfl rfl dX10_clearChime_13 hw
set_option maxRecDepth 20000 in
theorem bX10_clearChime_14 {G : Gx} {mm : Nat → Nat → Int32} {lm : Nat → Int64} {x1 : Int32} {o : Ou} {z : Wd} {a b : Nat} (hw : ∃ (v2 : Int32), Ct G M_X10_chimes [.ref 63, .int x1] (SH, mm, lm) false (.inl (some (.int v2))) (SH, mm, lm) false 0 0 ∧ ((¬ v2 = 0) → ∃ (m6 : Nat → Nat → Int32), Ct G M_X10_remember [.ref 63] (SH, mm, lm) false (.inl none) (SH, m6, lm) false 0 0 ∧ ∃ (m9 : Nat → Nat → Int32), Ct G M_X10_set [.ref 63, .int x1, .int 7, .int (-1)] (SH, m6, lm) false (.inl none) (SH, m9, lm) false 0 0 ∧ J G M_X10_clearChime 41 [(0, .ref 63), (2, .int 0), (3, .int 0)] [] (SH, m9, lm) false o z false a b) ∧ ((v2 = 0) → o = .inl (some (.int (-2))) ∧ z = (SH, mm, lm))) :
    J G M_X10_clearChime 14 [(0, .ref 63), (1, .int x1)] [] (SH, mm, lm) false o z false a b := by
  refine J_aload_n rfl (i := 0) rfl dX10_clearChime_14 ?_
  refine J_iload_n rfl (i := 1) rfl dX10_clearChime_15 ?_
  obtain ⟨v2, hc1, hw⟩ := hw
  refine J_callV (as := [.int x1]) (k := 63) (st := []) cal_X10_chimes cai_X10_chimes gw_1945 ⟨by decide, by decide⟩ cnt_X10_chimes sh_63 rfl rfl (Nat.le_of_ble_eq_true rfl) dX10_clearChime_16 (Nat.zero_add _).symm (Nat.zero_add _).symm hc1 ?_
  refine J_if_ne (tgt := 25) dX10_clearChime_19 (by decide) (fun hb10 => ?_) (fun hb10 => ?_)
  · replace hw := hw.1 hb10
    refine J_aload_n rfl (i := 0) rfl dX10_clearChime_25 ?_
    obtain ⟨m6, hc4, hw⟩ := hw
    refine J_callV (as := []) (k := 63) (st := []) cal_X10_remember cai_X10_remember gw_1707 ⟨by decide, by decide⟩ cnt_X10_remember sh_63 rfl rfl (Nat.le_of_ble_eq_true rfl) dX10_clearChime_26 (Nat.zero_add _).symm (Nat.zero_add _).symm hc4 ?_
    refine J_aload_n rfl (i := 0) rfl dX10_clearChime_29 ?_
    refine J_iload_n rfl (i := 1) rfl dX10_clearChime_30 ?_
    refine J_bipush (v := 7) (by decide) dX10_clearChime_31 ?_
    refine J_iconst (v := (-1)) (by decide) dX10_clearChime_33 ?_
    obtain ⟨m9, hc7, hw⟩ := hw
    refine J_callV (as := [.int x1, .int 7, .int (-1)]) (k := 63) (st := []) cal_X10_set cai_X10_set gw_1711 ⟨by decide, by decide⟩ cnt_X10_set sh_63 rfl rfl (Nat.le_of_ble_eq_true rfl) dX10_clearChime_34 (Nat.zero_add _).symm (Nat.zero_add _).symm hc7 ?_
    refine J_iconst (v := 0) (by decide) dX10_clearChime_37 ?_
    refine J_istore_n [(2, .int 0), (0, .ref 63), (1, .int x1)] rfl (i := 2) (by decide) rfl dX10_clearChime_38 ?_
    refine J_iconst (v := 0) (by decide) dX10_clearChime_39 ?_
    refine J_istore_n [(3, .int 0), (2, .int 0), (0, .ref 63), (1, .int x1)] rfl (i := 3) (by decide) rfl dX10_clearChime_40 ?_
    exact J_sub [2, 1, 0] rfl hw
  · replace hw := hw.2 hb10
    refine J_bipush (v := (-2)) (by decide) dX10_clearChime_22 ?_
    exact J_fini (ty := .int) rfl rfl dX10_clearChime_24 hw
set_option maxRecDepth 20000 in
theorem bX10_clearChime_41 {G : Gx} {mm : Nat → Nat → Int32} {lm : Nat → Int64} {x2 : Int32} {x3 : Int32} {o : Ou} {z : Wd} {a b : Nat} (hw : (((mm 63 8) ≤ x3) → o = .inl (some (.int x2)) ∧ z = (SH, mm, lm)) ∧ ((¬ (mm 63 8) ≤ x3) → ∃ (v2 : Int32), Ct G M_X10_chimes [.ref 63, .int x3] (SH, mm, lm) false (.inl (some (.int v2))) (SH, mm, lm) false 0 0 ∧ ((v2 = 0) → J G M_X10_clearChime 41 [(0, .ref 63), (2, .int (x2 + 0)), (3, .int (x3 + 1))] [] (SH, mm, lm) false o z false a b) ∧ ((¬ v2 = 0) → J G M_X10_clearChime 41 [(0, .ref 63), (2, .int (x2 + 1)), (3, .int (x3 + 1))] [] (SH, mm, lm) false o z false a b))) :
    J G M_X10_clearChime 41 [(0, .ref 63), (2, .int x2), (3, .int x3)] [] (SH, mm, lm) false o z false a b := by
  refine J_iload_n rfl (i := 3) rfl dX10_clearChime_41 ?_
  refine J_aload_n rfl (i := 0) rfl dX10_clearChime_42 ?_
  refine J_geti kls_10 (q := 63) (k := 8) sh_63 (by decide) rfl gw_1441 dX10_clearChime_43 ?_
  refine J_icmp_ge (tgt := 71) dX10_clearChime_46 (by decide) (fun hb5 => ?_) (fun hb5 => ?_)
  · replace hw := hw.1 hb5
    refine J_iload_n rfl (i := 2) rfl dX10_clearChime_71 ?_
    exact J_fini (ty := .int) rfl rfl dX10_clearChime_72 hw
  · replace hw := hw.2 hb5
    refine J_iload_n rfl (i := 2) rfl dX10_clearChime_49 ?_
    refine J_aload_n rfl (i := 0) rfl dX10_clearChime_50 ?_
    refine J_iload_n rfl (i := 3) rfl dX10_clearChime_51 ?_
    obtain ⟨v2, hc1, hw⟩ := hw
    refine J_callV (as := [.int x3]) (k := 63) (st := [.int x2]) cal_X10_chimes cai_X10_chimes gw_1945 ⟨by decide, by decide⟩ cnt_X10_chimes sh_63 rfl rfl (Nat.le_of_ble_eq_true rfl) dX10_clearChime_52 (Nat.zero_add _).symm (Nat.zero_add _).symm hc1 ?_
    refine J_if_eq (tgt := 62) dX10_clearChime_55 (by decide) (fun hb4 => ?_) (fun hb4 => ?_)
    · replace hw := hw.1 hb4
      refine J_iconst (v := 0) (by decide) dX10_clearChime_62 ?_
      refine J_iadd dX10_clearChime_63 ?_
      refine J_istore_n [(2, .int (x2 + 0)), (0, .ref 63), (3, .int x3)] rfl (i := 2) (by decide) rfl dX10_clearChime_64 ?_
      refine J_iinc [(3, .int (x3 + 1)), (2, .int (x2 + 0)), (0, .ref 63)] (i := 3) (v := (x3 + 1)) rfl rfl (by decide) rfl dX10_clearChime_65 ?_
      refine J_goto (tgt := 41) dX10_clearChime_68 (by decide) ?_
      exact J_sub [2, 1, 0] rfl hw
    · replace hw := hw.2 hb4
      refine J_iconst (v := 1) (by decide) dX10_clearChime_58 ?_
      refine J_goto (tgt := 63) dX10_clearChime_59 (by decide) ?_
      refine J_iadd dX10_clearChime_63 ?_
      refine J_istore_n [(2, .int (x2 + 1)), (0, .ref 63), (3, .int x3)] rfl (i := 2) (by decide) rfl dX10_clearChime_64 ?_
      refine J_iinc [(3, .int (x3 + 1)), (2, .int (x2 + 1)), (0, .ref 63)] (i := 3) (v := (x3 + 1)) rfl rfl (by decide) rfl dX10_clearChime_65 ?_
      refine J_goto (tgt := 41) dX10_clearChime_68 (by decide) ?_
      exact J_sub [2, 1, 0] rfl hw
theorem dX10_isSilent_0 : decode cX10_isSilent 0 = .ok (.iconst 0, 1) := by decide +kernel
theorem dX10_isSilent_1 : decode cX10_isSilent 1 = .ok (.istore_n 2, 1) := by decide +kernel
theorem dX10_isSilent_2 : decode cX10_isSilent 2 = .ok (.iload_n 2, 1) := by decide +kernel
theorem dX10_isSilent_3 : decode cX10_isSilent 3 = .ok (.aload_n 0, 1) := by decide +kernel
theorem dX10_isSilent_4 : decode cX10_isSilent 4 = .ok (.getfield 212, 3) := by decide +kernel
theorem dX10_isSilent_7 : decode cX10_isSilent 7 = .ok (.if_icmp .ge 31, 3) := by decide +kernel
theorem dX10_isSilent_10 : decode cX10_isSilent 10 = .ok (.iload_n 1, 1) := by decide +kernel
theorem dX10_isSilent_11 : decode cX10_isSilent 11 = .ok (.aload_n 0, 1) := by decide +kernel
theorem dX10_isSilent_12 : decode cX10_isSilent 12 = .ok (.getfield 31, 3) := by decide +kernel
theorem dX10_isSilent_15 : decode cX10_isSilent 15 = .ok (.iload_n 2, 1) := by decide +kernel
theorem dX10_isSilent_16 : decode cX10_isSilent 16 = .ok (.iaload, 1) := by decide +kernel
theorem dX10_isSilent_17 : decode cX10_isSilent 17 = .ok (.if_icmp .lt 15, 3) := by decide +kernel
theorem dX10_isSilent_20 : decode cX10_isSilent 20 = .ok (.iload_n 1, 1) := by decide +kernel
theorem dX10_isSilent_21 : decode cX10_isSilent 21 = .ok (.aload_n 0, 1) := by decide +kernel
theorem dX10_isSilent_22 : decode cX10_isSilent 22 = .ok (.getfield 34, 3) := by decide +kernel
theorem dX10_isSilent_25 : decode cX10_isSilent 25 = .ok (.iload_n 2, 1) := by decide +kernel
theorem dX10_isSilent_26 : decode cX10_isSilent 26 = .ok (.iaload, 1) := by decide +kernel
theorem dX10_isSilent_27 : decode cX10_isSilent 27 = .ok (.if_icmp .ge 5, 3) := by decide +kernel
theorem dX10_isSilent_30 : decode cX10_isSilent 30 = .ok (.iconst 1, 1) := by decide +kernel
theorem dX10_isSilent_31 : decode cX10_isSilent 31 = .ok (.ireturn, 1) := by decide +kernel
theorem dX10_isSilent_32 : decode cX10_isSilent 32 = .ok (.iinc 2 1, 3) := by decide +kernel
theorem dX10_isSilent_35 : decode cX10_isSilent 35 = .ok (.goto (-33), 3) := by decide +kernel
theorem dX10_isSilent_38 : decode cX10_isSilent 38 = .ok (.iconst 0, 1) := by decide +kernel
theorem dX10_isSilent_39 : decode cX10_isSilent 39 = .ok (.ireturn, 1) := by decide +kernel
set_option maxRecDepth 20000 in
theorem bX10_isSilent_0 {G : Gx} {mm : Nat → Nat → Int32} {lm : Nat → Int64} {x1 : Int32} {o : Ou} {z : Wd} {a b : Nat} (hw : J G M_X10_isSilent 2 [(0, .ref 63), (1, .int x1), (2, .int 0)] [] (SH, mm, lm) false o z false a b) :
    J G M_X10_isSilent 0 [(0, .ref 63), (1, .int x1)] [] (SH, mm, lm) false o z false a b := by
  refine J_iconst (v := 0) (by decide) dX10_isSilent_0 ?_
  refine J_istore_n [(2, .int 0), (0, .ref 63), (1, .int x1)] rfl (i := 2) (by decide) rfl dX10_isSilent_1 ?_
  exact J_sub [1, 2, 0] rfl hw
set_option maxRecDepth 20000 in
theorem bX10_isSilent_2 {G : Gx} {mm : Nat → Nat → Int32} {lm : Nat → Int64} {x1 : Int32} {x2 : Int32} {o : Ou} {z : Wd} {a b : Nat} (hw : (((mm 63 12) ≤ x2) → o = .inl (some (.int 0)) ∧ z = (SH, mm, lm)) ∧ ((¬ (mm 63 12) ≤ x2) → ∃ j1 : Nat, x2 = nI j1 ∧ j1 < 6 ∧ ((x1 < (mm 71 j1)) → J G M_X10_isSilent 2 [(0, .ref 63), (1, .int x1), (2, .int (x2 + 1))] [] (SH, mm, lm) false o z false a b) ∧ ((¬ x1 < (mm 71 j1)) → ∃ j2 : Nat, x2 = nI j2 ∧ j2 < 6 ∧ (((mm 72 j2) ≤ x1) → J G M_X10_isSilent 2 [(0, .ref 63), (1, .int x1), (2, .int (x2 + 1))] [] (SH, mm, lm) false o z false a b) ∧ ((¬ (mm 72 j2) ≤ x1) → o = .inl (some (.int 1)) ∧ z = (SH, mm, lm))))) :
    J G M_X10_isSilent 2 [(0, .ref 63), (1, .int x1), (2, .int x2)] [] (SH, mm, lm) false o z false a b := by
  refine J_iload_n rfl (i := 2) rfl dX10_isSilent_2 ?_
  refine J_aload_n rfl (i := 0) rfl dX10_isSilent_3 ?_
  refine J_geti kls_10 (q := 63) (k := 12) sh_63 (by decide) rfl gw_1445 dX10_isSilent_4 ?_
  refine J_icmp_ge (tgt := 38) dX10_isSilent_7 (by decide) (fun hb5 => ?_) (fun hb5 => ?_)
  · replace hw := hw.1 hb5
    refine J_iconst (v := 0) (by decide) dX10_isSilent_38 ?_
    exact J_fini (ty := .boolean) rfl rfl dX10_isSilent_39 hw
  · replace hw := hw.2 hb5
    refine J_iload_n rfl (i := 1) rfl dX10_isSilent_10 ?_
    refine J_aload_n rfl (i := 0) rfl dX10_isSilent_11 ?_
    refine J_getr kls_10 (q := 63) (k := 13) sh_63 (by decide) rfl gw_1446 dX10_isSilent_12 ?_
    refine J_iload_n rfl (i := 2) rfl dX10_isSilent_15 ?_
    obtain ⟨j1, ej1, hj1, hw⟩ := hw
    refine J_iald sh_71 ej1 hj1 (by decide) dX10_isSilent_16 ?_
    refine J_icmp_lt (tgt := 32) dX10_isSilent_17 (by decide) (fun hb4 => ?_) (fun hb4 => ?_)
    · replace hw := hw.1 hb4
      refine J_iinc [(2, .int (x2 + 1)), (0, .ref 63), (1, .int x1)] (i := 2) (v := (x2 + 1)) rfl rfl (by decide) rfl dX10_isSilent_32 ?_
      refine J_goto (tgt := 2) dX10_isSilent_35 (by decide) ?_
      exact J_sub [1, 2, 0] rfl hw
    · replace hw := hw.2 hb4
      refine J_iload_n rfl (i := 1) rfl dX10_isSilent_20 ?_
      refine J_aload_n rfl (i := 0) rfl dX10_isSilent_21 ?_
      refine J_getr kls_10 (q := 63) (k := 14) sh_63 (by decide) rfl gw_1447 dX10_isSilent_22 ?_
      refine J_iload_n rfl (i := 2) rfl dX10_isSilent_25 ?_
      obtain ⟨j2, ej2, hj2, hw⟩ := hw
      refine J_iald sh_72 ej2 hj2 (by decide) dX10_isSilent_26 ?_
      refine J_icmp_ge (tgt := 32) dX10_isSilent_27 (by decide) (fun hb3 => ?_) (fun hb3 => ?_)
      · replace hw := hw.1 hb3
        refine J_iinc [(2, .int (x2 + 1)), (0, .ref 63), (1, .int x1)] (i := 2) (v := (x2 + 1)) rfl rfl (by decide) rfl dX10_isSilent_32 ?_
        refine J_goto (tgt := 2) dX10_isSilent_35 (by decide) ?_
        exact J_sub [1, 2, 0] rfl hw
      · replace hw := hw.2 hb3
        refine J_iconst (v := 1) (by decide) dX10_isSilent_30 ?_
        exact J_fini (ty := .boolean) rfl rfl dX10_isSilent_31 hw
theorem dX10_isQuiet_0 : decode cX10_isQuiet 0 = .ok (.aload_n 0, 1) := by decide +kernel
theorem dX10_isQuiet_1 : decode cX10_isQuiet 1 = .ok (.iload_n 1, 1) := by decide +kernel
theorem dX10_isQuiet_2 : decode cX10_isQuiet 2 = .ok (.i2l, 1) := by decide +kernel
theorem dX10_isQuiet_3 : decode cX10_isQuiet 3 = .ok (.lconst 0, 1) := by decide +kernel
theorem dX10_isQuiet_4 : decode cX10_isQuiet 4 = .ok (.ldc2_w 360, 3) := by decide +kernel
theorem dX10_isQuiet_7 : decode cX10_isQuiet 7 = .ok (.invokestatic 91, 3) := by decide +kernel
theorem dX10_isQuiet_10 : decode cX10_isQuiet 10 = .ok (.invokevirtual 221, 3) := by decide +kernel
theorem dX10_isQuiet_13 : decode cX10_isQuiet 13 = .ok (.ifCond .ne 15, 3) := by decide +kernel
theorem dX10_isQuiet_16 : decode cX10_isQuiet 16 = .ok (.aload_n 0, 1) := by decide +kernel
theorem dX10_isQuiet_17 : decode cX10_isQuiet 17 = .ok (.iload_n 1, 1) := by decide +kernel
theorem dX10_isQuiet_18 : decode cX10_isQuiet 18 = .ok (.invokevirtual 367, 3) := by decide +kernel
theorem dX10_isQuiet_21 : decode cX10_isQuiet 21 = .ok (.ifCond .eq 7, 3) := by decide +kernel
theorem dX10_isQuiet_24 : decode cX10_isQuiet 24 = .ok (.iconst 1, 1) := by decide +kernel
theorem dX10_isQuiet_25 : decode cX10_isQuiet 25 = .ok (.goto 4, 3) := by decide +kernel
theorem dX10_isQuiet_28 : decode cX10_isQuiet 28 = .ok (.iconst 0, 1) := by decide +kernel
theorem dX10_isQuiet_29 : decode cX10_isQuiet 29 = .ok (.ireturn, 1) := by decide +kernel
set_option maxRecDepth 20000 in
theorem bX10_isQuiet_0 {G : Gx} {mm : Nat → Nat → Int32} {lm : Nat → Int64} {x1 : Int32} {o : Ou} {z : Wd} {a b : Nat} (hw : ∃ (v2 : Int32), Ct G M_X10_isIn [.long (Int32.toInt64 x1), .long 0, .long 1439] (SH, mm, lm) false (.inl (some (.int v2))) (SH, mm, lm) false 0 0 ∧ ∃ (v5 : Int32) (m6 : Nat → Nat → Int32), Ct G M_X10_isWrong [.ref 63, .int v2] (SH, mm, lm) false (.inl (some (.int v5))) (SH, m6, lm) false 0 0 ∧ ((¬ v5 = 0) → o = .inl (some (.int 0)) ∧ z = (SH, m6, lm)) ∧ ((v5 = 0) → J G M_X10_isQuiet 16 [(0, .ref 63), (1, .int x1)] [] (SH, m6, lm) false o z false a b)) :
    J G M_X10_isQuiet 0 [(0, .ref 63), (1, .int x1)] [] (SH, mm, lm) false o z false a b := by
  refine J_aload_n rfl (i := 0) rfl dX10_isQuiet_0 ?_
  refine J_iload_n rfl (i := 1) rfl dX10_isQuiet_1 ?_
  refine J_i2l dX10_isQuiet_2 ?_
  refine J_lconst (v := 0) (by decide) dX10_isQuiet_3 ?_
  refine J_ldc2 gw_1939 dX10_isQuiet_4 ?_
  obtain ⟨v2, hc1, hw⟩ := hw
  refine J_callS (as := [.long (Int32.toInt64 x1), .long 0, .long 1439]) (st := [.ref 63]) cal_X10_isIn cas_X10_isIn gw_1573 ⟨by decide, by decide⟩ cnt_X10_isIn rfl (Nat.le_of_ble_eq_true rfl) dX10_isQuiet_7 (Nat.zero_add _).symm (Nat.zero_add _).symm hc1 ?_
  obtain ⟨v5, m6, hc4, hw⟩ := hw
  refine J_callV (as := [.int v2]) (k := 63) (st := []) cal_X10_isWrong cai_X10_isWrong gw_1663 ⟨by decide, by decide⟩ cnt_X10_isWrong sh_63 rfl rfl (Nat.le_of_ble_eq_true rfl) dX10_isQuiet_10 (Nat.zero_add _).symm (Nat.zero_add _).symm hc4 ?_
  refine J_if_ne (tgt := 28) dX10_isQuiet_13 (by decide) (fun hb7 => ?_) (fun hb7 => ?_)
  · replace hw := hw.1 hb7
    refine J_iconst (v := 0) (by decide) dX10_isQuiet_28 ?_
    exact J_fini (ty := .boolean) rfl rfl dX10_isQuiet_29 hw
  · replace hw := hw.2 hb7
    exact hw
set_option maxRecDepth 20000 in
theorem bX10_isQuiet_16 {G : Gx} {mm : Nat → Nat → Int32} {lm : Nat → Int64} {x1 : Int32} {o : Ou} {z : Wd} {a b : Nat} (hw : ∃ (v2 : Int32), Ct G M_X10_isSilent [.ref 63, .int x1] (SH, mm, lm) false (.inl (some (.int v2))) (SH, mm, lm) false 0 0 ∧ ((v2 = 0) → o = .inl (some (.int 0)) ∧ z = (SH, mm, lm)) ∧ ((¬ v2 = 0) → o = .inl (some (.int 1)) ∧ z = (SH, mm, lm))) :
    J G M_X10_isQuiet 16 [(0, .ref 63), (1, .int x1)] [] (SH, mm, lm) false o z false a b := by
  refine J_aload_n rfl (i := 0) rfl dX10_isQuiet_16 ?_
  refine J_iload_n rfl (i := 1) rfl dX10_isQuiet_17 ?_
  obtain ⟨v2, hc1, hw⟩ := hw
  refine J_callV (as := [.int x1]) (k := 63) (st := []) cal_X10_isSilent cai_X10_isSilent gw_1953 ⟨by decide, by decide⟩ cnt_X10_isSilent sh_63 rfl rfl (Nat.le_of_ble_eq_true rfl) dX10_isQuiet_18 (Nat.zero_add _).symm (Nat.zero_add _).symm hc1 ?_
  refine J_if_eq (tgt := 28) dX10_isQuiet_21 (by decide) (fun hb4 => ?_) (fun hb4 => ?_)
  · replace hw := hw.1 hb4
    refine J_iconst (v := 0) (by decide) dX10_isQuiet_28 ?_
    exact J_fini (ty := .boolean) rfl rfl dX10_isQuiet_29 hw
  · replace hw := hw.2 hb4
    refine J_iconst (v := 1) (by decide) dX10_isQuiet_24 ?_
    refine J_goto (tgt := 29) dX10_isQuiet_25 (by decide) ?_
    exact J_fini (ty := .boolean) rfl rfl dX10_isQuiet_29 hw
theorem dX10_quietMinutes_0 : decode cX10_quietMinutes 0 = .ok (.aload_n 0, 1) := by decide +kernel
theorem dX10_quietMinutes_1 : decode cX10_quietMinutes 1 = .ok (.iconst 1, 1) := by decide +kernel
theorem dX10_quietMinutes_2 : decode cX10_quietMinutes 2 = .ok (.invokevirtual 221, 3) := by decide +kernel
theorem dX10_quietMinutes_5 : decode cX10_quietMinutes 5 = .ok (.ifCond .eq 5, 3) := by decide +kernel
theorem dX10_quietMinutes_8 : decode cX10_quietMinutes 8 = .ok (.iconst 0, 1) := by decide +kernel
theorem dX10_quietMinutes_9 : decode cX10_quietMinutes 9 = .ok (.ireturn, 1) := by decide +kernel
theorem dX10_quietMinutes_10 : decode cX10_quietMinutes 10 = .ok (.iconst 0, 1) := by decide +kernel
theorem dX10_quietMinutes_11 : decode cX10_quietMinutes 11 = .ok (.istore_n 1, 1) := by decide +kernel
theorem dX10_quietMinutes_12 : decode cX10_quietMinutes 12 = .ok (.iconst 0, 1) := by decide +kernel
theorem dX10_quietMinutes_13 : decode cX10_quietMinutes 13 = .ok (.istore_n 2, 1) := by decide +kernel
theorem dX10_quietMinutes_14 : decode cX10_quietMinutes 14 = .ok (.iload_n 2, 1) := by decide +kernel
theorem dX10_quietMinutes_15 : decode cX10_quietMinutes 15 = .ok (.sipush 1440, 3) := by decide +kernel
theorem dX10_quietMinutes_18 : decode cX10_quietMinutes 18 = .ok (.if_icmp .ge 25, 3) := by decide +kernel
theorem dX10_quietMinutes_21 : decode cX10_quietMinutes 21 = .ok (.iload_n 1, 1) := by decide +kernel
theorem dX10_quietMinutes_22 : decode cX10_quietMinutes 22 = .ok (.aload_n 0, 1) := by decide +kernel
theorem dX10_quietMinutes_23 : decode cX10_quietMinutes 23 = .ok (.iload_n 2, 1) := by decide +kernel
theorem dX10_quietMinutes_24 : decode cX10_quietMinutes 24 = .ok (.invokevirtual 367, 3) := by decide +kernel
theorem dX10_quietMinutes_27 : decode cX10_quietMinutes 27 = .ok (.ifCond .eq 7, 3) := by decide +kernel
theorem dX10_quietMinutes_30 : decode cX10_quietMinutes 30 = .ok (.iconst 1, 1) := by decide +kernel
theorem dX10_quietMinutes_31 : decode cX10_quietMinutes 31 = .ok (.goto 4, 3) := by decide +kernel
theorem dX10_quietMinutes_34 : decode cX10_quietMinutes 34 = .ok (.iconst 0, 1) := by decide +kernel
theorem dX10_quietMinutes_35 : decode cX10_quietMinutes 35 = .ok (.iadd, 1) := by decide +kernel
theorem dX10_quietMinutes_36 : decode cX10_quietMinutes 36 = .ok (.istore_n 1, 1) := by decide +kernel
theorem dX10_quietMinutes_37 : decode cX10_quietMinutes 37 = .ok (.iinc 2 1, 3) := by decide +kernel
theorem dX10_quietMinutes_40 : decode cX10_quietMinutes 40 = .ok (.goto (-26), 3) := by decide +kernel
theorem dX10_quietMinutes_43 : decode cX10_quietMinutes 43 = .ok (.iload_n 1, 1) := by decide +kernel
theorem dX10_quietMinutes_44 : decode cX10_quietMinutes 44 = .ok (.ireturn, 1) := by decide +kernel
set_option maxRecDepth 20000 in
theorem bX10_quietMinutes_0 {G : Gx} {mm : Nat → Nat → Int32} {lm : Nat → Int64}  {o : Ou} {z : Wd} {a b : Nat} (hw : ∃ (v2 : Int32) (m3 : Nat → Nat → Int32), Ct G M_X10_isWrong [.ref 63, .int 1] (SH, mm, lm) false (.inl (some (.int v2))) (SH, m3, lm) false 0 0 ∧ ((v2 = 0) → J G M_X10_quietMinutes 10 [(0, .ref 63)] [] (SH, m3, lm) false o z false a b) ∧ ((¬ v2 = 0) → o = .inl (some (.int 0)) ∧ z = (SH, m3, lm))) :
    J G M_X10_quietMinutes 0 [(0, .ref 63)] [] (SH, mm, lm) false o z false a b := by
  refine J_aload_n rfl (i := 0) rfl dX10_quietMinutes_0 ?_
  refine J_iconst (v := 1) (by decide) dX10_quietMinutes_1 ?_
  obtain ⟨v2, m3, hc1, hw⟩ := hw
  refine J_callV (as := [.int 1]) (k := 63) (st := []) cal_X10_isWrong cai_X10_isWrong gw_1663 ⟨by decide, by decide⟩ cnt_X10_isWrong sh_63 rfl rfl (Nat.le_of_ble_eq_true rfl) dX10_quietMinutes_2 (Nat.zero_add _).symm (Nat.zero_add _).symm hc1 ?_
  refine J_if_eq (tgt := 10) dX10_quietMinutes_5 (by decide) (fun hb4 => ?_) (fun hb4 => ?_)
  · replace hw := hw.1 hb4
    exact hw
  · replace hw := hw.2 hb4
    refine J_iconst (v := 0) (by decide) dX10_quietMinutes_8 ?_
    exact J_fini (ty := .int) rfl rfl dX10_quietMinutes_9 hw
set_option maxRecDepth 20000 in
theorem bX10_quietMinutes_10 {G : Gx} {mm : Nat → Nat → Int32} {lm : Nat → Int64}  {o : Ou} {z : Wd} {a b : Nat} (hw : J G M_X10_quietMinutes 14 [(0, .ref 63), (1, .int 0), (2, .int 0)] [] (SH, mm, lm) false o z false a b) :
    J G M_X10_quietMinutes 10 [(0, .ref 63)] [] (SH, mm, lm) false o z false a b := by
  refine J_iconst (v := 0) (by decide) dX10_quietMinutes_10 ?_
  refine J_istore_n [(1, .int 0), (0, .ref 63)] rfl (i := 1) (by decide) rfl dX10_quietMinutes_11 ?_
  refine J_iconst (v := 0) (by decide) dX10_quietMinutes_12 ?_
  refine J_istore_n [(2, .int 0), (1, .int 0), (0, .ref 63)] rfl (i := 2) (by decide) rfl dX10_quietMinutes_13 ?_
  exact J_sub [2, 1, 0] rfl hw
set_option maxRecDepth 20000 in
theorem bX10_quietMinutes_14 {G : Gx} {mm : Nat → Nat → Int32} {lm : Nat → Int64} {x1 : Int32} {x2 : Int32} {o : Ou} {z : Wd} {a b : Nat} (hw : ((1440 ≤ x2) → o = .inl (some (.int x1)) ∧ z = (SH, mm, lm)) ∧ ((¬ 1440 ≤ x2) → ∃ (v2 : Int32), Ct G M_X10_isSilent [.ref 63, .int x2] (SH, mm, lm) false (.inl (some (.int v2))) (SH, mm, lm) false 0 0 ∧ ((v2 = 0) → J G M_X10_quietMinutes 14 [(0, .ref 63), (1, .int (x1 + 0)), (2, .int (x2 + 1))] [] (SH, mm, lm) false o z false a b) ∧ ((¬ v2 = 0) → J G M_X10_quietMinutes 14 [(0, .ref 63), (1, .int (x1 + 1)), (2, .int (x2 + 1))] [] (SH, mm, lm) false o z false a b))) :
    J G M_X10_quietMinutes 14 [(0, .ref 63), (1, .int x1), (2, .int x2)] [] (SH, mm, lm) false o z false a b := by
  refine J_iload_n rfl (i := 2) rfl dX10_quietMinutes_14 ?_
  refine J_sipush (v := 1440) (by decide) dX10_quietMinutes_15 ?_
  refine J_icmp_ge (tgt := 43) dX10_quietMinutes_18 (by decide) (fun hb5 => ?_) (fun hb5 => ?_)
  · replace hw := hw.1 hb5
    refine J_iload_n rfl (i := 1) rfl dX10_quietMinutes_43 ?_
    exact J_fini (ty := .int) rfl rfl dX10_quietMinutes_44 hw
  · replace hw := hw.2 hb5
    refine J_iload_n rfl (i := 1) rfl dX10_quietMinutes_21 ?_
    refine J_aload_n rfl (i := 0) rfl dX10_quietMinutes_22 ?_
    refine J_iload_n rfl (i := 2) rfl dX10_quietMinutes_23 ?_
    obtain ⟨v2, hc1, hw⟩ := hw
    refine J_callV (as := [.int x2]) (k := 63) (st := [.int x1]) cal_X10_isSilent cai_X10_isSilent gw_1953 ⟨by decide, by decide⟩ cnt_X10_isSilent sh_63 rfl rfl (Nat.le_of_ble_eq_true rfl) dX10_quietMinutes_24 (Nat.zero_add _).symm (Nat.zero_add _).symm hc1 ?_
    refine J_if_eq (tgt := 34) dX10_quietMinutes_27 (by decide) (fun hb4 => ?_) (fun hb4 => ?_)
    · replace hw := hw.1 hb4
      refine J_iconst (v := 0) (by decide) dX10_quietMinutes_34 ?_
      refine J_iadd dX10_quietMinutes_35 ?_
      refine J_istore_n [(1, .int (x1 + 0)), (0, .ref 63), (2, .int x2)] rfl (i := 1) (by decide) rfl dX10_quietMinutes_36 ?_
      refine J_iinc [(2, .int (x2 + 1)), (1, .int (x1 + 0)), (0, .ref 63)] (i := 2) (v := (x2 + 1)) rfl rfl (by decide) rfl dX10_quietMinutes_37 ?_
      refine J_goto (tgt := 14) dX10_quietMinutes_40 (by decide) ?_
      exact J_sub [2, 1, 0] rfl hw
    · replace hw := hw.2 hb4
      refine J_iconst (v := 1) (by decide) dX10_quietMinutes_30 ?_
      refine J_goto (tgt := 35) dX10_quietMinutes_31 (by decide) ?_
      refine J_iadd dX10_quietMinutes_35 ?_
      refine J_istore_n [(1, .int (x1 + 1)), (0, .ref 63), (2, .int x2)] rfl (i := 1) (by decide) rfl dX10_quietMinutes_36 ?_
      refine J_iinc [(2, .int (x2 + 1)), (1, .int (x1 + 1)), (0, .ref 63)] (i := 2) (v := (x2 + 1)) rfl rfl (by decide) rfl dX10_quietMinutes_37 ?_
      refine J_goto (tgt := 14) dX10_quietMinutes_40 (by decide) ?_
      exact J_sub [2, 1, 0] rfl hw
theorem dX10_longestLoud_0 : decode cX10_longestLoud 0 = .ok (.aload_n 0, 1) := by decide +kernel
theorem dX10_longestLoud_1 : decode cX10_longestLoud 1 = .ok (.iconst 1, 1) := by decide +kernel
theorem dX10_longestLoud_2 : decode cX10_longestLoud 2 = .ok (.invokevirtual 221, 3) := by decide +kernel
theorem dX10_longestLoud_5 : decode cX10_longestLoud 5 = .ok (.ifCond .eq 5, 3) := by decide +kernel
theorem dX10_longestLoud_8 : decode cX10_longestLoud 8 = .ok (.iconst 0, 1) := by decide +kernel
theorem dX10_longestLoud_9 : decode cX10_longestLoud 9 = .ok (.ireturn, 1) := by decide +kernel
theorem dX10_longestLoud_10 : decode cX10_longestLoud 10 = .ok (.iconst 0, 1) := by decide +kernel
theorem dX10_longestLoud_11 : decode cX10_longestLoud 11 = .ok (.istore_n 1, 1) := by decide +kernel
theorem dX10_longestLoud_12 : decode cX10_longestLoud 12 = .ok (.iconst 0, 1) := by decide +kernel
theorem dX10_longestLoud_13 : decode cX10_longestLoud 13 = .ok (.istore_n 2, 1) := by decide +kernel
theorem dX10_longestLoud_14 : decode cX10_longestLoud 14 = .ok (.iconst 0, 1) := by decide +kernel
theorem dX10_longestLoud_15 : decode cX10_longestLoud 15 = .ok (.istore_n 3, 1) := by decide +kernel
theorem dX10_longestLoud_16 : decode cX10_longestLoud 16 = .ok (.iload_n 3, 1) := by decide +kernel
theorem dX10_longestLoud_17 : decode cX10_longestLoud 17 = .ok (.sipush 1440, 3) := by decide +kernel
theorem dX10_longestLoud_20 : decode cX10_longestLoud 20 = .ok (.if_icmp .ge 36, 3) := by decide +kernel
theorem dX10_longestLoud_23 : decode cX10_longestLoud 23 = .ok (.aload_n 0, 1) := by decide +kernel
theorem dX10_longestLoud_24 : decode cX10_longestLoud 24 = .ok (.iload_n 3, 1) := by decide +kernel
theorem dX10_longestLoud_25 : decode cX10_longestLoud 25 = .ok (.invokevirtual 367, 3) := by decide +kernel
theorem dX10_longestLoud_28 : decode cX10_longestLoud 28 = .ok (.ifCond .eq 7, 3) := by decide +kernel
theorem dX10_longestLoud_31 : decode cX10_longestLoud 31 = .ok (.iconst 0, 1) := by decide +kernel
theorem dX10_longestLoud_32 : decode cX10_longestLoud 32 = .ok (.goto 6, 3) := by decide +kernel
theorem dX10_longestLoud_35 : decode cX10_longestLoud 35 = .ok (.iload_n 2, 1) := by decide +kernel
theorem dX10_longestLoud_36 : decode cX10_longestLoud 36 = .ok (.iconst 1, 1) := by decide +kernel
theorem dX10_longestLoud_37 : decode cX10_longestLoud 37 = .ok (.iadd, 1) := by decide +kernel
theorem dX10_longestLoud_38 : decode cX10_longestLoud 38 = .ok (.istore_n 2, 1) := by decide +kernel
theorem dX10_longestLoud_39 : decode cX10_longestLoud 39 = .ok (.iload_n 2, 1) := by decide +kernel
theorem dX10_longestLoud_40 : decode cX10_longestLoud 40 = .ok (.iload_n 1, 1) := by decide +kernel
theorem dX10_longestLoud_41 : decode cX10_longestLoud 41 = .ok (.if_icmp .le 7, 3) := by decide +kernel
theorem dX10_longestLoud_44 : decode cX10_longestLoud 44 = .ok (.iload_n 2, 1) := by decide +kernel
theorem dX10_longestLoud_45 : decode cX10_longestLoud 45 = .ok (.goto 4, 3) := by decide +kernel
theorem dX10_longestLoud_48 : decode cX10_longestLoud 48 = .ok (.iload_n 1, 1) := by decide +kernel
theorem dX10_longestLoud_49 : decode cX10_longestLoud 49 = .ok (.istore_n 1, 1) := by decide +kernel
theorem dX10_longestLoud_50 : decode cX10_longestLoud 50 = .ok (.iinc 3 1, 3) := by decide +kernel
theorem dX10_longestLoud_53 : decode cX10_longestLoud 53 = .ok (.goto (-37), 3) := by decide +kernel
theorem dX10_longestLoud_56 : decode cX10_longestLoud 56 = .ok (.iload_n 1, 1) := by decide +kernel
theorem dX10_longestLoud_57 : decode cX10_longestLoud 57 = .ok (.ireturn, 1) := by decide +kernel
set_option maxRecDepth 20000 in
theorem bX10_longestLoud_0 {G : Gx} {mm : Nat → Nat → Int32} {lm : Nat → Int64}  {o : Ou} {z : Wd} {a b : Nat} (hw : ∃ (v2 : Int32) (m3 : Nat → Nat → Int32), Ct G M_X10_isWrong [.ref 63, .int 1] (SH, mm, lm) false (.inl (some (.int v2))) (SH, m3, lm) false 0 0 ∧ ((v2 = 0) → J G M_X10_longestLoud 10 [(0, .ref 63)] [] (SH, m3, lm) false o z false a b) ∧ ((¬ v2 = 0) → o = .inl (some (.int 0)) ∧ z = (SH, m3, lm))) :
    J G M_X10_longestLoud 0 [(0, .ref 63)] [] (SH, mm, lm) false o z false a b := by
  refine J_aload_n rfl (i := 0) rfl dX10_longestLoud_0 ?_
  refine J_iconst (v := 1) (by decide) dX10_longestLoud_1 ?_
  obtain ⟨v2, m3, hc1, hw⟩ := hw
  refine J_callV (as := [.int 1]) (k := 63) (st := []) cal_X10_isWrong cai_X10_isWrong gw_1663 ⟨by decide, by decide⟩ cnt_X10_isWrong sh_63 rfl rfl (Nat.le_of_ble_eq_true rfl) dX10_longestLoud_2 (Nat.zero_add _).symm (Nat.zero_add _).symm hc1 ?_
  refine J_if_eq (tgt := 10) dX10_longestLoud_5 (by decide) (fun hb4 => ?_) (fun hb4 => ?_)
  · replace hw := hw.1 hb4
    exact hw
  · replace hw := hw.2 hb4
    refine J_iconst (v := 0) (by decide) dX10_longestLoud_8 ?_
    exact J_fini (ty := .int) rfl rfl dX10_longestLoud_9 hw
set_option maxRecDepth 20000 in
theorem bX10_longestLoud_10 {G : Gx} {mm : Nat → Nat → Int32} {lm : Nat → Int64}  {o : Ou} {z : Wd} {a b : Nat} (hw : J G M_X10_longestLoud 16 [(0, .ref 63), (1, .int 0), (2, .int 0), (3, .int 0)] [] (SH, mm, lm) false o z false a b) :
    J G M_X10_longestLoud 10 [(0, .ref 63)] [] (SH, mm, lm) false o z false a b := by
  refine J_iconst (v := 0) (by decide) dX10_longestLoud_10 ?_
  refine J_istore_n [(1, .int 0), (0, .ref 63)] rfl (i := 1) (by decide) rfl dX10_longestLoud_11 ?_
  refine J_iconst (v := 0) (by decide) dX10_longestLoud_12 ?_
  refine J_istore_n [(2, .int 0), (1, .int 0), (0, .ref 63)] rfl (i := 2) (by decide) rfl dX10_longestLoud_13 ?_
  refine J_iconst (v := 0) (by decide) dX10_longestLoud_14 ?_
  refine J_istore_n [(3, .int 0), (2, .int 0), (1, .int 0), (0, .ref 63)] rfl (i := 3) (by decide) rfl dX10_longestLoud_15 ?_
  exact J_sub [3, 2, 1, 0] rfl hw
set_option maxRecDepth 20000 in
theorem bX10_longestLoud_16 {G : Gx} {mm : Nat → Nat → Int32} {lm : Nat → Int64} {x1 : Int32} {x2 : Int32} {x3 : Int32} {o : Ou} {z : Wd} {a b : Nat} (hw : ((1440 ≤ x3) → o = .inl (some (.int x1)) ∧ z = (SH, mm, lm)) ∧ ((¬ 1440 ≤ x3) → ∃ (v2 : Int32), Ct G M_X10_isSilent [.ref 63, .int x3] (SH, mm, lm) false (.inl (some (.int v2))) (SH, mm, lm) false 0 0 ∧ ((v2 = 0) → (((x2 + 1) ≤ x1) → J G M_X10_longestLoud 16 [(0, .ref 63), (1, .int x1), (2, .int (x2 + 1)), (3, .int (x3 + 1))] [] (SH, mm, lm) false o z false a b) ∧ ((¬ (x2 + 1) ≤ x1) → J G M_X10_longestLoud 16 [(0, .ref 63), (1, .int (x2 + 1)), (2, .int (x2 + 1)), (3, .int (x3 + 1))] [] (SH, mm, lm) false o z false a b)) ∧ ((¬ v2 = 0) → ((0 ≤ x1) → J G M_X10_longestLoud 16 [(0, .ref 63), (1, .int x1), (2, .int 0), (3, .int (x3 + 1))] [] (SH, mm, lm) false o z false a b) ∧ ((¬ 0 ≤ x1) → J G M_X10_longestLoud 16 [(0, .ref 63), (1, .int 0), (2, .int 0), (3, .int (x3 + 1))] [] (SH, mm, lm) false o z false a b)))) :
    J G M_X10_longestLoud 16 [(0, .ref 63), (1, .int x1), (2, .int x2), (3, .int x3)] [] (SH, mm, lm) false o z false a b := by
  refine J_iload_n rfl (i := 3) rfl dX10_longestLoud_16 ?_
  refine J_sipush (v := 1440) (by decide) dX10_longestLoud_17 ?_
  refine J_icmp_ge (tgt := 56) dX10_longestLoud_20 (by decide) (fun hb7 => ?_) (fun hb7 => ?_)
  · replace hw := hw.1 hb7
    refine J_iload_n rfl (i := 1) rfl dX10_longestLoud_56 ?_
    exact J_fini (ty := .int) rfl rfl dX10_longestLoud_57 hw
  · replace hw := hw.2 hb7
    refine J_aload_n rfl (i := 0) rfl dX10_longestLoud_23 ?_
    refine J_iload_n rfl (i := 3) rfl dX10_longestLoud_24 ?_
    obtain ⟨v2, hc1, hw⟩ := hw
    refine J_callV (as := [.int x3]) (k := 63) (st := []) cal_X10_isSilent cai_X10_isSilent gw_1953 ⟨by decide, by decide⟩ cnt_X10_isSilent sh_63 rfl rfl (Nat.le_of_ble_eq_true rfl) dX10_longestLoud_25 (Nat.zero_add _).symm (Nat.zero_add _).symm hc1 ?_
    refine J_if_eq (tgt := 35) dX10_longestLoud_28 (by decide) (fun hb6 => ?_) (fun hb6 => ?_)
    · replace hw := hw.1 hb6
      refine J_iload_n rfl (i := 2) rfl dX10_longestLoud_35 ?_
      refine J_iconst (v := 1) (by decide) dX10_longestLoud_36 ?_
      refine J_iadd dX10_longestLoud_37 ?_
      refine J_istore_n [(2, .int (x2 + 1)), (0, .ref 63), (1, .int x1), (3, .int x3)] rfl (i := 2) (by decide) rfl dX10_longestLoud_38 ?_
      refine J_iload_n rfl (i := 2) rfl dX10_longestLoud_39 ?_
      refine J_iload_n rfl (i := 1) rfl dX10_longestLoud_40 ?_
      refine J_icmp_le (tgt := 48) dX10_longestLoud_41 (by decide) (fun hb4 => ?_) (fun hb4 => ?_)
      · replace hw := hw.1 hb4
        refine J_iload_n rfl (i := 1) rfl dX10_longestLoud_48 ?_
        refine J_istore_n [(1, .int x1), (2, .int (x2 + 1)), (0, .ref 63), (3, .int x3)] rfl (i := 1) (by decide) rfl dX10_longestLoud_49 ?_
        refine J_iinc [(3, .int (x3 + 1)), (1, .int x1), (2, .int (x2 + 1)), (0, .ref 63)] (i := 3) (v := (x3 + 1)) rfl rfl (by decide) rfl dX10_longestLoud_50 ?_
        refine J_goto (tgt := 16) dX10_longestLoud_53 (by decide) ?_
        exact J_sub [3, 1, 2, 0] rfl hw
      · replace hw := hw.2 hb4
        refine J_iload_n rfl (i := 2) rfl dX10_longestLoud_44 ?_
        refine J_goto (tgt := 49) dX10_longestLoud_45 (by decide) ?_
        refine J_istore_n [(1, .int (x2 + 1)), (2, .int (x2 + 1)), (0, .ref 63), (3, .int x3)] rfl (i := 1) (by decide) rfl dX10_longestLoud_49 ?_
        refine J_iinc [(3, .int (x3 + 1)), (1, .int (x2 + 1)), (2, .int (x2 + 1)), (0, .ref 63)] (i := 3) (v := (x3 + 1)) rfl rfl (by decide) rfl dX10_longestLoud_50 ?_
        refine J_goto (tgt := 16) dX10_longestLoud_53 (by decide) ?_
        exact J_sub [3, 1, 2, 0] rfl hw
    · replace hw := hw.2 hb6
      refine J_iconst (v := 0) (by decide) dX10_longestLoud_31 ?_
      refine J_goto (tgt := 38) dX10_longestLoud_32 (by decide) ?_
      refine J_istore_n [(2, .int 0), (0, .ref 63), (1, .int x1), (3, .int x3)] rfl (i := 2) (by decide) rfl dX10_longestLoud_38 ?_
      refine J_iload_n rfl (i := 2) rfl dX10_longestLoud_39 ?_
      refine J_iload_n rfl (i := 1) rfl dX10_longestLoud_40 ?_
      refine J_icmp_le (tgt := 48) dX10_longestLoud_41 (by decide) (fun hb5 => ?_) (fun hb5 => ?_)
      · replace hw := hw.1 hb5
        refine J_iload_n rfl (i := 1) rfl dX10_longestLoud_48 ?_
        refine J_istore_n [(1, .int x1), (2, .int 0), (0, .ref 63), (3, .int x3)] rfl (i := 1) (by decide) rfl dX10_longestLoud_49 ?_
        refine J_iinc [(3, .int (x3 + 1)), (1, .int x1), (2, .int 0), (0, .ref 63)] (i := 3) (v := (x3 + 1)) rfl rfl (by decide) rfl dX10_longestLoud_50 ?_
        refine J_goto (tgt := 16) dX10_longestLoud_53 (by decide) ?_
        exact J_sub [3, 1, 2, 0] rfl hw
      · replace hw := hw.2 hb5
        refine J_iload_n rfl (i := 2) rfl dX10_longestLoud_44 ?_
        refine J_goto (tgt := 49) dX10_longestLoud_45 (by decide) ?_
        refine J_istore_n [(1, .int 0), (2, .int 0), (0, .ref 63), (3, .int x3)] rfl (i := 1) (by decide) rfl dX10_longestLoud_49 ?_
        refine J_iinc [(3, .int (x3 + 1)), (1, .int 0), (2, .int 0), (0, .ref 63)] (i := 3) (v := (x3 + 1)) rfl rfl (by decide) rfl dX10_longestLoud_50 ?_
        refine J_goto (tgt := 16) dX10_longestLoud_53 (by decide) ?_
        exact J_sub [3, 1, 2, 0] rfl hw
theorem dX10_sounds_0 : decode cX10_sounds 0 = .ok (.iload_n 2, 1) := by decide +kernel
theorem dX10_sounds_1 : decode cX10_sounds 1 = .ok (.aload_n 0, 1) := by decide +kernel
theorem dX10_sounds_2 : decode cX10_sounds 2 = .ok (.iload_n 1, 1) := by decide +kernel
theorem dX10_sounds_3 : decode cX10_sounds 3 = .ok (.bipush 6, 2) := by decide +kernel
theorem dX10_sounds_5 : decode cX10_sounds 5 = .ok (.invokevirtual 229, 3) := by decide +kernel
theorem dX10_sounds_8 : decode cX10_sounds 8 = .ok (.isub, 1) := by decide +kernel
theorem dX10_sounds_9 : decode cX10_sounds 9 = .ok (.istore_n 3, 1) := by decide +kernel
theorem dX10_sounds_10 : decode cX10_sounds 10 = .ok (.aload_n 0, 1) := by decide +kernel
theorem dX10_sounds_11 : decode cX10_sounds 11 = .ok (.iload_n 1, 1) := by decide +kernel
theorem dX10_sounds_12 : decode cX10_sounds 12 = .ok (.invokevirtual 364, 3) := by decide +kernel
theorem dX10_sounds_15 : decode cX10_sounds 15 = .ok (.ifCond .eq 39, 3) := by decide +kernel
theorem dX10_sounds_18 : decode cX10_sounds 18 = .ok (.aload_n 0, 1) := by decide +kernel
theorem dX10_sounds_19 : decode cX10_sounds 19 = .ok (.iload_n 1, 1) := by decide +kernel
theorem dX10_sounds_20 : decode cX10_sounds 20 = .ok (.invokevirtual 244, 3) := by decide +kernel
theorem dX10_sounds_23 : decode cX10_sounds 23 = .ok (.ifCond .eq 31, 3) := by decide +kernel
theorem dX10_sounds_26 : decode cX10_sounds 26 = .ok (.iload_n 3, 1) := by decide +kernel
theorem dX10_sounds_27 : decode cX10_sounds 27 = .ok (.ifCond .lt 27, 3) := by decide +kernel
theorem dX10_sounds_30 : decode cX10_sounds 30 = .ok (.iload_n 3, 1) := by decide +kernel
theorem dX10_sounds_31 : decode cX10_sounds 31 = .ok (.aload_n 0, 1) := by decide +kernel
theorem dX10_sounds_32 : decode cX10_sounds 32 = .ok (.iload_n 1, 1) := by decide +kernel
theorem dX10_sounds_33 : decode cX10_sounds 33 = .ok (.bipush 7, 2) := by decide +kernel
theorem dX10_sounds_35 : decode cX10_sounds 35 = .ok (.invokevirtual 229, 3) := by decide +kernel
theorem dX10_sounds_38 : decode cX10_sounds 38 = .ok (.irem, 1) := by decide +kernel
theorem dX10_sounds_39 : decode cX10_sounds 39 = .ok (.ifCond .ne 15, 3) := by decide +kernel
theorem dX10_sounds_42 : decode cX10_sounds 42 = .ok (.aload_n 0, 1) := by decide +kernel
theorem dX10_sounds_43 : decode cX10_sounds 43 = .ok (.iload_n 2, 1) := by decide +kernel
theorem dX10_sounds_44 : decode cX10_sounds 44 = .ok (.invokevirtual 367, 3) := by decide +kernel
theorem dX10_sounds_47 : decode cX10_sounds 47 = .ok (.ifCond .ne 7, 3) := by decide +kernel
theorem dX10_sounds_50 : decode cX10_sounds 50 = .ok (.iconst 1, 1) := by decide +kernel
theorem dX10_sounds_51 : decode cX10_sounds 51 = .ok (.goto 4, 3) := by decide +kernel
theorem dX10_sounds_54 : decode cX10_sounds 54 = .ok (.iconst 0, 1) := by decide +kernel
theorem dX10_sounds_55 : decode cX10_sounds 55 = .ok (.ireturn, 1) := by decide +kernel
set_option maxRecDepth 20000 in
theorem bX10_sounds_0 {G : Gx} {mm : Nat → Nat → Int32} {lm : Nat → Int64} {x1 : Int32} {x2 : Int32} {o : Ou} {z : Wd} {a b : Nat} (hw : ∃ (v2 : Int32), Ct G M_X10_of [.ref 63, .int x1, .int 6] (SH, mm, lm) false (.inl (some (.int v2))) (SH, mm, lm) false 0 0 ∧ ∃ (v5 : Int32), Ct G M_X10_chimes [.ref 63, .int x1] (SH, mm, lm) false (.inl (some (.int v5))) (SH, mm, lm) false 0 0 ∧ ((v5 = 0) → o = .inl (some (.int 0)) ∧ z = (SH, mm, lm)) ∧ ((¬ v5 = 0) → ∃ (v8 : Int32), Ct G M_X10_hangs [.ref 63, .int x1] (SH, mm, lm) false (.inl (some (.int v8))) (SH, mm, lm) false 0 0 ∧ ((v8 = 0) → o = .inl (some (.int 0)) ∧ z = (SH, mm, lm)) ∧ ((¬ v8 = 0) → (((x2 - v2) < 0) → o = .inl (some (.int 0)) ∧ z = (SH, mm, lm)) ∧ ((¬ (x2 - v2) < 0) → ∃ (v11 : Int32), Ct G M_X10_of [.ref 63, .int x1, .int 7] (SH, mm, lm) false (.inl (some (.int v11))) (SH, mm, lm) false 0 0 ∧ ¬ v11 = 0 ∧ ((¬ ((x2 - v2) - (x2 - v2) / v11 * v11) = 0) → o = .inl (some (.int 0)) ∧ z = (SH, mm, lm)) ∧ ((((x2 - v2) - (x2 - v2) / v11 * v11) = 0) → ∃ (v14 : Int32), Ct G M_X10_isSilent [.ref 63, .int x2] (SH, mm, lm) false (.inl (some (.int v14))) (SH, mm, lm) false 0 0 ∧ ((¬ v14 = 0) → o = .inl (some (.int 0)) ∧ z = (SH, mm, lm)) ∧ ((v14 = 0) → o = .inl (some (.int 1)) ∧ z = (SH, mm, lm))))))) :
    J G M_X10_sounds 0 [(0, .ref 63), (1, .int x1), (2, .int x2)] [] (SH, mm, lm) false o z false a b := by
  refine J_iload_n rfl (i := 2) rfl dX10_sounds_0 ?_
  refine J_aload_n rfl (i := 0) rfl dX10_sounds_1 ?_
  refine J_iload_n rfl (i := 1) rfl dX10_sounds_2 ?_
  refine J_bipush (v := 6) (by decide) dX10_sounds_3 ?_
  obtain ⟨v2, hc1, hw⟩ := hw
  refine J_callV (as := [.int x1, .int 6]) (k := 63) (st := [.int x2]) cal_X10_of cai_X10_of gw_1688 ⟨by decide, by decide⟩ cnt_X10_of sh_63 rfl rfl (Nat.le_of_ble_eq_true rfl) dX10_sounds_5 (Nat.zero_add _).symm (Nat.zero_add _).symm hc1 ?_
  refine J_isub dX10_sounds_8 ?_
  refine J_istore_n [(3, .int (x2 - v2)), (0, .ref 63), (1, .int x1), (2, .int x2)] rfl (i := 3) (by decide) rfl dX10_sounds_9 ?_
  refine J_aload_n rfl (i := 0) rfl dX10_sounds_10 ?_
  refine J_iload_n rfl (i := 1) rfl dX10_sounds_11 ?_
  obtain ⟨v5, hc4, hw⟩ := hw
  refine J_callV (as := [.int x1]) (k := 63) (st := []) cal_X10_chimes cai_X10_chimes gw_1945 ⟨by decide, by decide⟩ cnt_X10_chimes sh_63 rfl rfl (Nat.le_of_ble_eq_true rfl) dX10_sounds_12 (Nat.zero_add _).symm (Nat.zero_add _).symm hc4 ?_
  refine J_if_eq (tgt := 54) dX10_sounds_15 (by decide) (fun hb21 => ?_) (fun hb21 => ?_)
  · replace hw := hw.1 hb21
    refine J_iconst (v := 0) (by decide) dX10_sounds_54 ?_
    exact J_fini (ty := .boolean) rfl rfl dX10_sounds_55 hw
  · replace hw := hw.2 hb21
    refine J_aload_n rfl (i := 0) rfl dX10_sounds_18 ?_
    refine J_iload_n rfl (i := 1) rfl dX10_sounds_19 ?_
    obtain ⟨v8, hc7, hw⟩ := hw
    refine J_callV (as := [.int x1]) (k := 63) (st := []) cal_X10_hangs cai_X10_hangs gw_1684 ⟨by decide, by decide⟩ cnt_X10_hangs sh_63 rfl rfl (Nat.le_of_ble_eq_true rfl) dX10_sounds_20 (Nat.zero_add _).symm (Nat.zero_add _).symm hc7 ?_
    refine J_if_eq (tgt := 54) dX10_sounds_23 (by decide) (fun hb20 => ?_) (fun hb20 => ?_)
    · replace hw := hw.1 hb20
      refine J_iconst (v := 0) (by decide) dX10_sounds_54 ?_
      exact J_fini (ty := .boolean) rfl rfl dX10_sounds_55 hw
    · replace hw := hw.2 hb20
      refine J_iload_n rfl (i := 3) rfl dX10_sounds_26 ?_
      refine J_if_lt (tgt := 54) dX10_sounds_27 (by decide) (fun hb19 => ?_) (fun hb19 => ?_)
      · replace hw := hw.1 hb19
        refine J_iconst (v := 0) (by decide) dX10_sounds_54 ?_
        exact J_fini (ty := .boolean) rfl rfl dX10_sounds_55 hw
      · replace hw := hw.2 hb19
        refine J_iload_n rfl (i := 3) rfl dX10_sounds_30 ?_
        refine J_aload_n rfl (i := 0) rfl dX10_sounds_31 ?_
        refine J_iload_n rfl (i := 1) rfl dX10_sounds_32 ?_
        refine J_bipush (v := 7) (by decide) dX10_sounds_33 ?_
        obtain ⟨v11, hc10, hw⟩ := hw
        refine J_callV (as := [.int x1, .int 7]) (k := 63) (st := [.int (x2 - v2)]) cal_X10_of cai_X10_of gw_1688 ⟨by decide, by decide⟩ cnt_X10_of sh_63 rfl rfl (Nat.le_of_ble_eq_true rfl) dX10_sounds_35 (Nat.zero_add _).symm (Nat.zero_add _).symm hc10 ?_
        obtain ⟨hz18, hw⟩ := hw
        refine J_irem hz18 dX10_sounds_38 ?_
        refine J_if_ne (tgt := 54) dX10_sounds_39 (by decide) (fun hb17 => ?_) (fun hb17 => ?_)
        · replace hw := hw.1 hb17
          refine J_iconst (v := 0) (by decide) dX10_sounds_54 ?_
          exact J_fini (ty := .boolean) rfl rfl dX10_sounds_55 hw
        · replace hw := hw.2 hb17
          refine J_aload_n rfl (i := 0) rfl dX10_sounds_42 ?_
          refine J_iload_n rfl (i := 2) rfl dX10_sounds_43 ?_
          obtain ⟨v14, hc13, hw⟩ := hw
          refine J_callV (as := [.int x2]) (k := 63) (st := []) cal_X10_isSilent cai_X10_isSilent gw_1953 ⟨by decide, by decide⟩ cnt_X10_isSilent sh_63 rfl rfl (Nat.le_of_ble_eq_true rfl) dX10_sounds_44 (Nat.zero_add _).symm (Nat.zero_add _).symm hc13 ?_
          refine J_if_ne (tgt := 54) dX10_sounds_47 (by decide) (fun hb16 => ?_) (fun hb16 => ?_)
          · replace hw := hw.1 hb16
            refine J_iconst (v := 0) (by decide) dX10_sounds_54 ?_
            exact J_fini (ty := .boolean) rfl rfl dX10_sounds_55 hw
          · replace hw := hw.2 hb16
            refine J_iconst (v := 1) (by decide) dX10_sounds_50 ?_
            refine J_goto (tgt := 55) dX10_sounds_51 (by decide) ?_
            exact J_fini (ty := .boolean) rfl rfl dX10_sounds_55 hw
theorem dX10_soundingAt_0 : decode cX10_soundingAt 0 = .ok (.iconst 0, 1) := by decide +kernel
theorem dX10_soundingAt_1 : decode cX10_soundingAt 1 = .ok (.istore_n 2, 1) := by decide +kernel
theorem dX10_soundingAt_2 : decode cX10_soundingAt 2 = .ok (.iconst 0, 1) := by decide +kernel
theorem dX10_soundingAt_3 : decode cX10_soundingAt 3 = .ok (.istore_n 3, 1) := by decide +kernel
theorem dX10_soundingAt_4 : decode cX10_soundingAt 4 = .ok (.iload_n 3, 1) := by decide +kernel
theorem dX10_soundingAt_5 : decode cX10_soundingAt 5 = .ok (.aload_n 0, 1) := by decide +kernel
theorem dX10_soundingAt_6 : decode cX10_soundingAt 6 = .ok (.getfield 206, 3) := by decide +kernel
theorem dX10_soundingAt_9 : decode cX10_soundingAt 9 = .ok (.if_icmp .ge 28, 3) := by decide +kernel
theorem dX10_soundingAt_12 : decode cX10_soundingAt 12 = .ok (.iload_n 2, 1) := by decide +kernel
theorem dX10_soundingAt_13 : decode cX10_soundingAt 13 = .ok (.aload_n 0, 1) := by decide +kernel
theorem dX10_soundingAt_14 : decode cX10_soundingAt 14 = .ok (.iload_n 3, 1) := by decide +kernel
theorem dX10_soundingAt_15 : decode cX10_soundingAt 15 = .ok (.iload_n 1, 1) := by decide +kernel
theorem dX10_soundingAt_16 : decode cX10_soundingAt 16 = .ok (.invokevirtual 370, 3) := by decide +kernel
theorem dX10_soundingAt_19 : decode cX10_soundingAt 19 = .ok (.ifCond .eq 9, 3) := by decide +kernel
theorem dX10_soundingAt_22 : decode cX10_soundingAt 22 = .ok (.iconst 1, 1) := by decide +kernel
theorem dX10_soundingAt_23 : decode cX10_soundingAt 23 = .ok (.iload_n 3, 1) := by decide +kernel
theorem dX10_soundingAt_24 : decode cX10_soundingAt 24 = .ok (.ishl, 1) := by decide +kernel
theorem dX10_soundingAt_25 : decode cX10_soundingAt 25 = .ok (.goto 4, 3) := by decide +kernel
theorem dX10_soundingAt_28 : decode cX10_soundingAt 28 = .ok (.iconst 0, 1) := by decide +kernel
theorem dX10_soundingAt_29 : decode cX10_soundingAt 29 = .ok (.ior, 1) := by decide +kernel
theorem dX10_soundingAt_30 : decode cX10_soundingAt 30 = .ok (.istore_n 2, 1) := by decide +kernel
theorem dX10_soundingAt_31 : decode cX10_soundingAt 31 = .ok (.iinc 3 1, 3) := by decide +kernel
theorem dX10_soundingAt_34 : decode cX10_soundingAt 34 = .ok (.goto (-30), 3) := by decide +kernel
theorem dX10_soundingAt_37 : decode cX10_soundingAt 37 = .ok (.iload_n 2, 1) := by decide +kernel
theorem dX10_soundingAt_38 : decode cX10_soundingAt 38 = .ok (.ireturn, 1) := by decide +kernel
set_option maxRecDepth 20000 in
theorem bX10_soundingAt_0 {G : Gx} {mm : Nat → Nat → Int32} {lm : Nat → Int64} {x1 : Int32} {o : Ou} {z : Wd} {a b : Nat} (hw : J G M_X10_soundingAt 4 [(0, .ref 63), (1, .int x1), (2, .int 0), (3, .int 0)] [] (SH, mm, lm) false o z false a b) :
    J G M_X10_soundingAt 0 [(0, .ref 63), (1, .int x1)] [] (SH, mm, lm) false o z false a b := by
  refine J_iconst (v := 0) (by decide) dX10_soundingAt_0 ?_
  refine J_istore_n [(2, .int 0), (0, .ref 63), (1, .int x1)] rfl (i := 2) (by decide) rfl dX10_soundingAt_1 ?_
  refine J_iconst (v := 0) (by decide) dX10_soundingAt_2 ?_
  refine J_istore_n [(3, .int 0), (2, .int 0), (0, .ref 63), (1, .int x1)] rfl (i := 3) (by decide) rfl dX10_soundingAt_3 ?_
  exact J_sub [2, 3, 1, 0] rfl hw
set_option maxRecDepth 20000 in
theorem bX10_soundingAt_4 {G : Gx} {mm : Nat → Nat → Int32} {lm : Nat → Int64} {x1 : Int32} {x2 : Int32} {x3 : Int32} {o : Ou} {z : Wd} {a b : Nat} (hw : (((mm 63 8) ≤ x3) → o = .inl (some (.int x2)) ∧ z = (SH, mm, lm)) ∧ ((¬ (mm 63 8) ≤ x3) → ∃ (v2 : Int32), Ct G M_X10_sounds [.ref 63, .int x3, .int x1] (SH, mm, lm) false (.inl (some (.int v2))) (SH, mm, lm) false 0 0 ∧ ((v2 = 0) → J G M_X10_soundingAt 4 [(0, .ref 63), (1, .int x1), (2, .int (x2 ||| 0)), (3, .int (x3 + 1))] [] (SH, mm, lm) false o z false a b) ∧ ((¬ v2 = 0) → J G M_X10_soundingAt 4 [(0, .ref 63), (1, .int x1), (2, .int (x2 ||| (1 <<< (x3 &&& 31)))), (3, .int (x3 + 1))] [] (SH, mm, lm) false o z false a b))) :
    J G M_X10_soundingAt 4 [(0, .ref 63), (1, .int x1), (2, .int x2), (3, .int x3)] [] (SH, mm, lm) false o z false a b := by
  refine J_iload_n rfl (i := 3) rfl dX10_soundingAt_4 ?_
  refine J_aload_n rfl (i := 0) rfl dX10_soundingAt_5 ?_
  refine J_geti kls_10 (q := 63) (k := 8) sh_63 (by decide) rfl gw_1441 dX10_soundingAt_6 ?_
  refine J_icmp_ge (tgt := 37) dX10_soundingAt_9 (by decide) (fun hb5 => ?_) (fun hb5 => ?_)
  · replace hw := hw.1 hb5
    refine J_iload_n rfl (i := 2) rfl dX10_soundingAt_37 ?_
    exact J_fini (ty := .int) rfl rfl dX10_soundingAt_38 hw
  · replace hw := hw.2 hb5
    refine J_iload_n rfl (i := 2) rfl dX10_soundingAt_12 ?_
    refine J_aload_n rfl (i := 0) rfl dX10_soundingAt_13 ?_
    refine J_iload_n rfl (i := 3) rfl dX10_soundingAt_14 ?_
    refine J_iload_n rfl (i := 1) rfl dX10_soundingAt_15 ?_
    obtain ⟨v2, hc1, hw⟩ := hw
    refine J_callV (as := [.int x3, .int x1]) (k := 63) (st := [.int x2]) cal_X10_sounds cai_X10_sounds gw_1973 ⟨by decide, by decide⟩ cnt_X10_sounds sh_63 rfl rfl (Nat.le_of_ble_eq_true rfl) dX10_soundingAt_16 (Nat.zero_add _).symm (Nat.zero_add _).symm hc1 ?_
    refine J_if_eq (tgt := 28) dX10_soundingAt_19 (by decide) (fun hb4 => ?_) (fun hb4 => ?_)
    · replace hw := hw.1 hb4
      refine J_iconst (v := 0) (by decide) dX10_soundingAt_28 ?_
      refine J_ior dX10_soundingAt_29 ?_
      refine J_istore_n [(2, .int (x2 ||| 0)), (0, .ref 63), (1, .int x1), (3, .int x3)] rfl (i := 2) (by decide) rfl dX10_soundingAt_30 ?_
      refine J_iinc [(3, .int (x3 + 1)), (2, .int (x2 ||| 0)), (0, .ref 63), (1, .int x1)] (i := 3) (v := (x3 + 1)) rfl rfl (by decide) rfl dX10_soundingAt_31 ?_
      refine J_goto (tgt := 4) dX10_soundingAt_34 (by decide) ?_
      exact J_sub [2, 3, 1, 0] rfl hw
    · replace hw := hw.2 hb4
      refine J_iconst (v := 1) (by decide) dX10_soundingAt_22 ?_
      refine J_iload_n rfl (i := 3) rfl dX10_soundingAt_23 ?_
      refine J_ishl dX10_soundingAt_24 ?_
      refine J_goto (tgt := 29) dX10_soundingAt_25 (by decide) ?_
      refine J_ior dX10_soundingAt_29 ?_
      refine J_istore_n [(2, .int (x2 ||| (1 <<< (x3 &&& 31)))), (0, .ref 63), (1, .int x1), (3, .int x3)] rfl (i := 2) (by decide) rfl dX10_soundingAt_30 ?_
      refine J_iinc [(3, .int (x3 + 1)), (2, .int (x2 ||| (1 <<< (x3 &&& 31)))), (0, .ref 63), (1, .int x1)] (i := 3) (v := (x3 + 1)) rfl rfl (by decide) rfl dX10_soundingAt_31 ?_
      refine J_goto (tgt := 4) dX10_soundingAt_34 (by decide) ?_
      exact J_sub [2, 3, 1, 0] rfl hw
theorem dX10_soundsAt_0 : decode cX10_soundsAt 0 = .ok (.aload_n 0, 1) := by decide +kernel
theorem dX10_soundsAt_1 : decode cX10_soundsAt 1 = .ok (.iload_n 1, 1) := by decide +kernel
theorem dX10_soundsAt_2 : decode cX10_soundsAt 2 = .ok (.i2l, 1) := by decide +kernel
theorem dX10_soundsAt_3 : decode cX10_soundsAt 3 = .ok (.lconst 0, 1) := by decide +kernel
theorem dX10_soundsAt_4 : decode cX10_soundsAt 4 = .ok (.ldc2_w 360, 3) := by decide +kernel
theorem dX10_soundsAt_7 : decode cX10_soundsAt 7 = .ok (.invokestatic 91, 3) := by decide +kernel
theorem dX10_soundsAt_10 : decode cX10_soundsAt 10 = .ok (.invokevirtual 221, 3) := by decide +kernel
theorem dX10_soundsAt_13 : decode cX10_soundsAt 13 = .ok (.ifCond .eq 7, 3) := by decide +kernel
theorem dX10_soundsAt_16 : decode cX10_soundsAt 16 = .ok (.iconst 0, 1) := by decide +kernel
theorem dX10_soundsAt_17 : decode cX10_soundsAt 17 = .ok (.goto 8, 3) := by decide +kernel
theorem dX10_soundsAt_20 : decode cX10_soundsAt 20 = .ok (.aload_n 0, 1) := by decide +kernel
theorem dX10_soundsAt_21 : decode cX10_soundsAt 21 = .ok (.iload_n 1, 1) := by decide +kernel
theorem dX10_soundsAt_22 : decode cX10_soundsAt 22 = .ok (.invokevirtual 373, 3) := by decide +kernel
theorem dX10_soundsAt_25 : decode cX10_soundsAt 25 = .ok (.ireturn, 1) := by decide +kernel
set_option maxRecDepth 20000 in
theorem bX10_soundsAt_0 {G : Gx} {mm : Nat → Nat → Int32} {lm : Nat → Int64} {x1 : Int32} {o : Ou} {z : Wd} {a b : Nat} (hw : ∃ (v2 : Int32), Ct G M_X10_isIn [.long (Int32.toInt64 x1), .long 0, .long 1439] (SH, mm, lm) false (.inl (some (.int v2))) (SH, mm, lm) false 0 0 ∧ ∃ (v5 : Int32) (m6 : Nat → Nat → Int32), Ct G M_X10_isWrong [.ref 63, .int v2] (SH, mm, lm) false (.inl (some (.int v5))) (SH, m6, lm) false 0 0 ∧ ((v5 = 0) → J G M_X10_soundsAt 20 [(0, .ref 63), (1, .int x1)] [] (SH, m6, lm) false o z false a b) ∧ ((¬ v5 = 0) → o = .inl (some (.int 0)) ∧ z = (SH, m6, lm))) :
    J G M_X10_soundsAt 0 [(0, .ref 63), (1, .int x1)] [] (SH, mm, lm) false o z false a b := by
  refine J_aload_n rfl (i := 0) rfl dX10_soundsAt_0 ?_
  refine J_iload_n rfl (i := 1) rfl dX10_soundsAt_1 ?_
  refine J_i2l dX10_soundsAt_2 ?_
  refine J_lconst (v := 0) (by decide) dX10_soundsAt_3 ?_
  refine J_ldc2 gw_1939 dX10_soundsAt_4 ?_
  obtain ⟨v2, hc1, hw⟩ := hw
  refine J_callS (as := [.long (Int32.toInt64 x1), .long 0, .long 1439]) (st := [.ref 63]) cal_X10_isIn cas_X10_isIn gw_1573 ⟨by decide, by decide⟩ cnt_X10_isIn rfl (Nat.le_of_ble_eq_true rfl) dX10_soundsAt_7 (Nat.zero_add _).symm (Nat.zero_add _).symm hc1 ?_
  obtain ⟨v5, m6, hc4, hw⟩ := hw
  refine J_callV (as := [.int v2]) (k := 63) (st := []) cal_X10_isWrong cai_X10_isWrong gw_1663 ⟨by decide, by decide⟩ cnt_X10_isWrong sh_63 rfl rfl (Nat.le_of_ble_eq_true rfl) dX10_soundsAt_10 (Nat.zero_add _).symm (Nat.zero_add _).symm hc4 ?_
  refine J_if_eq (tgt := 20) dX10_soundsAt_13 (by decide) (fun hb7 => ?_) (fun hb7 => ?_)
  · replace hw := hw.1 hb7
    exact hw
  · replace hw := hw.2 hb7
    refine J_iconst (v := 0) (by decide) dX10_soundsAt_16 ?_
    refine J_goto (tgt := 25) dX10_soundsAt_17 (by decide) ?_
    exact J_fini (ty := .int) rfl rfl dX10_soundsAt_25 hw
set_option maxRecDepth 20000 in
theorem bX10_soundsAt_20 {G : Gx} {mm : Nat → Nat → Int32} {lm : Nat → Int64} {x1 : Int32} {o : Ou} {z : Wd} {a b : Nat} (hw : ∃ (v2 : Int32), Ct G M_X10_soundingAt [.ref 63, .int x1] (SH, mm, lm) false (.inl (some (.int v2))) (SH, mm, lm) false 0 0 ∧ o = .inl (some (.int v2)) ∧ z = (SH, mm, lm)) :
    J G M_X10_soundsAt 20 [(0, .ref 63), (1, .int x1)] [] (SH, mm, lm) false o z false a b := by
  refine J_aload_n rfl (i := 0) rfl dX10_soundsAt_20 ?_
  refine J_iload_n rfl (i := 1) rfl dX10_soundsAt_21 ?_
  obtain ⟨v2, hc1, hw⟩ := hw
  refine J_callV (as := [.int x1]) (k := 63) (st := []) cal_X10_soundingAt cai_X10_soundingAt gw_1969 ⟨by decide, by decide⟩ cnt_X10_soundingAt sh_63 rfl rfl (Nat.le_of_ble_eq_true rfl) dX10_soundsAt_22 (Nat.zero_add _).symm (Nat.zero_add _).symm hc1 ?_
  exact J_fini (ty := .int) rfl rfl dX10_soundsAt_25 hw
theorem dX10_soundsPerDay_0 : decode cX10_soundsPerDay 0 = .ok (.aload_n 0, 1) := by decide +kernel
theorem dX10_soundsPerDay_1 : decode cX10_soundsPerDay 1 = .ok (.aload_n 0, 1) := by decide +kernel
theorem dX10_soundsPerDay_2 : decode cX10_soundsPerDay 2 = .ok (.iload_n 1, 1) := by decide +kernel
theorem dX10_soundsPerDay_3 : decode cX10_soundsPerDay 3 = .ok (.invokevirtual 235, 3) := by decide +kernel
theorem dX10_soundsPerDay_6 : decode cX10_soundsPerDay 6 = .ok (.invokevirtual 221, 3) := by decide +kernel
theorem dX10_soundsPerDay_9 : decode cX10_soundsPerDay 9 = .ok (.ifCond .eq 5, 3) := by decide +kernel
theorem dX10_soundsPerDay_12 : decode cX10_soundsPerDay 12 = .ok (.iconst 0, 1) := by decide +kernel
theorem dX10_soundsPerDay_13 : decode cX10_soundsPerDay 13 = .ok (.ireturn, 1) := by decide +kernel
theorem dX10_soundsPerDay_14 : decode cX10_soundsPerDay 14 = .ok (.aload_n 0, 1) := by decide +kernel
theorem dX10_soundsPerDay_15 : decode cX10_soundsPerDay 15 = .ok (.iload_n 1, 1) := by decide +kernel
theorem dX10_soundsPerDay_16 : decode cX10_soundsPerDay 16 = .ok (.invokevirtual 364, 3) := by decide +kernel
theorem dX10_soundsPerDay_19 : decode cX10_soundsPerDay 19 = .ok (.ifCond .ne 6, 3) := by decide +kernel
theorem dX10_soundsPerDay_22 : decode cX10_soundsPerDay 22 = .ok (.bipush (-2), 2) := by decide +kernel
theorem dX10_soundsPerDay_24 : decode cX10_soundsPerDay 24 = .ok (.ireturn, 1) := by decide +kernel
theorem dX10_soundsPerDay_25 : decode cX10_soundsPerDay 25 = .ok (.iconst 0, 1) := by decide +kernel
theorem dX10_soundsPerDay_26 : decode cX10_soundsPerDay 26 = .ok (.istore_n 2, 1) := by decide +kernel
theorem dX10_soundsPerDay_27 : decode cX10_soundsPerDay 27 = .ok (.iconst 0, 1) := by decide +kernel
theorem dX10_soundsPerDay_28 : decode cX10_soundsPerDay 28 = .ok (.istore_n 3, 1) := by decide +kernel
theorem dX10_soundsPerDay_29 : decode cX10_soundsPerDay 29 = .ok (.iload_n 3, 1) := by decide +kernel
theorem dX10_soundsPerDay_30 : decode cX10_soundsPerDay 30 = .ok (.sipush 1440, 3) := by decide +kernel
theorem dX10_soundsPerDay_33 : decode cX10_soundsPerDay 33 = .ok (.if_icmp .ge 26, 3) := by decide +kernel
theorem dX10_soundsPerDay_36 : decode cX10_soundsPerDay 36 = .ok (.iload_n 2, 1) := by decide +kernel
theorem dX10_soundsPerDay_37 : decode cX10_soundsPerDay 37 = .ok (.aload_n 0, 1) := by decide +kernel
theorem dX10_soundsPerDay_38 : decode cX10_soundsPerDay 38 = .ok (.iload_n 1, 1) := by decide +kernel
theorem dX10_soundsPerDay_39 : decode cX10_soundsPerDay 39 = .ok (.iload_n 3, 1) := by decide +kernel
theorem dX10_soundsPerDay_40 : decode cX10_soundsPerDay 40 = .ok (.invokevirtual 370, 3) := by decide +kernel
theorem dX10_soundsPerDay_43 : decode cX10_soundsPerDay 43 = .ok (.ifCond .eq 7, 3) := by decide +kernel
theorem dX10_soundsPerDay_46 : decode cX10_soundsPerDay 46 = .ok (.iconst 1, 1) := by decide +kernel
theorem dX10_soundsPerDay_47 : decode cX10_soundsPerDay 47 = .ok (.goto 4, 3) := by decide +kernel
theorem dX10_soundsPerDay_50 : decode cX10_soundsPerDay 50 = .ok (.iconst 0, 1) := by decide +kernel
theorem dX10_soundsPerDay_51 : decode cX10_soundsPerDay 51 = .ok (.iadd, 1) := by decide +kernel
theorem dX10_soundsPerDay_52 : decode cX10_soundsPerDay 52 = .ok (.istore_n 2, 1) := by decide +kernel
theorem dX10_soundsPerDay_53 : decode cX10_soundsPerDay 53 = .ok (.iinc 3 1, 3) := by decide +kernel
theorem dX10_soundsPerDay_56 : decode cX10_soundsPerDay 56 = .ok (.goto (-27), 3) := by decide +kernel
theorem dX10_soundsPerDay_59 : decode cX10_soundsPerDay 59 = .ok (.iload_n 2, 1) := by decide +kernel
theorem dX10_soundsPerDay_60 : decode cX10_soundsPerDay 60 = .ok (.ireturn, 1) := by decide +kernel
set_option maxRecDepth 20000 in
theorem bX10_soundsPerDay_0 {G : Gx} {mm : Nat → Nat → Int32} {lm : Nat → Int64} {x1 : Int32} {o : Ou} {z : Wd} {a b : Nat} (hw : ∃ (v2 : Int32), Ct G M_X10_isBell [.ref 63, .int x1] (SH, mm, lm) false (.inl (some (.int v2))) (SH, mm, lm) false 0 0 ∧ ∃ (v5 : Int32) (m6 : Nat → Nat → Int32), Ct G M_X10_isWrong [.ref 63, .int v2] (SH, mm, lm) false (.inl (some (.int v5))) (SH, m6, lm) false 0 0 ∧ ((v5 = 0) → J G M_X10_soundsPerDay 14 [(0, .ref 63), (1, .int x1)] [] (SH, m6, lm) false o z false a b) ∧ ((¬ v5 = 0) → o = .inl (some (.int 0)) ∧ z = (SH, m6, lm))) :
    J G M_X10_soundsPerDay 0 [(0, .ref 63), (1, .int x1)] [] (SH, mm, lm) false o z false a b := by
  refine J_aload_n rfl (i := 0) rfl dX10_soundsPerDay_0 ?_
  refine J_aload_n rfl (i := 0) rfl dX10_soundsPerDay_1 ?_
  refine J_iload_n rfl (i := 1) rfl dX10_soundsPerDay_2 ?_
  obtain ⟨v2, hc1, hw⟩ := hw
  refine J_callV (as := [.int x1]) (k := 63) (st := [.ref 63]) cal_X10_isBell cai_X10_isBell gw_1671 ⟨by decide, by decide⟩ cnt_X10_isBell sh_63 rfl rfl (Nat.le_of_ble_eq_true rfl) dX10_soundsPerDay_3 (Nat.zero_add _).symm (Nat.zero_add _).symm hc1 ?_
  obtain ⟨v5, m6, hc4, hw⟩ := hw
  refine J_callV (as := [.int v2]) (k := 63) (st := []) cal_X10_isWrong cai_X10_isWrong gw_1663 ⟨by decide, by decide⟩ cnt_X10_isWrong sh_63 rfl rfl (Nat.le_of_ble_eq_true rfl) dX10_soundsPerDay_6 (Nat.zero_add _).symm (Nat.zero_add _).symm hc4 ?_
  refine J_if_eq (tgt := 14) dX10_soundsPerDay_9 (by decide) (fun hb7 => ?_) (fun hb7 => ?_)
  · replace hw := hw.1 hb7
    exact hw
  · replace hw := hw.2 hb7
    refine J_iconst (v := 0) (by decide) dX10_soundsPerDay_12 ?_
    exact J_fini (ty := .int) rfl rfl dX10_soundsPerDay_13 hw
set_option maxRecDepth 20000 in
theorem bX10_soundsPerDay_14 {G : Gx} {mm : Nat → Nat → Int32} {lm : Nat → Int64} {x1 : Int32} {o : Ou} {z : Wd} {a b : Nat} (hw : ∃ (v2 : Int32), Ct G M_X10_chimes [.ref 63, .int x1] (SH, mm, lm) false (.inl (some (.int v2))) (SH, mm, lm) false 0 0 ∧ ((¬ v2 = 0) → J G M_X10_soundsPerDay 29 [(0, .ref 63), (1, .int x1), (2, .int 0), (3, .int 0)] [] (SH, mm, lm) false o z false a b) ∧ ((v2 = 0) → o = .inl (some (.int (-2))) ∧ z = (SH, mm, lm))) :
    J G M_X10_soundsPerDay 14 [(0, .ref 63), (1, .int x1)] [] (SH, mm, lm) false o z false a b := by
  refine J_aload_n rfl (i := 0) rfl dX10_soundsPerDay_14 ?_
  refine J_iload_n rfl (i := 1) rfl dX10_soundsPerDay_15 ?_
  obtain ⟨v2, hc1, hw⟩ := hw
  refine J_callV (as := [.int x1]) (k := 63) (st := []) cal_X10_chimes cai_X10_chimes gw_1945 ⟨by decide, by decide⟩ cnt_X10_chimes sh_63 rfl rfl (Nat.le_of_ble_eq_true rfl) dX10_soundsPerDay_16 (Nat.zero_add _).symm (Nat.zero_add _).symm hc1 ?_
  refine J_if_ne (tgt := 25) dX10_soundsPerDay_19 (by decide) (fun hb4 => ?_) (fun hb4 => ?_)
  · replace hw := hw.1 hb4
    refine J_iconst (v := 0) (by decide) dX10_soundsPerDay_25 ?_
    refine J_istore_n [(2, .int 0), (0, .ref 63), (1, .int x1)] rfl (i := 2) (by decide) rfl dX10_soundsPerDay_26 ?_
    refine J_iconst (v := 0) (by decide) dX10_soundsPerDay_27 ?_
    refine J_istore_n [(3, .int 0), (2, .int 0), (0, .ref 63), (1, .int x1)] rfl (i := 3) (by decide) rfl dX10_soundsPerDay_28 ?_
    exact J_sub [2, 3, 1, 0] rfl hw
  · replace hw := hw.2 hb4
    refine J_bipush (v := (-2)) (by decide) dX10_soundsPerDay_22 ?_
    exact J_fini (ty := .int) rfl rfl dX10_soundsPerDay_24 hw
set_option maxRecDepth 20000 in
theorem bX10_soundsPerDay_29 {G : Gx} {mm : Nat → Nat → Int32} {lm : Nat → Int64} {x1 : Int32} {x2 : Int32} {x3 : Int32} {o : Ou} {z : Wd} {a b : Nat} (hw : ((1440 ≤ x3) → o = .inl (some (.int x2)) ∧ z = (SH, mm, lm)) ∧ ((¬ 1440 ≤ x3) → ∃ (v2 : Int32), Ct G M_X10_sounds [.ref 63, .int x1, .int x3] (SH, mm, lm) false (.inl (some (.int v2))) (SH, mm, lm) false 0 0 ∧ ((v2 = 0) → J G M_X10_soundsPerDay 29 [(0, .ref 63), (1, .int x1), (2, .int (x2 + 0)), (3, .int (x3 + 1))] [] (SH, mm, lm) false o z false a b) ∧ ((¬ v2 = 0) → J G M_X10_soundsPerDay 29 [(0, .ref 63), (1, .int x1), (2, .int (x2 + 1)), (3, .int (x3 + 1))] [] (SH, mm, lm) false o z false a b))) :
    J G M_X10_soundsPerDay 29 [(0, .ref 63), (1, .int x1), (2, .int x2), (3, .int x3)] [] (SH, mm, lm) false o z false a b := by
  refine J_iload_n rfl (i := 3) rfl dX10_soundsPerDay_29 ?_
  refine J_sipush (v := 1440) (by decide) dX10_soundsPerDay_30 ?_
  refine J_icmp_ge (tgt := 59) dX10_soundsPerDay_33 (by decide) (fun hb5 => ?_) (fun hb5 => ?_)
  · replace hw := hw.1 hb5
    refine J_iload_n rfl (i := 2) rfl dX10_soundsPerDay_59 ?_
    exact J_fini (ty := .int) rfl rfl dX10_soundsPerDay_60 hw
  · replace hw := hw.2 hb5
    refine J_iload_n rfl (i := 2) rfl dX10_soundsPerDay_36 ?_
    refine J_aload_n rfl (i := 0) rfl dX10_soundsPerDay_37 ?_
    refine J_iload_n rfl (i := 1) rfl dX10_soundsPerDay_38 ?_
    refine J_iload_n rfl (i := 3) rfl dX10_soundsPerDay_39 ?_
    obtain ⟨v2, hc1, hw⟩ := hw
    refine J_callV (as := [.int x1, .int x3]) (k := 63) (st := [.int x2]) cal_X10_sounds cai_X10_sounds gw_1973 ⟨by decide, by decide⟩ cnt_X10_sounds sh_63 rfl rfl (Nat.le_of_ble_eq_true rfl) dX10_soundsPerDay_40 (Nat.zero_add _).symm (Nat.zero_add _).symm hc1 ?_
    refine J_if_eq (tgt := 50) dX10_soundsPerDay_43 (by decide) (fun hb4 => ?_) (fun hb4 => ?_)
    · replace hw := hw.1 hb4
      refine J_iconst (v := 0) (by decide) dX10_soundsPerDay_50 ?_
      refine J_iadd dX10_soundsPerDay_51 ?_
      refine J_istore_n [(2, .int (x2 + 0)), (0, .ref 63), (1, .int x1), (3, .int x3)] rfl (i := 2) (by decide) rfl dX10_soundsPerDay_52 ?_
      refine J_iinc [(3, .int (x3 + 1)), (2, .int (x2 + 0)), (0, .ref 63), (1, .int x1)] (i := 3) (v := (x3 + 1)) rfl rfl (by decide) rfl dX10_soundsPerDay_53 ?_
      refine J_goto (tgt := 29) dX10_soundsPerDay_56 (by decide) ?_
      exact J_sub [2, 3, 1, 0] rfl hw
    · replace hw := hw.2 hb4
      refine J_iconst (v := 1) (by decide) dX10_soundsPerDay_46 ?_
      refine J_goto (tgt := 51) dX10_soundsPerDay_47 (by decide) ?_
      refine J_iadd dX10_soundsPerDay_51 ?_
      refine J_istore_n [(2, .int (x2 + 1)), (0, .ref 63), (1, .int x1), (3, .int x3)] rfl (i := 2) (by decide) rfl dX10_soundsPerDay_52 ?_
      refine J_iinc [(3, .int (x3 + 1)), (2, .int (x2 + 1)), (0, .ref 63), (1, .int x1)] (i := 3) (v := (x3 + 1)) rfl rfl (by decide) rfl dX10_soundsPerDay_53 ?_
      refine J_goto (tgt := 29) dX10_soundsPerDay_56 (by decide) ?_
      exact J_sub [2, 3, 1, 0] rfl hw
theorem dX10_nextSound_0 : decode cX10_nextSound 0 = .ok (.aload_n 0, 1) := by decide +kernel
theorem dX10_nextSound_1 : decode cX10_nextSound 1 = .ok (.iload_n 1, 1) := by decide +kernel
theorem dX10_nextSound_2 : decode cX10_nextSound 2 = .ok (.i2l, 1) := by decide +kernel
theorem dX10_nextSound_3 : decode cX10_nextSound 3 = .ok (.lconst 0, 1) := by decide +kernel
theorem dX10_nextSound_4 : decode cX10_nextSound 4 = .ok (.ldc2_w 360, 3) := by decide +kernel
theorem dX10_nextSound_7 : decode cX10_nextSound 7 = .ok (.invokestatic 91, 3) := by decide +kernel
theorem dX10_nextSound_10 : decode cX10_nextSound 10 = .ok (.invokevirtual 221, 3) := by decide +kernel
theorem dX10_nextSound_13 : decode cX10_nextSound 13 = .ok (.ifCond .eq 5, 3) := by decide +kernel
theorem dX10_nextSound_16 : decode cX10_nextSound 16 = .ok (.iconst 0, 1) := by decide +kernel
theorem dX10_nextSound_17 : decode cX10_nextSound 17 = .ok (.ireturn, 1) := by decide +kernel
theorem dX10_nextSound_18 : decode cX10_nextSound 18 = .ok (.iload_n 1, 1) := by decide +kernel
theorem dX10_nextSound_19 : decode cX10_nextSound 19 = .ok (.istore_n 2, 1) := by decide +kernel
theorem dX10_nextSound_20 : decode cX10_nextSound 20 = .ok (.iload_n 2, 1) := by decide +kernel
theorem dX10_nextSound_21 : decode cX10_nextSound 21 = .ok (.sipush 1440, 3) := by decide +kernel
theorem dX10_nextSound_24 : decode cX10_nextSound 24 = .ok (.if_icmp .ge 19, 3) := by decide +kernel
theorem dX10_nextSound_27 : decode cX10_nextSound 27 = .ok (.aload_n 0, 1) := by decide +kernel
theorem dX10_nextSound_28 : decode cX10_nextSound 28 = .ok (.iload_n 2, 1) := by decide +kernel
theorem dX10_nextSound_29 : decode cX10_nextSound 29 = .ok (.invokevirtual 373, 3) := by decide +kernel
theorem dX10_nextSound_32 : decode cX10_nextSound 32 = .ok (.ifCond .eq 5, 3) := by decide +kernel
theorem dX10_nextSound_35 : decode cX10_nextSound 35 = .ok (.iload_n 2, 1) := by decide +kernel
theorem dX10_nextSound_36 : decode cX10_nextSound 36 = .ok (.ireturn, 1) := by decide +kernel
theorem dX10_nextSound_37 : decode cX10_nextSound 37 = .ok (.iinc 2 1, 3) := by decide +kernel
theorem dX10_nextSound_40 : decode cX10_nextSound 40 = .ok (.goto (-20), 3) := by decide +kernel
theorem dX10_nextSound_43 : decode cX10_nextSound 43 = .ok (.bipush (-2), 2) := by decide +kernel
theorem dX10_nextSound_45 : decode cX10_nextSound 45 = .ok (.ireturn, 1) := by decide +kernel
set_option maxRecDepth 20000 in
theorem bX10_nextSound_0 {G : Gx} {mm : Nat → Nat → Int32} {lm : Nat → Int64} {x1 : Int32} {o : Ou} {z : Wd} {a b : Nat} (hw : ∃ (v2 : Int32), Ct G M_X10_isIn [.long (Int32.toInt64 x1), .long 0, .long 1439] (SH, mm, lm) false (.inl (some (.int v2))) (SH, mm, lm) false 0 0 ∧ ∃ (v5 : Int32) (m6 : Nat → Nat → Int32), Ct G M_X10_isWrong [.ref 63, .int v2] (SH, mm, lm) false (.inl (some (.int v5))) (SH, m6, lm) false 0 0 ∧ ((v5 = 0) → J G M_X10_nextSound 18 [(0, .ref 63), (1, .int x1)] [] (SH, m6, lm) false o z false a b) ∧ ((¬ v5 = 0) → o = .inl (some (.int 0)) ∧ z = (SH, m6, lm))) :
    J G M_X10_nextSound 0 [(0, .ref 63), (1, .int x1)] [] (SH, mm, lm) false o z false a b := by
  refine J_aload_n rfl (i := 0) rfl dX10_nextSound_0 ?_
  refine J_iload_n rfl (i := 1) rfl dX10_nextSound_1 ?_
  refine J_i2l dX10_nextSound_2 ?_
  refine J_lconst (v := 0) (by decide) dX10_nextSound_3 ?_
  refine J_ldc2 gw_1939 dX10_nextSound_4 ?_
  obtain ⟨v2, hc1, hw⟩ := hw
  refine J_callS (as := [.long (Int32.toInt64 x1), .long 0, .long 1439]) (st := [.ref 63]) cal_X10_isIn cas_X10_isIn gw_1573 ⟨by decide, by decide⟩ cnt_X10_isIn rfl (Nat.le_of_ble_eq_true rfl) dX10_nextSound_7 (Nat.zero_add _).symm (Nat.zero_add _).symm hc1 ?_
  obtain ⟨v5, m6, hc4, hw⟩ := hw
  refine J_callV (as := [.int v2]) (k := 63) (st := []) cal_X10_isWrong cai_X10_isWrong gw_1663 ⟨by decide, by decide⟩ cnt_X10_isWrong sh_63 rfl rfl (Nat.le_of_ble_eq_true rfl) dX10_nextSound_10 (Nat.zero_add _).symm (Nat.zero_add _).symm hc4 ?_
  refine J_if_eq (tgt := 18) dX10_nextSound_13 (by decide) (fun hb7 => ?_) (fun hb7 => ?_)
  · replace hw := hw.1 hb7
    exact hw
  · replace hw := hw.2 hb7
    refine J_iconst (v := 0) (by decide) dX10_nextSound_16 ?_
    exact J_fini (ty := .int) rfl rfl dX10_nextSound_17 hw
set_option maxRecDepth 20000 in
theorem bX10_nextSound_18 {G : Gx} {mm : Nat → Nat → Int32} {lm : Nat → Int64} {x1 : Int32} {o : Ou} {z : Wd} {a b : Nat} (hw : J G M_X10_nextSound 20 [(0, .ref 63), (2, .int x1)] [] (SH, mm, lm) false o z false a b) :
    J G M_X10_nextSound 18 [(0, .ref 63), (1, .int x1)] [] (SH, mm, lm) false o z false a b := by
  refine J_iload_n rfl (i := 1) rfl dX10_nextSound_18 ?_
  refine J_istore_n [(2, .int x1), (0, .ref 63), (1, .int x1)] rfl (i := 2) (by decide) rfl dX10_nextSound_19 ?_
  exact J_sub [1, 0] rfl hw
set_option maxRecDepth 20000 in
theorem bX10_nextSound_20 {G : Gx} {mm : Nat → Nat → Int32} {lm : Nat → Int64} {x2 : Int32} {o : Ou} {z : Wd} {a b : Nat} (hw : ((1440 ≤ x2) → o = .inl (some (.int (-2))) ∧ z = (SH, mm, lm)) ∧ ((¬ 1440 ≤ x2) → ∃ (v2 : Int32), Ct G M_X10_soundingAt [.ref 63, .int x2] (SH, mm, lm) false (.inl (some (.int v2))) (SH, mm, lm) false 0 0 ∧ ((v2 = 0) → J G M_X10_nextSound 20 [(0, .ref 63), (2, .int (x2 + 1))] [] (SH, mm, lm) false o z false a b) ∧ ((¬ v2 = 0) → o = .inl (some (.int x2)) ∧ z = (SH, mm, lm)))) :
    J G M_X10_nextSound 20 [(0, .ref 63), (2, .int x2)] [] (SH, mm, lm) false o z false a b := by
  refine J_iload_n rfl (i := 2) rfl dX10_nextSound_20 ?_
  refine J_sipush (v := 1440) (by decide) dX10_nextSound_21 ?_
  refine J_icmp_ge (tgt := 43) dX10_nextSound_24 (by decide) (fun hb5 => ?_) (fun hb5 => ?_)
  · replace hw := hw.1 hb5
    refine J_bipush (v := (-2)) (by decide) dX10_nextSound_43 ?_
    exact J_fini (ty := .int) rfl rfl dX10_nextSound_45 hw
  · replace hw := hw.2 hb5
    refine J_aload_n rfl (i := 0) rfl dX10_nextSound_27 ?_
    refine J_iload_n rfl (i := 2) rfl dX10_nextSound_28 ?_
    obtain ⟨v2, hc1, hw⟩ := hw
    refine J_callV (as := [.int x2]) (k := 63) (st := []) cal_X10_soundingAt cai_X10_soundingAt gw_1969 ⟨by decide, by decide⟩ cnt_X10_soundingAt sh_63 rfl rfl (Nat.le_of_ble_eq_true rfl) dX10_nextSound_29 (Nat.zero_add _).symm (Nat.zero_add _).symm hc1 ?_
    refine J_if_eq (tgt := 37) dX10_nextSound_32 (by decide) (fun hb4 => ?_) (fun hb4 => ?_)
    · replace hw := hw.1 hb4
      refine J_iinc [(2, .int (x2 + 1)), (0, .ref 63)] (i := 2) (v := (x2 + 1)) rfl rfl (by decide) rfl dX10_nextSound_37 ?_
      refine J_goto (tgt := 20) dX10_nextSound_40 (by decide) ?_
      exact J_sub [1, 0] rfl hw
    · replace hw := hw.2 hb4
      refine J_iload_n rfl (i := 2) rfl dX10_nextSound_35 ?_
      exact J_fini (ty := .int) rfl rfl dX10_nextSound_36 hw
theorem dX10_busiestMinute_0 : decode cX10_busiestMinute 0 = .ok (.aload_n 0, 1) := by decide +kernel
theorem dX10_busiestMinute_1 : decode cX10_busiestMinute 1 = .ok (.iconst 1, 1) := by decide +kernel
theorem dX10_busiestMinute_2 : decode cX10_busiestMinute 2 = .ok (.invokevirtual 221, 3) := by decide +kernel
theorem dX10_busiestMinute_5 : decode cX10_busiestMinute 5 = .ok (.ifCond .eq 5, 3) := by decide +kernel
theorem dX10_busiestMinute_8 : decode cX10_busiestMinute 8 = .ok (.iconst 0, 1) := by decide +kernel
theorem dX10_busiestMinute_9 : decode cX10_busiestMinute 9 = .ok (.ireturn, 1) := by decide +kernel
theorem dX10_busiestMinute_10 : decode cX10_busiestMinute 10 = .ok (.bipush (-2), 2) := by decide +kernel
theorem dX10_busiestMinute_12 : decode cX10_busiestMinute 12 = .ok (.istore_n 1, 1) := by decide +kernel
theorem dX10_busiestMinute_13 : decode cX10_busiestMinute 13 = .ok (.iconst 0, 1) := by decide +kernel
theorem dX10_busiestMinute_14 : decode cX10_busiestMinute 14 = .ok (.istore_n 2, 1) := by decide +kernel
theorem dX10_busiestMinute_15 : decode cX10_busiestMinute 15 = .ok (.iconst 0, 1) := by decide +kernel
theorem dX10_busiestMinute_16 : decode cX10_busiestMinute 16 = .ok (.istore_n 3, 1) := by decide +kernel
theorem dX10_busiestMinute_17 : decode cX10_busiestMinute 17 = .ok (.iload_n 3, 1) := by decide +kernel
theorem dX10_busiestMinute_18 : decode cX10_busiestMinute 18 = .ok (.sipush 1440, 3) := by decide +kernel
theorem dX10_busiestMinute_21 : decode cX10_busiestMinute 21 = .ok (.if_icmp .ge 30, 3) := by decide +kernel
theorem dX10_busiestMinute_24 : decode cX10_busiestMinute 24 = .ok (.aload_n 0, 1) := by decide +kernel
theorem dX10_busiestMinute_25 : decode cX10_busiestMinute 25 = .ok (.iload_n 3, 1) := by decide +kernel
theorem dX10_busiestMinute_26 : decode cX10_busiestMinute 26 = .ok (.invokevirtual 373, 3) := by decide +kernel
theorem dX10_busiestMinute_29 : decode cX10_busiestMinute 29 = .ok (.invokestatic 280, 3) := by decide +kernel
theorem dX10_busiestMinute_32 : decode cX10_busiestMinute 32 = .ok (.istore 4, 2) := by decide +kernel
theorem dX10_busiestMinute_34 : decode cX10_busiestMinute 34 = .ok (.iload 4, 2) := by decide +kernel
theorem dX10_busiestMinute_36 : decode cX10_busiestMinute 36 = .ok (.iload_n 2, 1) := by decide +kernel
theorem dX10_busiestMinute_37 : decode cX10_busiestMinute 37 = .ok (.if_icmp .le 8, 3) := by decide +kernel
theorem dX10_busiestMinute_40 : decode cX10_busiestMinute 40 = .ok (.iload_n 3, 1) := by decide +kernel
theorem dX10_busiestMinute_41 : decode cX10_busiestMinute 41 = .ok (.istore_n 1, 1) := by decide +kernel
theorem dX10_busiestMinute_42 : decode cX10_busiestMinute 42 = .ok (.iload 4, 2) := by decide +kernel
theorem dX10_busiestMinute_44 : decode cX10_busiestMinute 44 = .ok (.istore_n 2, 1) := by decide +kernel
theorem dX10_busiestMinute_45 : decode cX10_busiestMinute 45 = .ok (.iinc 3 1, 3) := by decide +kernel
theorem dX10_busiestMinute_48 : decode cX10_busiestMinute 48 = .ok (.goto (-31), 3) := by decide +kernel
theorem dX10_busiestMinute_51 : decode cX10_busiestMinute 51 = .ok (.iload_n 1, 1) := by decide +kernel
theorem dX10_busiestMinute_52 : decode cX10_busiestMinute 52 = .ok (.ireturn, 1) := by decide +kernel
set_option maxRecDepth 20000 in
theorem bX10_busiestMinute_0 {G : Gx} {mm : Nat → Nat → Int32} {lm : Nat → Int64}  {o : Ou} {z : Wd} {a b : Nat} (hw : ∃ (v2 : Int32) (m3 : Nat → Nat → Int32), Ct G M_X10_isWrong [.ref 63, .int 1] (SH, mm, lm) false (.inl (some (.int v2))) (SH, m3, lm) false 0 0 ∧ ((v2 = 0) → J G M_X10_busiestMinute 10 [(0, .ref 63)] [] (SH, m3, lm) false o z false a b) ∧ ((¬ v2 = 0) → o = .inl (some (.int 0)) ∧ z = (SH, m3, lm))) :
    J G M_X10_busiestMinute 0 [(0, .ref 63)] [] (SH, mm, lm) false o z false a b := by
  refine J_aload_n rfl (i := 0) rfl dX10_busiestMinute_0 ?_
  refine J_iconst (v := 1) (by decide) dX10_busiestMinute_1 ?_
  obtain ⟨v2, m3, hc1, hw⟩ := hw
  refine J_callV (as := [.int 1]) (k := 63) (st := []) cal_X10_isWrong cai_X10_isWrong gw_1663 ⟨by decide, by decide⟩ cnt_X10_isWrong sh_63 rfl rfl (Nat.le_of_ble_eq_true rfl) dX10_busiestMinute_2 (Nat.zero_add _).symm (Nat.zero_add _).symm hc1 ?_
  refine J_if_eq (tgt := 10) dX10_busiestMinute_5 (by decide) (fun hb4 => ?_) (fun hb4 => ?_)
  · replace hw := hw.1 hb4
    exact hw
  · replace hw := hw.2 hb4
    refine J_iconst (v := 0) (by decide) dX10_busiestMinute_8 ?_
    exact J_fini (ty := .int) rfl rfl dX10_busiestMinute_9 hw
set_option maxRecDepth 20000 in
theorem bX10_busiestMinute_10 {G : Gx} {mm : Nat → Nat → Int32} {lm : Nat → Int64}  {o : Ou} {z : Wd} {a b : Nat} (hw : J G M_X10_busiestMinute 17 [(0, .ref 63), (1, .int (-2)), (2, .int 0), (3, .int 0)] [] (SH, mm, lm) false o z false a b) :
    J G M_X10_busiestMinute 10 [(0, .ref 63)] [] (SH, mm, lm) false o z false a b := by
  refine J_bipush (v := (-2)) (by decide) dX10_busiestMinute_10 ?_
  refine J_istore_n [(1, .int (-2)), (0, .ref 63)] rfl (i := 1) (by decide) rfl dX10_busiestMinute_12 ?_
  refine J_iconst (v := 0) (by decide) dX10_busiestMinute_13 ?_
  refine J_istore_n [(2, .int 0), (1, .int (-2)), (0, .ref 63)] rfl (i := 2) (by decide) rfl dX10_busiestMinute_14 ?_
  refine J_iconst (v := 0) (by decide) dX10_busiestMinute_15 ?_
  refine J_istore_n [(3, .int 0), (2, .int 0), (1, .int (-2)), (0, .ref 63)] rfl (i := 3) (by decide) rfl dX10_busiestMinute_16 ?_
  exact J_sub [3, 2, 1, 0] rfl hw
set_option maxRecDepth 20000 in
theorem bX10_busiestMinute_17 {G : Gx} {mm : Nat → Nat → Int32} {lm : Nat → Int64} {x1 : Int32} {x2 : Int32} {x3 : Int32} {o : Ou} {z : Wd} {a b : Nat} (hw : ((1440 ≤ x3) → o = .inl (some (.int x1)) ∧ z = (SH, mm, lm)) ∧ ((¬ 1440 ≤ x3) → ∃ (v2 : Int32), Ct G M_X10_soundingAt [.ref 63, .int x3] (SH, mm, lm) false (.inl (some (.int v2))) (SH, mm, lm) false 0 0 ∧ ∃ (v5 : Int32), Ct G M_X10_count [.int v2] (SH, mm, lm) false (.inl (some (.int v5))) (SH, mm, lm) false 0 0 ∧ ((v5 ≤ x2) → J G M_X10_busiestMinute 17 [(0, .ref 63), (1, .int x1), (2, .int x2), (3, .int (x3 + 1))] [] (SH, mm, lm) false o z false a b) ∧ ((¬ v5 ≤ x2) → J G M_X10_busiestMinute 17 [(0, .ref 63), (1, .int x3), (2, .int v5), (3, .int (x3 + 1))] [] (SH, mm, lm) false o z false a b))) :
    J G M_X10_busiestMinute 17 [(0, .ref 63), (1, .int x1), (2, .int x2), (3, .int x3)] [] (SH, mm, lm) false o z false a b := by
  refine J_iload_n rfl (i := 3) rfl dX10_busiestMinute_17 ?_
  refine J_sipush (v := 1440) (by decide) dX10_busiestMinute_18 ?_
  refine J_icmp_ge (tgt := 51) dX10_busiestMinute_21 (by decide) (fun hb8 => ?_) (fun hb8 => ?_)
  · replace hw := hw.1 hb8
    refine J_iload_n rfl (i := 1) rfl dX10_busiestMinute_51 ?_
    exact J_fini (ty := .int) rfl rfl dX10_busiestMinute_52 hw
  · replace hw := hw.2 hb8
    refine J_aload_n rfl (i := 0) rfl dX10_busiestMinute_24 ?_
    refine J_iload_n rfl (i := 3) rfl dX10_busiestMinute_25 ?_
    obtain ⟨v2, hc1, hw⟩ := hw
    refine J_callV (as := [.int x3]) (k := 63) (st := []) cal_X10_soundingAt cai_X10_soundingAt gw_1969 ⟨by decide, by decide⟩ cnt_X10_soundingAt sh_63 rfl rfl (Nat.le_of_ble_eq_true rfl) dX10_busiestMinute_26 (Nat.zero_add _).symm (Nat.zero_add _).symm hc1 ?_
    obtain ⟨v5, hc4, hw⟩ := hw
    refine J_callS (as := [.int v2]) (st := []) cal_X10_count cas_X10_count gw_1771 ⟨by decide, by decide⟩ cnt_X10_count rfl (Nat.le_of_ble_eq_true rfl) dX10_busiestMinute_29 (Nat.zero_add _).symm (Nat.zero_add _).symm hc4 ?_
    refine J_istore [(4, .int v5), (0, .ref 63), (1, .int x1), (2, .int x2), (3, .int x3)] (i := 4) (by decide) rfl dX10_busiestMinute_32 ?_
    refine J_iload (i := 4) rfl dX10_busiestMinute_34 ?_
    refine J_iload_n rfl (i := 2) rfl dX10_busiestMinute_36 ?_
    refine J_icmp_le (tgt := 45) dX10_busiestMinute_37 (by decide) (fun hb7 => ?_) (fun hb7 => ?_)
    · replace hw := hw.1 hb7
      refine J_iinc [(3, .int (x3 + 1)), (4, .int v5), (0, .ref 63), (1, .int x1), (2, .int x2)] (i := 3) (v := (x3 + 1)) rfl rfl (by decide) rfl dX10_busiestMinute_45 ?_
      refine J_goto (tgt := 17) dX10_busiestMinute_48 (by decide) ?_
      exact J_sub [2, 3, 4, 0] rfl hw
    · replace hw := hw.2 hb7
      refine J_iload_n rfl (i := 3) rfl dX10_busiestMinute_40 ?_
      refine J_istore_n [(1, .int x3), (4, .int v5), (0, .ref 63), (2, .int x2), (3, .int x3)] rfl (i := 1) (by decide) rfl dX10_busiestMinute_41 ?_
      refine J_iload (i := 4) rfl dX10_busiestMinute_42 ?_
      refine J_istore_n [(2, .int v5), (1, .int x3), (4, .int v5), (0, .ref 63), (3, .int x3)] rfl (i := 2) (by decide) rfl dX10_busiestMinute_44 ?_
      refine J_iinc [(3, .int (x3 + 1)), (2, .int v5), (1, .int x3), (4, .int v5), (0, .ref 63)] (i := 3) (v := (x3 + 1)) rfl rfl (by decide) rfl dX10_busiestMinute_45 ?_
      refine J_goto (tgt := 17) dX10_busiestMinute_48 (by decide) ?_
      exact J_sub [4, 2, 1, 0] rfl hw
theorem dX10_soundTogether_0 : decode cX10_soundTogether 0 = .ok (.aload_n 0, 1) := by decide +kernel
theorem dX10_soundTogether_1 : decode cX10_soundTogether 1 = .ok (.aload_n 0, 1) := by decide +kernel
theorem dX10_soundTogether_2 : decode cX10_soundTogether 2 = .ok (.iload_n 1, 1) := by decide +kernel
theorem dX10_soundTogether_3 : decode cX10_soundTogether 3 = .ok (.invokevirtual 235, 3) := by decide +kernel
theorem dX10_soundTogether_6 : decode cX10_soundTogether 6 = .ok (.ifCond .eq 15, 3) := by decide +kernel
theorem dX10_soundTogether_9 : decode cX10_soundTogether 9 = .ok (.aload_n 0, 1) := by decide +kernel
theorem dX10_soundTogether_10 : decode cX10_soundTogether 10 = .ok (.iload_n 2, 1) := by decide +kernel
theorem dX10_soundTogether_11 : decode cX10_soundTogether 11 = .ok (.invokevirtual 235, 3) := by decide +kernel
theorem dX10_soundTogether_14 : decode cX10_soundTogether 14 = .ok (.ifCond .eq 7, 3) := by decide +kernel
theorem dX10_soundTogether_17 : decode cX10_soundTogether 17 = .ok (.iconst 1, 1) := by decide +kernel
theorem dX10_soundTogether_18 : decode cX10_soundTogether 18 = .ok (.goto 4, 3) := by decide +kernel
theorem dX10_soundTogether_21 : decode cX10_soundTogether 21 = .ok (.iconst 0, 1) := by decide +kernel
theorem dX10_soundTogether_22 : decode cX10_soundTogether 22 = .ok (.invokevirtual 221, 3) := by decide +kernel
theorem dX10_soundTogether_25 : decode cX10_soundTogether 25 = .ok (.ifCond .eq 5, 3) := by decide +kernel
theorem dX10_soundTogether_28 : decode cX10_soundTogether 28 = .ok (.iconst 0, 1) := by decide +kernel
theorem dX10_soundTogether_29 : decode cX10_soundTogether 29 = .ok (.ireturn, 1) := by decide +kernel
theorem dX10_soundTogether_30 : decode cX10_soundTogether 30 = .ok (.aload_n 0, 1) := by decide +kernel
theorem dX10_soundTogether_31 : decode cX10_soundTogether 31 = .ok (.iload_n 1, 1) := by decide +kernel
theorem dX10_soundTogether_32 : decode cX10_soundTogether 32 = .ok (.invokevirtual 364, 3) := by decide +kernel
theorem dX10_soundTogether_35 : decode cX10_soundTogether 35 = .ok (.ifCond .eq 11, 3) := by decide +kernel
theorem dX10_soundTogether_38 : decode cX10_soundTogether 38 = .ok (.aload_n 0, 1) := by decide +kernel
theorem dX10_soundTogether_39 : decode cX10_soundTogether 39 = .ok (.iload_n 2, 1) := by decide +kernel
theorem dX10_soundTogether_40 : decode cX10_soundTogether 40 = .ok (.invokevirtual 364, 3) := by decide +kernel
theorem dX10_soundTogether_43 : decode cX10_soundTogether 43 = .ok (.ifCond .ne 6, 3) := by decide +kernel
theorem dX10_soundTogether_46 : decode cX10_soundTogether 46 = .ok (.bipush (-2), 2) := by decide +kernel
theorem dX10_soundTogether_48 : decode cX10_soundTogether 48 = .ok (.ireturn, 1) := by decide +kernel
theorem dX10_soundTogether_49 : decode cX10_soundTogether 49 = .ok (.iconst 0, 1) := by decide +kernel
theorem dX10_soundTogether_50 : decode cX10_soundTogether 50 = .ok (.istore_n 3, 1) := by decide +kernel
theorem dX10_soundTogether_51 : decode cX10_soundTogether 51 = .ok (.iconst 0, 1) := by decide +kernel
theorem dX10_soundTogether_52 : decode cX10_soundTogether 52 = .ok (.istore 4, 2) := by decide +kernel
theorem dX10_soundTogether_54 : decode cX10_soundTogether 54 = .ok (.iload 4, 2) := by decide +kernel
theorem dX10_soundTogether_56 : decode cX10_soundTogether 56 = .ok (.sipush 1440, 3) := by decide +kernel
theorem dX10_soundTogether_59 : decode cX10_soundTogether 59 = .ok (.if_icmp .ge 37, 3) := by decide +kernel
theorem dX10_soundTogether_62 : decode cX10_soundTogether 62 = .ok (.iload_n 3, 1) := by decide +kernel
theorem dX10_soundTogether_63 : decode cX10_soundTogether 63 = .ok (.aload_n 0, 1) := by decide +kernel
theorem dX10_soundTogether_64 : decode cX10_soundTogether 64 = .ok (.iload_n 1, 1) := by decide +kernel
theorem dX10_soundTogether_65 : decode cX10_soundTogether 65 = .ok (.iload 4, 2) := by decide +kernel
theorem dX10_soundTogether_67 : decode cX10_soundTogether 67 = .ok (.invokevirtual 370, 3) := by decide +kernel
theorem dX10_soundTogether_70 : decode cX10_soundTogether 70 = .ok (.ifCond .eq 17, 3) := by decide +kernel
theorem dX10_soundTogether_73 : decode cX10_soundTogether 73 = .ok (.aload_n 0, 1) := by decide +kernel
theorem dX10_soundTogether_74 : decode cX10_soundTogether 74 = .ok (.iload_n 2, 1) := by decide +kernel
theorem dX10_soundTogether_75 : decode cX10_soundTogether 75 = .ok (.iload 4, 2) := by decide +kernel
theorem dX10_soundTogether_77 : decode cX10_soundTogether 77 = .ok (.invokevirtual 370, 3) := by decide +kernel
theorem dX10_soundTogether_80 : decode cX10_soundTogether 80 = .ok (.ifCond .eq 7, 3) := by decide +kernel
theorem dX10_soundTogether_83 : decode cX10_soundTogether 83 = .ok (.iconst 1, 1) := by decide +kernel
theorem dX10_soundTogether_84 : decode cX10_soundTogether 84 = .ok (.goto 4, 3) := by decide +kernel
theorem dX10_soundTogether_87 : decode cX10_soundTogether 87 = .ok (.iconst 0, 1) := by decide +kernel
theorem dX10_soundTogether_88 : decode cX10_soundTogether 88 = .ok (.iadd, 1) := by decide +kernel
theorem dX10_soundTogether_89 : decode cX10_soundTogether 89 = .ok (.istore_n 3, 1) := by decide +kernel
theorem dX10_soundTogether_90 : decode cX10_soundTogether 90 = .ok (.iinc 4 1, 3) := by decide +kernel
theorem dX10_soundTogether_93 : decode cX10_soundTogether 93 = .ok (.goto (-39), 3) := by decide +kernel
theorem dX10_soundTogether_96 : decode cX10_soundTogether 96 = .ok (.iload_n 3, 1) := by decide +kernel
theorem dX10_soundTogether_97 : decode cX10_soundTogether 97 = .ok (.ireturn, 1) := by decide +kernel
set_option maxRecDepth 20000 in
theorem bX10_soundTogether_0 {G : Gx} {mm : Nat → Nat → Int32} {lm : Nat → Int64} {x1 : Int32} {x2 : Int32} {o : Ou} {z : Wd} {a b : Nat} (hw : ∃ (v2 : Int32), Ct G M_X10_isBell [.ref 63, .int x1] (SH, mm, lm) false (.inl (some (.int v2))) (SH, mm, lm) false 0 0 ∧ ((v2 = 0) → ∃ (v5 : Int32) (m6 : Nat → Nat → Int32), Ct G M_X10_isWrong [.ref 63, .int 0] (SH, mm, lm) false (.inl (some (.int v5))) (SH, m6, lm) false 0 0 ∧ ((v5 = 0) → J G M_X10_soundTogether 30 [(0, .ref 63), (1, .int x1), (2, .int x2)] [] (SH, m6, lm) false o z false a b) ∧ ((¬ v5 = 0) → o = .inl (some (.int 0)) ∧ z = (SH, m6, lm))) ∧ ((¬ v2 = 0) → ∃ (v9 : Int32), Ct G M_X10_isBell [.ref 63, .int x2] (SH, mm, lm) false (.inl (some (.int v9))) (SH, mm, lm) false 0 0 ∧ ((v9 = 0) → ∃ (v12 : Int32) (m13 : Nat → Nat → Int32), Ct G M_X10_isWrong [.ref 63, .int 0] (SH, mm, lm) false (.inl (some (.int v12))) (SH, m13, lm) false 0 0 ∧ ((v12 = 0) → J G M_X10_soundTogether 30 [(0, .ref 63), (1, .int x1), (2, .int x2)] [] (SH, m13, lm) false o z false a b) ∧ ((¬ v12 = 0) → o = .inl (some (.int 0)) ∧ z = (SH, m13, lm))) ∧ ((¬ v9 = 0) → ∃ (v16 : Int32) (m17 : Nat → Nat → Int32), Ct G M_X10_isWrong [.ref 63, .int 1] (SH, mm, lm) false (.inl (some (.int v16))) (SH, m17, lm) false 0 0 ∧ ((v16 = 0) → J G M_X10_soundTogether 30 [(0, .ref 63), (1, .int x1), (2, .int x2)] [] (SH, m17, lm) false o z false a b) ∧ ((¬ v16 = 0) → o = .inl (some (.int 0)) ∧ z = (SH, m17, lm))))) :
    J G M_X10_soundTogether 0 [(0, .ref 63), (1, .int x1), (2, .int x2)] [] (SH, mm, lm) false o z false a b := by
  refine J_aload_n rfl (i := 0) rfl dX10_soundTogether_0 ?_
  refine J_aload_n rfl (i := 0) rfl dX10_soundTogether_1 ?_
  refine J_iload_n rfl (i := 1) rfl dX10_soundTogether_2 ?_
  obtain ⟨v2, hc1, hw⟩ := hw
  refine J_callV (as := [.int x1]) (k := 63) (st := [.ref 63]) cal_X10_isBell cai_X10_isBell gw_1671 ⟨by decide, by decide⟩ cnt_X10_isBell sh_63 rfl rfl (Nat.le_of_ble_eq_true rfl) dX10_soundTogether_3 (Nat.zero_add _).symm (Nat.zero_add _).symm hc1 ?_
  refine J_if_eq (tgt := 21) dX10_soundTogether_6 (by decide) (fun hb20 => ?_) (fun hb20 => ?_)
  · replace hw := hw.1 hb20
    refine J_iconst (v := 0) (by decide) dX10_soundTogether_21 ?_
    obtain ⟨v5, m6, hc4, hw⟩ := hw
    refine J_callV (as := [.int 0]) (k := 63) (st := []) cal_X10_isWrong cai_X10_isWrong gw_1663 ⟨by decide, by decide⟩ cnt_X10_isWrong sh_63 rfl rfl (Nat.le_of_ble_eq_true rfl) dX10_soundTogether_22 (Nat.zero_add _).symm (Nat.zero_add _).symm hc4 ?_
    refine J_if_eq (tgt := 30) dX10_soundTogether_25 (by decide) (fun hb7 => ?_) (fun hb7 => ?_)
    · replace hw := hw.1 hb7
      exact hw
    · replace hw := hw.2 hb7
      refine J_iconst (v := 0) (by decide) dX10_soundTogether_28 ?_
      exact J_fini (ty := .int) rfl rfl dX10_soundTogether_29 hw
  · replace hw := hw.2 hb20
    refine J_aload_n rfl (i := 0) rfl dX10_soundTogether_9 ?_
    refine J_iload_n rfl (i := 2) rfl dX10_soundTogether_10 ?_
    obtain ⟨v9, hc8, hw⟩ := hw
    refine J_callV (as := [.int x2]) (k := 63) (st := [.ref 63]) cal_X10_isBell cai_X10_isBell gw_1671 ⟨by decide, by decide⟩ cnt_X10_isBell sh_63 rfl rfl (Nat.le_of_ble_eq_true rfl) dX10_soundTogether_11 (Nat.zero_add _).symm (Nat.zero_add _).symm hc8 ?_
    refine J_if_eq (tgt := 21) dX10_soundTogether_14 (by decide) (fun hb19 => ?_) (fun hb19 => ?_)
    · replace hw := hw.1 hb19
      refine J_iconst (v := 0) (by decide) dX10_soundTogether_21 ?_
      obtain ⟨v12, m13, hc11, hw⟩ := hw
      refine J_callV (as := [.int 0]) (k := 63) (st := []) cal_X10_isWrong cai_X10_isWrong gw_1663 ⟨by decide, by decide⟩ cnt_X10_isWrong sh_63 rfl rfl (Nat.le_of_ble_eq_true rfl) dX10_soundTogether_22 (Nat.zero_add _).symm (Nat.zero_add _).symm hc11 ?_
      refine J_if_eq (tgt := 30) dX10_soundTogether_25 (by decide) (fun hb14 => ?_) (fun hb14 => ?_)
      · replace hw := hw.1 hb14
        exact hw
      · replace hw := hw.2 hb14
        refine J_iconst (v := 0) (by decide) dX10_soundTogether_28 ?_
        exact J_fini (ty := .int) rfl rfl dX10_soundTogether_29 hw
    · replace hw := hw.2 hb19
      refine J_iconst (v := 1) (by decide) dX10_soundTogether_17 ?_
      refine J_goto (tgt := 22) dX10_soundTogether_18 (by decide) ?_
      obtain ⟨v16, m17, hc15, hw⟩ := hw
      refine J_callV (as := [.int 1]) (k := 63) (st := []) cal_X10_isWrong cai_X10_isWrong gw_1663 ⟨by decide, by decide⟩ cnt_X10_isWrong sh_63 rfl rfl (Nat.le_of_ble_eq_true rfl) dX10_soundTogether_22 (Nat.zero_add _).symm (Nat.zero_add _).symm hc15 ?_
      refine J_if_eq (tgt := 30) dX10_soundTogether_25 (by decide) (fun hb18 => ?_) (fun hb18 => ?_)
      · replace hw := hw.1 hb18
        exact hw
      · replace hw := hw.2 hb18
        refine J_iconst (v := 0) (by decide) dX10_soundTogether_28 ?_
        exact J_fini (ty := .int) rfl rfl dX10_soundTogether_29 hw
set_option maxRecDepth 20000 in
theorem bX10_soundTogether_30 {G : Gx} {mm : Nat → Nat → Int32} {lm : Nat → Int64} {x1 : Int32} {x2 : Int32} {o : Ou} {z : Wd} {a b : Nat} (hw : ∃ (v2 : Int32), Ct G M_X10_chimes [.ref 63, .int x1] (SH, mm, lm) false (.inl (some (.int v2))) (SH, mm, lm) false 0 0 ∧ ((v2 = 0) → o = .inl (some (.int (-2))) ∧ z = (SH, mm, lm)) ∧ ((¬ v2 = 0) → ∃ (v5 : Int32), Ct G M_X10_chimes [.ref 63, .int x2] (SH, mm, lm) false (.inl (some (.int v5))) (SH, mm, lm) false 0 0 ∧ ((¬ v5 = 0) → J G M_X10_soundTogether 54 [(0, .ref 63), (1, .int x1), (2, .int x2), (3, .int 0), (4, .int 0)] [] (SH, mm, lm) false o z false a b) ∧ ((v5 = 0) → o = .inl (some (.int (-2))) ∧ z = (SH, mm, lm)))) :
    J G M_X10_soundTogether 30 [(0, .ref 63), (1, .int x1), (2, .int x2)] [] (SH, mm, lm) false o z false a b := by
  refine J_aload_n rfl (i := 0) rfl dX10_soundTogether_30 ?_
  refine J_iload_n rfl (i := 1) rfl dX10_soundTogether_31 ?_
  obtain ⟨v2, hc1, hw⟩ := hw
  refine J_callV (as := [.int x1]) (k := 63) (st := []) cal_X10_chimes cai_X10_chimes gw_1945 ⟨by decide, by decide⟩ cnt_X10_chimes sh_63 rfl rfl (Nat.le_of_ble_eq_true rfl) dX10_soundTogether_32 (Nat.zero_add _).symm (Nat.zero_add _).symm hc1 ?_
  refine J_if_eq (tgt := 46) dX10_soundTogether_35 (by decide) (fun hb8 => ?_) (fun hb8 => ?_)
  · replace hw := hw.1 hb8
    refine J_bipush (v := (-2)) (by decide) dX10_soundTogether_46 ?_
    exact J_fini (ty := .int) rfl rfl dX10_soundTogether_48 hw
  · replace hw := hw.2 hb8
    refine J_aload_n rfl (i := 0) rfl dX10_soundTogether_38 ?_
    refine J_iload_n rfl (i := 2) rfl dX10_soundTogether_39 ?_
    obtain ⟨v5, hc4, hw⟩ := hw
    refine J_callV (as := [.int x2]) (k := 63) (st := []) cal_X10_chimes cai_X10_chimes gw_1945 ⟨by decide, by decide⟩ cnt_X10_chimes sh_63 rfl rfl (Nat.le_of_ble_eq_true rfl) dX10_soundTogether_40 (Nat.zero_add _).symm (Nat.zero_add _).symm hc4 ?_
    refine J_if_ne (tgt := 49) dX10_soundTogether_43 (by decide) (fun hb7 => ?_) (fun hb7 => ?_)
    · replace hw := hw.1 hb7
      refine J_iconst (v := 0) (by decide) dX10_soundTogether_49 ?_
      refine J_istore_n [(3, .int 0), (0, .ref 63), (1, .int x1), (2, .int x2)] rfl (i := 3) (by decide) rfl dX10_soundTogether_50 ?_
      refine J_iconst (v := 0) (by decide) dX10_soundTogether_51 ?_
      refine J_istore [(4, .int 0), (3, .int 0), (0, .ref 63), (1, .int x1), (2, .int x2)] (i := 4) (by decide) rfl dX10_soundTogether_52 ?_
      exact J_sub [2, 3, 4, 1, 0] rfl hw
    · replace hw := hw.2 hb7
      refine J_bipush (v := (-2)) (by decide) dX10_soundTogether_46 ?_
      exact J_fini (ty := .int) rfl rfl dX10_soundTogether_48 hw
set_option maxRecDepth 20000 in
theorem bX10_soundTogether_54 {G : Gx} {mm : Nat → Nat → Int32} {lm : Nat → Int64} {x1 : Int32} {x2 : Int32} {x3 : Int32} {x4 : Int32} {o : Ou} {z : Wd} {a b : Nat} (hw : ((1440 ≤ x4) → o = .inl (some (.int x3)) ∧ z = (SH, mm, lm)) ∧ ((¬ 1440 ≤ x4) → ∃ (v2 : Int32), Ct G M_X10_sounds [.ref 63, .int x1, .int x4] (SH, mm, lm) false (.inl (some (.int v2))) (SH, mm, lm) false 0 0 ∧ ((v2 = 0) → J G M_X10_soundTogether 54 [(0, .ref 63), (1, .int x1), (2, .int x2), (3, .int (x3 + 0)), (4, .int (x4 + 1))] [] (SH, mm, lm) false o z false a b) ∧ ((¬ v2 = 0) → ∃ (v5 : Int32), Ct G M_X10_sounds [.ref 63, .int x2, .int x4] (SH, mm, lm) false (.inl (some (.int v5))) (SH, mm, lm) false 0 0 ∧ ((v5 = 0) → J G M_X10_soundTogether 54 [(0, .ref 63), (1, .int x1), (2, .int x2), (3, .int (x3 + 0)), (4, .int (x4 + 1))] [] (SH, mm, lm) false o z false a b) ∧ ((¬ v5 = 0) → J G M_X10_soundTogether 54 [(0, .ref 63), (1, .int x1), (2, .int x2), (3, .int (x3 + 1)), (4, .int (x4 + 1))] [] (SH, mm, lm) false o z false a b)))) :
    J G M_X10_soundTogether 54 [(0, .ref 63), (1, .int x1), (2, .int x2), (3, .int x3), (4, .int x4)] [] (SH, mm, lm) false o z false a b := by
  refine J_iload (i := 4) rfl dX10_soundTogether_54 ?_
  refine J_sipush (v := 1440) (by decide) dX10_soundTogether_56 ?_
  refine J_icmp_ge (tgt := 96) dX10_soundTogether_59 (by decide) (fun hb9 => ?_) (fun hb9 => ?_)
  · replace hw := hw.1 hb9
    refine J_iload_n rfl (i := 3) rfl dX10_soundTogether_96 ?_
    exact J_fini (ty := .int) rfl rfl dX10_soundTogether_97 hw
  · replace hw := hw.2 hb9
    refine J_iload_n rfl (i := 3) rfl dX10_soundTogether_62 ?_
    refine J_aload_n rfl (i := 0) rfl dX10_soundTogether_63 ?_
    refine J_iload_n rfl (i := 1) rfl dX10_soundTogether_64 ?_
    refine J_iload (i := 4) rfl dX10_soundTogether_65 ?_
    obtain ⟨v2, hc1, hw⟩ := hw
    refine J_callV (as := [.int x1, .int x4]) (k := 63) (st := [.int x3]) cal_X10_sounds cai_X10_sounds gw_1973 ⟨by decide, by decide⟩ cnt_X10_sounds sh_63 rfl rfl (Nat.le_of_ble_eq_true rfl) dX10_soundTogether_67 (Nat.zero_add _).symm (Nat.zero_add _).symm hc1 ?_
    refine J_if_eq (tgt := 87) dX10_soundTogether_70 (by decide) (fun hb8 => ?_) (fun hb8 => ?_)
    · replace hw := hw.1 hb8
      refine J_iconst (v := 0) (by decide) dX10_soundTogether_87 ?_
      refine J_iadd dX10_soundTogether_88 ?_
      refine J_istore_n [(3, .int (x3 + 0)), (0, .ref 63), (1, .int x1), (2, .int x2), (4, .int x4)] rfl (i := 3) (by decide) rfl dX10_soundTogether_89 ?_
      refine J_iinc [(4, .int (x4 + 1)), (3, .int (x3 + 0)), (0, .ref 63), (1, .int x1), (2, .int x2)] (i := 4) (v := (x4 + 1)) rfl rfl (by decide) rfl dX10_soundTogether_90 ?_
      refine J_goto (tgt := 54) dX10_soundTogether_93 (by decide) ?_
      exact J_sub [2, 3, 4, 1, 0] rfl hw
    · replace hw := hw.2 hb8
      refine J_aload_n rfl (i := 0) rfl dX10_soundTogether_73 ?_
      refine J_iload_n rfl (i := 2) rfl dX10_soundTogether_74 ?_
      refine J_iload (i := 4) rfl dX10_soundTogether_75 ?_
      obtain ⟨v5, hc4, hw⟩ := hw
      refine J_callV (as := [.int x2, .int x4]) (k := 63) (st := [.int x3]) cal_X10_sounds cai_X10_sounds gw_1973 ⟨by decide, by decide⟩ cnt_X10_sounds sh_63 rfl rfl (Nat.le_of_ble_eq_true rfl) dX10_soundTogether_77 (Nat.zero_add _).symm (Nat.zero_add _).symm hc4 ?_
      refine J_if_eq (tgt := 87) dX10_soundTogether_80 (by decide) (fun hb7 => ?_) (fun hb7 => ?_)
      · replace hw := hw.1 hb7
        refine J_iconst (v := 0) (by decide) dX10_soundTogether_87 ?_
        refine J_iadd dX10_soundTogether_88 ?_
        refine J_istore_n [(3, .int (x3 + 0)), (0, .ref 63), (1, .int x1), (2, .int x2), (4, .int x4)] rfl (i := 3) (by decide) rfl dX10_soundTogether_89 ?_
        refine J_iinc [(4, .int (x4 + 1)), (3, .int (x3 + 0)), (0, .ref 63), (1, .int x1), (2, .int x2)] (i := 4) (v := (x4 + 1)) rfl rfl (by decide) rfl dX10_soundTogether_90 ?_
        refine J_goto (tgt := 54) dX10_soundTogether_93 (by decide) ?_
        exact J_sub [2, 3, 4, 1, 0] rfl hw
      · replace hw := hw.2 hb7
        refine J_iconst (v := 1) (by decide) dX10_soundTogether_83 ?_
        refine J_goto (tgt := 88) dX10_soundTogether_84 (by decide) ?_
        refine J_iadd dX10_soundTogether_88 ?_
        refine J_istore_n [(3, .int (x3 + 1)), (0, .ref 63), (1, .int x1), (2, .int x2), (4, .int x4)] rfl (i := 3) (by decide) rfl dX10_soundTogether_89 ?_
        refine J_iinc [(4, .int (x4 + 1)), (3, .int (x3 + 1)), (0, .ref 63), (1, .int x1), (2, .int x2)] (i := 4) (v := (x4 + 1)) rfl rfl (by decide) rfl dX10_soundTogether_90 ?_
        refine J_goto (tgt := 54) dX10_soundTogether_93 (by decide) ?_
        exact J_sub [2, 3, 4, 1, 0] rfl hw
theorem dX10_isLoudFrom_0 : decode cX10_isLoudFrom 0 = .ok (.iload_n 1, 1) := by decide +kernel
theorem dX10_isLoudFrom_1 : decode cX10_isLoudFrom 1 = .ok (.istore_n 3, 1) := by decide +kernel
theorem dX10_isLoudFrom_2 : decode cX10_isLoudFrom 2 = .ok (.iload_n 3, 1) := by decide +kernel
theorem dX10_isLoudFrom_3 : decode cX10_isLoudFrom 3 = .ok (.sipush 1440, 3) := by decide +kernel
theorem dX10_isLoudFrom_6 : decode cX10_isLoudFrom 6 = .ok (.if_icmp .ge 20, 3) := by decide +kernel
theorem dX10_isLoudFrom_9 : decode cX10_isLoudFrom 9 = .ok (.aload_n 0, 1) := by decide +kernel
theorem dX10_isLoudFrom_10 : decode cX10_isLoudFrom 10 = .ok (.iload_n 3, 1) := by decide +kernel
theorem dX10_isLoudFrom_11 : decode cX10_isLoudFrom 11 = .ok (.invokevirtual 367, 3) := by decide +kernel
theorem dX10_isLoudFrom_14 : decode cX10_isLoudFrom 14 = .ok (.ifCond .eq 5, 3) := by decide +kernel
theorem dX10_isLoudFrom_17 : decode cX10_isLoudFrom 17 = .ok (.iconst 0, 1) := by decide +kernel
theorem dX10_isLoudFrom_18 : decode cX10_isLoudFrom 18 = .ok (.ireturn, 1) := by decide +kernel
theorem dX10_isLoudFrom_19 : decode cX10_isLoudFrom 19 = .ok (.iload_n 3, 1) := by decide +kernel
theorem dX10_isLoudFrom_20 : decode cX10_isLoudFrom 20 = .ok (.iload_n 2, 1) := by decide +kernel
theorem dX10_isLoudFrom_21 : decode cX10_isLoudFrom 21 = .ok (.iadd, 1) := by decide +kernel
theorem dX10_isLoudFrom_22 : decode cX10_isLoudFrom 22 = .ok (.istore_n 3, 1) := by decide +kernel
theorem dX10_isLoudFrom_23 : decode cX10_isLoudFrom 23 = .ok (.goto (-21), 3) := by decide +kernel
theorem dX10_isLoudFrom_26 : decode cX10_isLoudFrom 26 = .ok (.iconst 1, 1) := by decide +kernel
theorem dX10_isLoudFrom_27 : decode cX10_isLoudFrom 27 = .ok (.ireturn, 1) := by decide +kernel
set_option maxRecDepth 20000 in
theorem bX10_isLoudFrom_0 {G : Gx} {mm : Nat → Nat → Int32} {lm : Nat → Int64} {x1 : Int32} {x2 : Int32} {o : Ou} {z : Wd} {a b : Nat} (hw : J G M_X10_isLoudFrom 2 [(0, .ref 63), (2, .int x2), (3, .int x1)] [] (SH, mm, lm) false o z false a b) :
    J G M_X10_isLoudFrom 0 [(0, .ref 63), (1, .int x1), (2, .int x2)] [] (SH, mm, lm) false o z false a b := by
  refine J_iload_n rfl (i := 1) rfl dX10_isLoudFrom_0 ?_
  refine J_istore_n [(3, .int x1), (0, .ref 63), (1, .int x1), (2, .int x2)] rfl (i := 3) (by decide) rfl dX10_isLoudFrom_1 ?_
  exact J_sub [1, 3, 0] rfl hw
set_option maxRecDepth 20000 in
theorem bX10_isLoudFrom_2 {G : Gx} {mm : Nat → Nat → Int32} {lm : Nat → Int64} {x2 : Int32} {x3 : Int32} {o : Ou} {z : Wd} {a b : Nat} (hw : ((1440 ≤ x3) → o = .inl (some (.int 1)) ∧ z = (SH, mm, lm)) ∧ ((¬ 1440 ≤ x3) → ∃ (v2 : Int32), Ct G M_X10_isSilent [.ref 63, .int x3] (SH, mm, lm) false (.inl (some (.int v2))) (SH, mm, lm) false 0 0 ∧ ((v2 = 0) → J G M_X10_isLoudFrom 2 [(0, .ref 63), (2, .int x2), (3, .int (x3 + x2))] [] (SH, mm, lm) false o z false a b) ∧ ((¬ v2 = 0) → o = .inl (some (.int 0)) ∧ z = (SH, mm, lm)))) :
    J G M_X10_isLoudFrom 2 [(0, .ref 63), (2, .int x2), (3, .int x3)] [] (SH, mm, lm) false o z false a b := by
  refine J_iload_n rfl (i := 3) rfl dX10_isLoudFrom_2 ?_
  refine J_sipush (v := 1440) (by decide) dX10_isLoudFrom_3 ?_
  refine J_icmp_ge (tgt := 26) dX10_isLoudFrom_6 (by decide) (fun hb5 => ?_) (fun hb5 => ?_)
  · replace hw := hw.1 hb5
    refine J_iconst (v := 1) (by decide) dX10_isLoudFrom_26 ?_
    exact J_fini (ty := .boolean) rfl rfl dX10_isLoudFrom_27 hw
  · replace hw := hw.2 hb5
    refine J_aload_n rfl (i := 0) rfl dX10_isLoudFrom_9 ?_
    refine J_iload_n rfl (i := 3) rfl dX10_isLoudFrom_10 ?_
    obtain ⟨v2, hc1, hw⟩ := hw
    refine J_callV (as := [.int x3]) (k := 63) (st := []) cal_X10_isSilent cai_X10_isSilent gw_1953 ⟨by decide, by decide⟩ cnt_X10_isSilent sh_63 rfl rfl (Nat.le_of_ble_eq_true rfl) dX10_isLoudFrom_11 (Nat.zero_add _).symm (Nat.zero_add _).symm hc1 ?_
    refine J_if_eq (tgt := 19) dX10_isLoudFrom_14 (by decide) (fun hb4 => ?_) (fun hb4 => ?_)
    · replace hw := hw.1 hb4
      refine J_iload_n rfl (i := 3) rfl dX10_isLoudFrom_19 ?_
      refine J_iload_n rfl (i := 2) rfl dX10_isLoudFrom_20 ?_
      refine J_iadd dX10_isLoudFrom_21 ?_
      refine J_istore_n [(3, .int (x3 + x2)), (0, .ref 63), (2, .int x2)] rfl (i := 3) (by decide) rfl dX10_isLoudFrom_22 ?_
      refine J_goto (tgt := 2) dX10_isLoudFrom_23 (by decide) ?_
      exact J_sub [1, 2, 0] rfl hw
    · replace hw := hw.2 hb4
      refine J_iconst (v := 0) (by decide) dX10_isLoudFrom_17 ?_
      exact J_fini (ty := .boolean) rfl rfl dX10_isLoudFrom_18 hw
theorem dX10_leastDelay_0 : decode cX10_leastDelay 0 = .ok (.aload_n 0, 1) := by decide +kernel
theorem dX10_leastDelay_1 : decode cX10_leastDelay 1 = .ok (.aload_n 0, 1) := by decide +kernel
theorem dX10_leastDelay_2 : decode cX10_leastDelay 2 = .ok (.iload_n 1, 1) := by decide +kernel
theorem dX10_leastDelay_3 : decode cX10_leastDelay 3 = .ok (.invokevirtual 235, 3) := by decide +kernel
theorem dX10_leastDelay_6 : decode cX10_leastDelay 6 = .ok (.invokevirtual 221, 3) := by decide +kernel
theorem dX10_leastDelay_9 : decode cX10_leastDelay 9 = .ok (.ifCond .eq 5, 3) := by decide +kernel
theorem dX10_leastDelay_12 : decode cX10_leastDelay 12 = .ok (.iconst 0, 1) := by decide +kernel
theorem dX10_leastDelay_13 : decode cX10_leastDelay 13 = .ok (.ireturn, 1) := by decide +kernel
theorem dX10_leastDelay_14 : decode cX10_leastDelay 14 = .ok (.aload_n 0, 1) := by decide +kernel
theorem dX10_leastDelay_15 : decode cX10_leastDelay 15 = .ok (.iload_n 1, 1) := by decide +kernel
theorem dX10_leastDelay_16 : decode cX10_leastDelay 16 = .ok (.invokevirtual 364, 3) := by decide +kernel
theorem dX10_leastDelay_19 : decode cX10_leastDelay 19 = .ok (.ifCond .ne 6, 3) := by decide +kernel
theorem dX10_leastDelay_22 : decode cX10_leastDelay 22 = .ok (.bipush (-2), 2) := by decide +kernel
theorem dX10_leastDelay_24 : decode cX10_leastDelay 24 = .ok (.ireturn, 1) := by decide +kernel
theorem dX10_leastDelay_25 : decode cX10_leastDelay 25 = .ok (.aload_n 0, 1) := by decide +kernel
theorem dX10_leastDelay_26 : decode cX10_leastDelay 26 = .ok (.iload_n 1, 1) := by decide +kernel
theorem dX10_leastDelay_27 : decode cX10_leastDelay 27 = .ok (.bipush 6, 2) := by decide +kernel
theorem dX10_leastDelay_29 : decode cX10_leastDelay 29 = .ok (.invokevirtual 229, 3) := by decide +kernel
theorem dX10_leastDelay_32 : decode cX10_leastDelay 32 = .ok (.istore_n 2, 1) := by decide +kernel
theorem dX10_leastDelay_33 : decode cX10_leastDelay 33 = .ok (.iload_n 2, 1) := by decide +kernel
theorem dX10_leastDelay_34 : decode cX10_leastDelay 34 = .ok (.sipush 1440, 3) := by decide +kernel
theorem dX10_leastDelay_37 : decode cX10_leastDelay 37 = .ok (.if_icmp .ge 34, 3) := by decide +kernel
theorem dX10_leastDelay_40 : decode cX10_leastDelay 40 = .ok (.aload_n 0, 1) := by decide +kernel
theorem dX10_leastDelay_41 : decode cX10_leastDelay 41 = .ok (.iload_n 2, 1) := by decide +kernel
theorem dX10_leastDelay_42 : decode cX10_leastDelay 42 = .ok (.aload_n 0, 1) := by decide +kernel
theorem dX10_leastDelay_43 : decode cX10_leastDelay 43 = .ok (.iload_n 1, 1) := by decide +kernel
theorem dX10_leastDelay_44 : decode cX10_leastDelay 44 = .ok (.bipush 7, 2) := by decide +kernel
theorem dX10_leastDelay_46 : decode cX10_leastDelay 46 = .ok (.invokevirtual 229, 3) := by decide +kernel
theorem dX10_leastDelay_49 : decode cX10_leastDelay 49 = .ok (.invokevirtual 376, 3) := by decide +kernel
theorem dX10_leastDelay_52 : decode cX10_leastDelay 52 = .ok (.ifCond .eq 13, 3) := by decide +kernel
theorem dX10_leastDelay_55 : decode cX10_leastDelay 55 = .ok (.iload_n 2, 1) := by decide +kernel
theorem dX10_leastDelay_56 : decode cX10_leastDelay 56 = .ok (.aload_n 0, 1) := by decide +kernel
theorem dX10_leastDelay_57 : decode cX10_leastDelay 57 = .ok (.iload_n 1, 1) := by decide +kernel
theorem dX10_leastDelay_58 : decode cX10_leastDelay 58 = .ok (.bipush 6, 2) := by decide +kernel
theorem dX10_leastDelay_60 : decode cX10_leastDelay 60 = .ok (.invokevirtual 229, 3) := by decide +kernel
theorem dX10_leastDelay_63 : decode cX10_leastDelay 63 = .ok (.isub, 1) := by decide +kernel
theorem dX10_leastDelay_64 : decode cX10_leastDelay 64 = .ok (.ireturn, 1) := by decide +kernel
theorem dX10_leastDelay_65 : decode cX10_leastDelay 65 = .ok (.iinc 2 1, 3) := by decide +kernel
theorem dX10_leastDelay_68 : decode cX10_leastDelay 68 = .ok (.goto (-35), 3) := by decide +kernel
theorem dX10_leastDelay_71 : decode cX10_leastDelay 71 = .ok (.bipush (-3), 2) := by decide +kernel
theorem dX10_leastDelay_73 : decode cX10_leastDelay 73 = .ok (.ireturn, 1) := by decide +kernel
set_option maxRecDepth 20000 in
theorem bX10_leastDelay_0 {G : Gx} {mm : Nat → Nat → Int32} {lm : Nat → Int64} {x1 : Int32} {o : Ou} {z : Wd} {a b : Nat} (hw : ∃ (v2 : Int32), Ct G M_X10_isBell [.ref 63, .int x1] (SH, mm, lm) false (.inl (some (.int v2))) (SH, mm, lm) false 0 0 ∧ ∃ (v5 : Int32) (m6 : Nat → Nat → Int32), Ct G M_X10_isWrong [.ref 63, .int v2] (SH, mm, lm) false (.inl (some (.int v5))) (SH, m6, lm) false 0 0 ∧ ((v5 = 0) → J G M_X10_leastDelay 14 [(0, .ref 63), (1, .int x1)] [] (SH, m6, lm) false o z false a b) ∧ ((¬ v5 = 0) → o = .inl (some (.int 0)) ∧ z = (SH, m6, lm))) :
    J G M_X10_leastDelay 0 [(0, .ref 63), (1, .int x1)] [] (SH, mm, lm) false o z false a b := by
  refine J_aload_n rfl (i := 0) rfl dX10_leastDelay_0 ?_
  refine J_aload_n rfl (i := 0) rfl dX10_leastDelay_1 ?_
  refine J_iload_n rfl (i := 1) rfl dX10_leastDelay_2 ?_
  obtain ⟨v2, hc1, hw⟩ := hw
  refine J_callV (as := [.int x1]) (k := 63) (st := [.ref 63]) cal_X10_isBell cai_X10_isBell gw_1671 ⟨by decide, by decide⟩ cnt_X10_isBell sh_63 rfl rfl (Nat.le_of_ble_eq_true rfl) dX10_leastDelay_3 (Nat.zero_add _).symm (Nat.zero_add _).symm hc1 ?_
  obtain ⟨v5, m6, hc4, hw⟩ := hw
  refine J_callV (as := [.int v2]) (k := 63) (st := []) cal_X10_isWrong cai_X10_isWrong gw_1663 ⟨by decide, by decide⟩ cnt_X10_isWrong sh_63 rfl rfl (Nat.le_of_ble_eq_true rfl) dX10_leastDelay_6 (Nat.zero_add _).symm (Nat.zero_add _).symm hc4 ?_
  refine J_if_eq (tgt := 14) dX10_leastDelay_9 (by decide) (fun hb7 => ?_) (fun hb7 => ?_)
  · replace hw := hw.1 hb7
    exact hw
  · replace hw := hw.2 hb7
    refine J_iconst (v := 0) (by decide) dX10_leastDelay_12 ?_
    exact J_fini (ty := .int) rfl rfl dX10_leastDelay_13 hw
set_option maxRecDepth 20000 in
theorem bX10_leastDelay_14 {G : Gx} {mm : Nat → Nat → Int32} {lm : Nat → Int64} {x1 : Int32} {o : Ou} {z : Wd} {a b : Nat} (hw : ∃ (v2 : Int32), Ct G M_X10_chimes [.ref 63, .int x1] (SH, mm, lm) false (.inl (some (.int v2))) (SH, mm, lm) false 0 0 ∧ ((¬ v2 = 0) → ∃ (v5 : Int32), Ct G M_X10_of [.ref 63, .int x1, .int 6] (SH, mm, lm) false (.inl (some (.int v5))) (SH, mm, lm) false 0 0 ∧ J G M_X10_leastDelay 33 [(0, .ref 63), (1, .int x1), (2, .int v5)] [] (SH, mm, lm) false o z false a b) ∧ ((v2 = 0) → o = .inl (some (.int (-2))) ∧ z = (SH, mm, lm))) :
    J G M_X10_leastDelay 14 [(0, .ref 63), (1, .int x1)] [] (SH, mm, lm) false o z false a b := by
  refine J_aload_n rfl (i := 0) rfl dX10_leastDelay_14 ?_
  refine J_iload_n rfl (i := 1) rfl dX10_leastDelay_15 ?_
  obtain ⟨v2, hc1, hw⟩ := hw
  refine J_callV (as := [.int x1]) (k := 63) (st := []) cal_X10_chimes cai_X10_chimes gw_1945 ⟨by decide, by decide⟩ cnt_X10_chimes sh_63 rfl rfl (Nat.le_of_ble_eq_true rfl) dX10_leastDelay_16 (Nat.zero_add _).symm (Nat.zero_add _).symm hc1 ?_
  refine J_if_ne (tgt := 25) dX10_leastDelay_19 (by decide) (fun hb7 => ?_) (fun hb7 => ?_)
  · replace hw := hw.1 hb7
    refine J_aload_n rfl (i := 0) rfl dX10_leastDelay_25 ?_
    refine J_iload_n rfl (i := 1) rfl dX10_leastDelay_26 ?_
    refine J_bipush (v := 6) (by decide) dX10_leastDelay_27 ?_
    obtain ⟨v5, hc4, hw⟩ := hw
    refine J_callV (as := [.int x1, .int 6]) (k := 63) (st := []) cal_X10_of cai_X10_of gw_1688 ⟨by decide, by decide⟩ cnt_X10_of sh_63 rfl rfl (Nat.le_of_ble_eq_true rfl) dX10_leastDelay_29 (Nat.zero_add _).symm (Nat.zero_add _).symm hc4 ?_
    refine J_istore_n [(2, .int v5), (0, .ref 63), (1, .int x1)] rfl (i := 2) (by decide) rfl dX10_leastDelay_32 ?_
    exact J_sub [1, 2, 0] rfl hw
  · replace hw := hw.2 hb7
    refine J_bipush (v := (-2)) (by decide) dX10_leastDelay_22 ?_
    exact J_fini (ty := .int) rfl rfl dX10_leastDelay_24 hw
set_option maxRecDepth 20000 in
theorem bX10_leastDelay_33 {G : Gx} {mm : Nat → Nat → Int32} {lm : Nat → Int64} {x1 : Int32} {x2 : Int32} {o : Ou} {z : Wd} {a b : Nat} (hw : ((1440 ≤ x2) → o = .inl (some (.int (-3))) ∧ z = (SH, mm, lm)) ∧ ((¬ 1440 ≤ x2) → ∃ (v2 : Int32), Ct G M_X10_of [.ref 63, .int x1, .int 7] (SH, mm, lm) false (.inl (some (.int v2))) (SH, mm, lm) false 0 0 ∧ ∃ (v5 : Int32), Ct G M_X10_isLoudFrom [.ref 63, .int x2, .int v2] (SH, mm, lm) false (.inl (some (.int v5))) (SH, mm, lm) false 0 0 ∧ ((v5 = 0) → J G M_X10_leastDelay 33 [(0, .ref 63), (1, .int x1), (2, .int (x2 + 1))] [] (SH, mm, lm) false o z false a b) ∧ ((¬ v5 = 0) → ∃ (v8 : Int32), Ct G M_X10_of [.ref 63, .int x1, .int 6] (SH, mm, lm) false (.inl (some (.int v8))) (SH, mm, lm) false 0 0 ∧ o = .inl (some (.int (x2 - v8))) ∧ z = (SH, mm, lm)))) :
    J G M_X10_leastDelay 33 [(0, .ref 63), (1, .int x1), (2, .int x2)] [] (SH, mm, lm) false o z false a b := by
  refine J_iload_n rfl (i := 2) rfl dX10_leastDelay_33 ?_
  refine J_sipush (v := 1440) (by decide) dX10_leastDelay_34 ?_
  refine J_icmp_ge (tgt := 71) dX10_leastDelay_37 (by decide) (fun hb11 => ?_) (fun hb11 => ?_)
  · replace hw := hw.1 hb11
    refine J_bipush (v := (-3)) (by decide) dX10_leastDelay_71 ?_
    exact J_fini (ty := .int) rfl rfl dX10_leastDelay_73 hw
  · replace hw := hw.2 hb11
    refine J_aload_n rfl (i := 0) rfl dX10_leastDelay_40 ?_
    refine J_iload_n rfl (i := 2) rfl dX10_leastDelay_41 ?_
    refine J_aload_n rfl (i := 0) rfl dX10_leastDelay_42 ?_
    refine J_iload_n rfl (i := 1) rfl dX10_leastDelay_43 ?_
    refine J_bipush (v := 7) (by decide) dX10_leastDelay_44 ?_
    obtain ⟨v2, hc1, hw⟩ := hw
    refine J_callV (as := [.int x1, .int 7]) (k := 63) (st := [.int x2, .ref 63]) cal_X10_of cai_X10_of gw_1688 ⟨by decide, by decide⟩ cnt_X10_of sh_63 rfl rfl (Nat.le_of_ble_eq_true rfl) dX10_leastDelay_46 (Nat.zero_add _).symm (Nat.zero_add _).symm hc1 ?_
    obtain ⟨v5, hc4, hw⟩ := hw
    refine J_callV (as := [.int x2, .int v2]) (k := 63) (st := []) cal_X10_isLoudFrom cai_X10_isLoudFrom gw_1997 ⟨by decide, by decide⟩ cnt_X10_isLoudFrom sh_63 rfl rfl (Nat.le_of_ble_eq_true rfl) dX10_leastDelay_49 (Nat.zero_add _).symm (Nat.zero_add _).symm hc4 ?_
    refine J_if_eq (tgt := 65) dX10_leastDelay_52 (by decide) (fun hb10 => ?_) (fun hb10 => ?_)
    · replace hw := hw.1 hb10
      refine J_iinc [(2, .int (x2 + 1)), (0, .ref 63), (1, .int x1)] (i := 2) (v := (x2 + 1)) rfl rfl (by decide) rfl dX10_leastDelay_65 ?_
      refine J_goto (tgt := 33) dX10_leastDelay_68 (by decide) ?_
      exact J_sub [1, 2, 0] rfl hw
    · replace hw := hw.2 hb10
      refine J_iload_n rfl (i := 2) rfl dX10_leastDelay_55 ?_
      refine J_aload_n rfl (i := 0) rfl dX10_leastDelay_56 ?_
      refine J_iload_n rfl (i := 1) rfl dX10_leastDelay_57 ?_
      refine J_bipush (v := 6) (by decide) dX10_leastDelay_58 ?_
      obtain ⟨v8, hc7, hw⟩ := hw
      refine J_callV (as := [.int x1, .int 6]) (k := 63) (st := [.int x2]) cal_X10_of cai_X10_of gw_1688 ⟨by decide, by decide⟩ cnt_X10_of sh_63 rfl rfl (Nat.le_of_ble_eq_true rfl) dX10_leastDelay_60 (Nat.zero_add _).symm (Nat.zero_add _).symm hc7 ?_
      refine J_isub dX10_leastDelay_63 ?_
      exact J_fini (ty := .int) rfl rfl dX10_leastDelay_64 hw
theorem dX10_lengthOf_0 : decode cX10_lengthOf 0 = .ok (.aload_n 0, 1) := by decide +kernel
theorem dX10_lengthOf_1 : decode cX10_lengthOf 1 = .ok (.getfield 16, 3) := by decide +kernel
theorem dX10_lengthOf_4 : decode cX10_lengthOf 4 = .ok (.aload_n 0, 1) := by decide +kernel
theorem dX10_lengthOf_5 : decode cX10_lengthOf 5 = .ok (.iload_n 1, 1) := by decide +kernel
theorem dX10_lengthOf_6 : decode cX10_lengthOf 6 = .ok (.iconst 0, 1) := by decide +kernel
theorem dX10_lengthOf_7 : decode cX10_lengthOf 7 = .ok (.invokevirtual 229, 3) := by decide +kernel
theorem dX10_lengthOf_10 : decode cX10_lengthOf 10 = .ok (.iaload, 1) := by decide +kernel
theorem dX10_lengthOf_11 : decode cX10_lengthOf 11 = .ok (.bipush 10, 2) := by decide +kernel
theorem dX10_lengthOf_13 : decode cX10_lengthOf 13 = .ok (.aload_n 0, 1) := by decide +kernel
theorem dX10_lengthOf_14 : decode cX10_lengthOf 14 = .ok (.iload_n 1, 1) := by decide +kernel
theorem dX10_lengthOf_15 : decode cX10_lengthOf 15 = .ok (.iconst 1, 1) := by decide +kernel
theorem dX10_lengthOf_16 : decode cX10_lengthOf 16 = .ok (.invokevirtual 229, 3) := by decide +kernel
theorem dX10_lengthOf_19 : decode cX10_lengthOf 19 = .ok (.invokestatic 232, 3) := by decide +kernel
theorem dX10_lengthOf_22 : decode cX10_lengthOf 22 = .ok (.imul, 1) := by decide +kernel
theorem dX10_lengthOf_23 : decode cX10_lengthOf 23 = .ok (.iadd, 1) := by decide +kernel
theorem dX10_lengthOf_24 : decode cX10_lengthOf 24 = .ok (.bipush 50, 2) := by decide +kernel
theorem dX10_lengthOf_26 : decode cX10_lengthOf 26 = .ok (.iadd, 1) := by decide +kernel
theorem dX10_lengthOf_27 : decode cX10_lengthOf 27 = .ok (.ireturn, 1) := by decide +kernel
set_option maxRecDepth 20000 in
theorem bX10_lengthOf_0 {G : Gx} {mm : Nat → Nat → Int32} {lm : Nat → Int64} {x1 : Int32} {o : Ou} {z : Wd} {a b : Nat} (hw : ∃ (v2 : Int32), Ct G M_X10_of [.ref 63, .int x1, .int 0] (SH, mm, lm) false (.inl (some (.int v2))) (SH, mm, lm) false 0 0 ∧ ∃ j4 : Nat, v2 = nI j4 ∧ j4 < 4 ∧ ∃ (v6 : Int32), Ct G M_X10_of [.ref 63, .int x1, .int 1] (SH, mm, lm) false (.inl (some (.int v6))) (SH, mm, lm) false 0 0 ∧ ∃ (v9 : Int32), Ct G M_X10_size [.int v6] (SH, mm, lm) false (.inl (some (.int v9))) (SH, mm, lm) false 0 0 ∧ o = .inl (some (.int (((mm 66 j4) + (10 * v9)) + 50))) ∧ z = (SH, mm, lm)) :
    J G M_X10_lengthOf 0 [(0, .ref 63), (1, .int x1)] [] (SH, mm, lm) false o z false a b := by
  refine J_aload_n rfl (i := 0) rfl dX10_lengthOf_0 ?_
  refine J_getr kls_10 (q := 63) (k := 6) sh_63 (by decide) rfl gw_1439 dX10_lengthOf_1 ?_
  refine J_aload_n rfl (i := 0) rfl dX10_lengthOf_4 ?_
  refine J_iload_n rfl (i := 1) rfl dX10_lengthOf_5 ?_
  refine J_iconst (v := 0) (by decide) dX10_lengthOf_6 ?_
  obtain ⟨v2, hc1, hw⟩ := hw
  refine J_callV (as := [.int x1, .int 0]) (k := 63) (st := [.ref 66]) cal_X10_of cai_X10_of gw_1688 ⟨by decide, by decide⟩ cnt_X10_of sh_63 rfl rfl (Nat.le_of_ble_eq_true rfl) dX10_lengthOf_7 (Nat.zero_add _).symm (Nat.zero_add _).symm hc1 ?_
  obtain ⟨j4, ej4, hj4, hw⟩ := hw
  refine J_iald sh_66 ej4 hj4 (by decide) dX10_lengthOf_10 ?_
  refine J_bipush (v := 10) (by decide) dX10_lengthOf_11 ?_
  refine J_aload_n rfl (i := 0) rfl dX10_lengthOf_13 ?_
  refine J_iload_n rfl (i := 1) rfl dX10_lengthOf_14 ?_
  refine J_iconst (v := 1) (by decide) dX10_lengthOf_15 ?_
  obtain ⟨v6, hc5, hw⟩ := hw
  refine J_callV (as := [.int x1, .int 1]) (k := 63) (st := [.int 10, .int (mm 66 j4)]) cal_X10_of cai_X10_of gw_1688 ⟨by decide, by decide⟩ cnt_X10_of sh_63 rfl rfl (Nat.le_of_ble_eq_true rfl) dX10_lengthOf_16 (Nat.zero_add _).symm (Nat.zero_add _).symm hc5 ?_
  obtain ⟨v9, hc8, hw⟩ := hw
  refine J_callS (as := [.int v6]) (st := [.int 10, .int (mm 66 j4)]) cal_X10_size cas_X10_size gw_1696 ⟨by decide, by decide⟩ cnt_X10_size rfl (Nat.le_of_ble_eq_true rfl) dX10_lengthOf_19 (Nat.zero_add _).symm (Nat.zero_add _).symm hc8 ?_
  refine J_imul dX10_lengthOf_22 ?_
  refine J_iadd dX10_lengthOf_23 ?_
  refine J_bipush (v := 50) (by decide) dX10_lengthOf_24 ?_
  refine J_iadd dX10_lengthOf_26 ?_
  exact J_fini (ty := .int) rfl rfl dX10_lengthOf_27 hw
theorem dX10_hanging_0 : decode cX10_hanging 0 = .ok (.iconst 0, 1) := by decide +kernel
theorem dX10_hanging_1 : decode cX10_hanging 1 = .ok (.istore_n 1, 1) := by decide +kernel
theorem dX10_hanging_2 : decode cX10_hanging 2 = .ok (.iconst 0, 1) := by decide +kernel
theorem dX10_hanging_3 : decode cX10_hanging 3 = .ok (.istore_n 2, 1) := by decide +kernel
theorem dX10_hanging_4 : decode cX10_hanging 4 = .ok (.iload_n 2, 1) := by decide +kernel
theorem dX10_hanging_5 : decode cX10_hanging 5 = .ok (.aload_n 0, 1) := by decide +kernel
theorem dX10_hanging_6 : decode cX10_hanging 6 = .ok (.getfield 206, 3) := by decide +kernel
theorem dX10_hanging_9 : decode cX10_hanging 9 = .ok (.if_icmp .ge 27, 3) := by decide +kernel
theorem dX10_hanging_12 : decode cX10_hanging 12 = .ok (.iload_n 1, 1) := by decide +kernel
theorem dX10_hanging_13 : decode cX10_hanging 13 = .ok (.aload_n 0, 1) := by decide +kernel
theorem dX10_hanging_14 : decode cX10_hanging 14 = .ok (.iload_n 2, 1) := by decide +kernel
theorem dX10_hanging_15 : decode cX10_hanging 15 = .ok (.invokevirtual 244, 3) := by decide +kernel
theorem dX10_hanging_18 : decode cX10_hanging 18 = .ok (.ifCond .eq 9, 3) := by decide +kernel
theorem dX10_hanging_21 : decode cX10_hanging 21 = .ok (.iconst 1, 1) := by decide +kernel
theorem dX10_hanging_22 : decode cX10_hanging 22 = .ok (.iload_n 2, 1) := by decide +kernel
theorem dX10_hanging_23 : decode cX10_hanging 23 = .ok (.ishl, 1) := by decide +kernel
theorem dX10_hanging_24 : decode cX10_hanging 24 = .ok (.goto 4, 3) := by decide +kernel
theorem dX10_hanging_27 : decode cX10_hanging 27 = .ok (.iconst 0, 1) := by decide +kernel
theorem dX10_hanging_28 : decode cX10_hanging 28 = .ok (.ior, 1) := by decide +kernel
theorem dX10_hanging_29 : decode cX10_hanging 29 = .ok (.istore_n 1, 1) := by decide +kernel
theorem dX10_hanging_30 : decode cX10_hanging 30 = .ok (.iinc 2 1, 3) := by decide +kernel
theorem dX10_hanging_33 : decode cX10_hanging 33 = .ok (.goto (-29), 3) := by decide +kernel
theorem dX10_hanging_36 : decode cX10_hanging 36 = .ok (.iload_n 1, 1) := by decide +kernel
theorem dX10_hanging_37 : decode cX10_hanging 37 = .ok (.ireturn, 1) := by decide +kernel
set_option maxRecDepth 20000 in
theorem bX10_hanging_0 {G : Gx} {mm : Nat → Nat → Int32} {lm : Nat → Int64}  {o : Ou} {z : Wd} {a b : Nat} (hw : J G M_X10_hanging 4 [(0, .ref 63), (1, .int 0), (2, .int 0)] [] (SH, mm, lm) false o z false a b) :
    J G M_X10_hanging 0 [(0, .ref 63)] [] (SH, mm, lm) false o z false a b := by
  refine J_iconst (v := 0) (by decide) dX10_hanging_0 ?_
  refine J_istore_n [(1, .int 0), (0, .ref 63)] rfl (i := 1) (by decide) rfl dX10_hanging_1 ?_
  refine J_iconst (v := 0) (by decide) dX10_hanging_2 ?_
  refine J_istore_n [(2, .int 0), (1, .int 0), (0, .ref 63)] rfl (i := 2) (by decide) rfl dX10_hanging_3 ?_
  exact J_sub [2, 1, 0] rfl hw
set_option maxRecDepth 20000 in
theorem bX10_hanging_4 {G : Gx} {mm : Nat → Nat → Int32} {lm : Nat → Int64} {x1 : Int32} {x2 : Int32} {o : Ou} {z : Wd} {a b : Nat} (hw : (((mm 63 8) ≤ x2) → o = .inl (some (.int x1)) ∧ z = (SH, mm, lm)) ∧ ((¬ (mm 63 8) ≤ x2) → ∃ (v2 : Int32), Ct G M_X10_hangs [.ref 63, .int x2] (SH, mm, lm) false (.inl (some (.int v2))) (SH, mm, lm) false 0 0 ∧ ((v2 = 0) → J G M_X10_hanging 4 [(0, .ref 63), (1, .int (x1 ||| 0)), (2, .int (x2 + 1))] [] (SH, mm, lm) false o z false a b) ∧ ((¬ v2 = 0) → J G M_X10_hanging 4 [(0, .ref 63), (1, .int (x1 ||| (1 <<< (x2 &&& 31)))), (2, .int (x2 + 1))] [] (SH, mm, lm) false o z false a b))) :
    J G M_X10_hanging 4 [(0, .ref 63), (1, .int x1), (2, .int x2)] [] (SH, mm, lm) false o z false a b := by
  refine J_iload_n rfl (i := 2) rfl dX10_hanging_4 ?_
  refine J_aload_n rfl (i := 0) rfl dX10_hanging_5 ?_
  refine J_geti kls_10 (q := 63) (k := 8) sh_63 (by decide) rfl gw_1441 dX10_hanging_6 ?_
  refine J_icmp_ge (tgt := 36) dX10_hanging_9 (by decide) (fun hb5 => ?_) (fun hb5 => ?_)
  · replace hw := hw.1 hb5
    refine J_iload_n rfl (i := 1) rfl dX10_hanging_36 ?_
    exact J_fini (ty := .int) rfl rfl dX10_hanging_37 hw
  · replace hw := hw.2 hb5
    refine J_iload_n rfl (i := 1) rfl dX10_hanging_12 ?_
    refine J_aload_n rfl (i := 0) rfl dX10_hanging_13 ?_
    refine J_iload_n rfl (i := 2) rfl dX10_hanging_14 ?_
    obtain ⟨v2, hc1, hw⟩ := hw
    refine J_callV (as := [.int x2]) (k := 63) (st := [.int x1]) cal_X10_hangs cai_X10_hangs gw_1684 ⟨by decide, by decide⟩ cnt_X10_hangs sh_63 rfl rfl (Nat.le_of_ble_eq_true rfl) dX10_hanging_15 (Nat.zero_add _).symm (Nat.zero_add _).symm hc1 ?_
    refine J_if_eq (tgt := 27) dX10_hanging_18 (by decide) (fun hb4 => ?_) (fun hb4 => ?_)
    · replace hw := hw.1 hb4
      refine J_iconst (v := 0) (by decide) dX10_hanging_27 ?_
      refine J_ior dX10_hanging_28 ?_
      refine J_istore_n [(1, .int (x1 ||| 0)), (0, .ref 63), (2, .int x2)] rfl (i := 1) (by decide) rfl dX10_hanging_29 ?_
      refine J_iinc [(2, .int (x2 + 1)), (1, .int (x1 ||| 0)), (0, .ref 63)] (i := 2) (v := (x2 + 1)) rfl rfl (by decide) rfl dX10_hanging_30 ?_
      refine J_goto (tgt := 4) dX10_hanging_33 (by decide) ?_
      exact J_sub [2, 1, 0] rfl hw
    · replace hw := hw.2 hb4
      refine J_iconst (v := 1) (by decide) dX10_hanging_21 ?_
      refine J_iload_n rfl (i := 2) rfl dX10_hanging_22 ?_
      refine J_ishl dX10_hanging_23 ?_
      refine J_goto (tgt := 28) dX10_hanging_24 (by decide) ?_
      refine J_ior dX10_hanging_28 ?_
      refine J_istore_n [(1, .int (x1 ||| (1 <<< (x2 &&& 31)))), (0, .ref 63), (2, .int x2)] rfl (i := 1) (by decide) rfl dX10_hanging_29 ?_
      refine J_iinc [(2, .int (x2 + 1)), (1, .int (x1 ||| (1 <<< (x2 &&& 31)))), (0, .ref 63)] (i := 2) (v := (x2 + 1)) rfl rfl (by decide) rfl dX10_hanging_30 ?_
      refine J_goto (tgt := 4) dX10_hanging_33 (by decide) ?_
      exact J_sub [2, 1, 0] rfl hw
theorem dX10_lengthsOf_0 : decode cX10_lengthsOf 0 = .ok (.iconst 0, 1) := by decide +kernel
theorem dX10_lengthsOf_1 : decode cX10_lengthsOf 1 = .ok (.istore_n 2, 1) := by decide +kernel
theorem dX10_lengthsOf_2 : decode cX10_lengthsOf 2 = .ok (.iconst 0, 1) := by decide +kernel
theorem dX10_lengthsOf_3 : decode cX10_lengthsOf 3 = .ok (.istore_n 3, 1) := by decide +kernel
theorem dX10_lengthsOf_4 : decode cX10_lengthsOf 4 = .ok (.iload_n 3, 1) := by decide +kernel
theorem dX10_lengthsOf_5 : decode cX10_lengthsOf 5 = .ok (.aload_n 0, 1) := by decide +kernel
theorem dX10_lengthsOf_6 : decode cX10_lengthsOf 6 = .ok (.getfield 206, 3) := by decide +kernel
theorem dX10_lengthsOf_9 : decode cX10_lengthsOf 9 = .ok (.if_icmp .ge 29, 3) := by decide +kernel
theorem dX10_lengthsOf_12 : decode cX10_lengthsOf 12 = .ok (.iload_n 2, 1) := by decide +kernel
theorem dX10_lengthsOf_13 : decode cX10_lengthsOf 13 = .ok (.iload_n 1, 1) := by decide +kernel
theorem dX10_lengthsOf_14 : decode cX10_lengthsOf 14 = .ok (.iload_n 3, 1) := by decide +kernel
theorem dX10_lengthsOf_15 : decode cX10_lengthsOf 15 = .ok (.invokestatic 273, 3) := by decide +kernel
theorem dX10_lengthsOf_18 : decode cX10_lengthsOf 18 = .ok (.ifCond .eq 11, 3) := by decide +kernel
theorem dX10_lengthsOf_21 : decode cX10_lengthsOf 21 = .ok (.aload_n 0, 1) := by decide +kernel
theorem dX10_lengthsOf_22 : decode cX10_lengthsOf 22 = .ok (.iload_n 3, 1) := by decide +kernel
theorem dX10_lengthsOf_23 : decode cX10_lengthsOf 23 = .ok (.invokevirtual 379, 3) := by decide +kernel
theorem dX10_lengthsOf_26 : decode cX10_lengthsOf 26 = .ok (.goto 4, 3) := by decide +kernel
theorem dX10_lengthsOf_29 : decode cX10_lengthsOf 29 = .ok (.iconst 0, 1) := by decide +kernel
theorem dX10_lengthsOf_30 : decode cX10_lengthsOf 30 = .ok (.iadd, 1) := by decide +kernel
theorem dX10_lengthsOf_31 : decode cX10_lengthsOf 31 = .ok (.istore_n 2, 1) := by decide +kernel
theorem dX10_lengthsOf_32 : decode cX10_lengthsOf 32 = .ok (.iinc 3 1, 3) := by decide +kernel
theorem dX10_lengthsOf_35 : decode cX10_lengthsOf 35 = .ok (.goto (-31), 3) := by decide +kernel
theorem dX10_lengthsOf_38 : decode cX10_lengthsOf 38 = .ok (.iload_n 2, 1) := by decide +kernel
theorem dX10_lengthsOf_39 : decode cX10_lengthsOf 39 = .ok (.ireturn, 1) := by decide +kernel
set_option maxRecDepth 20000 in
theorem bX10_lengthsOf_0 {G : Gx} {mm : Nat → Nat → Int32} {lm : Nat → Int64} {x1 : Int32} {o : Ou} {z : Wd} {a b : Nat} (hw : J G M_X10_lengthsOf 4 [(0, .ref 63), (1, .int x1), (2, .int 0), (3, .int 0)] [] (SH, mm, lm) false o z false a b) :
    J G M_X10_lengthsOf 0 [(0, .ref 63), (1, .int x1)] [] (SH, mm, lm) false o z false a b := by
  refine J_iconst (v := 0) (by decide) dX10_lengthsOf_0 ?_
  refine J_istore_n [(2, .int 0), (0, .ref 63), (1, .int x1)] rfl (i := 2) (by decide) rfl dX10_lengthsOf_1 ?_
  refine J_iconst (v := 0) (by decide) dX10_lengthsOf_2 ?_
  refine J_istore_n [(3, .int 0), (2, .int 0), (0, .ref 63), (1, .int x1)] rfl (i := 3) (by decide) rfl dX10_lengthsOf_3 ?_
  exact J_sub [2, 3, 1, 0] rfl hw
set_option maxRecDepth 20000 in
theorem bX10_lengthsOf_4 {G : Gx} {mm : Nat → Nat → Int32} {lm : Nat → Int64} {x1 : Int32} {x2 : Int32} {x3 : Int32} {o : Ou} {z : Wd} {a b : Nat} (hw : (((mm 63 8) ≤ x3) → o = .inl (some (.int x2)) ∧ z = (SH, mm, lm)) ∧ ((¬ (mm 63 8) ≤ x3) → ∃ (v2 : Int32), Ct G M_X10_has [.int x1, .int x3] (SH, mm, lm) false (.inl (some (.int v2))) (SH, mm, lm) false 0 0 ∧ ((v2 = 0) → J G M_X10_lengthsOf 4 [(0, .ref 63), (1, .int x1), (2, .int (x2 + 0)), (3, .int (x3 + 1))] [] (SH, mm, lm) false o z false a b) ∧ ((¬ v2 = 0) → ∃ (v5 : Int32), Ct G M_X10_lengthOf [.ref 63, .int x3] (SH, mm, lm) false (.inl (some (.int v5))) (SH, mm, lm) false 0 0 ∧ J G M_X10_lengthsOf 4 [(0, .ref 63), (1, .int x1), (2, .int (x2 + v5)), (3, .int (x3 + 1))] [] (SH, mm, lm) false o z false a b))) :
    J G M_X10_lengthsOf 4 [(0, .ref 63), (1, .int x1), (2, .int x2), (3, .int x3)] [] (SH, mm, lm) false o z false a b := by
  refine J_iload_n rfl (i := 3) rfl dX10_lengthsOf_4 ?_
  refine J_aload_n rfl (i := 0) rfl dX10_lengthsOf_5 ?_
  refine J_geti kls_10 (q := 63) (k := 8) sh_63 (by decide) rfl gw_1441 dX10_lengthsOf_6 ?_
  refine J_icmp_ge (tgt := 38) dX10_lengthsOf_9 (by decide) (fun hb8 => ?_) (fun hb8 => ?_)
  · replace hw := hw.1 hb8
    refine J_iload_n rfl (i := 2) rfl dX10_lengthsOf_38 ?_
    exact J_fini (ty := .int) rfl rfl dX10_lengthsOf_39 hw
  · replace hw := hw.2 hb8
    refine J_iload_n rfl (i := 2) rfl dX10_lengthsOf_12 ?_
    refine J_iload_n rfl (i := 1) rfl dX10_lengthsOf_13 ?_
    refine J_iload_n rfl (i := 3) rfl dX10_lengthsOf_14 ?_
    obtain ⟨v2, hc1, hw⟩ := hw
    refine J_callS (as := [.int x1, .int x3]) (st := [.int x2]) cal_X10_has cas_X10_has gw_1768 ⟨by decide, by decide⟩ cnt_X10_has rfl (Nat.le_of_ble_eq_true rfl) dX10_lengthsOf_15 (Nat.zero_add _).symm (Nat.zero_add _).symm hc1 ?_
    refine J_if_eq (tgt := 29) dX10_lengthsOf_18 (by decide) (fun hb7 => ?_) (fun hb7 => ?_)
    · replace hw := hw.1 hb7
      refine J_iconst (v := 0) (by decide) dX10_lengthsOf_29 ?_
      refine J_iadd dX10_lengthsOf_30 ?_
      refine J_istore_n [(2, .int (x2 + 0)), (0, .ref 63), (1, .int x1), (3, .int x3)] rfl (i := 2) (by decide) rfl dX10_lengthsOf_31 ?_
      refine J_iinc [(3, .int (x3 + 1)), (2, .int (x2 + 0)), (0, .ref 63), (1, .int x1)] (i := 3) (v := (x3 + 1)) rfl rfl (by decide) rfl dX10_lengthsOf_32 ?_
      refine J_goto (tgt := 4) dX10_lengthsOf_35 (by decide) ?_
      exact J_sub [2, 3, 1, 0] rfl hw
    · replace hw := hw.2 hb7
      refine J_aload_n rfl (i := 0) rfl dX10_lengthsOf_21 ?_
      refine J_iload_n rfl (i := 3) rfl dX10_lengthsOf_22 ?_
      obtain ⟨v5, hc4, hw⟩ := hw
      refine J_callV (as := [.int x3]) (k := 63) (st := [.int x2]) cal_X10_lengthOf cai_X10_lengthOf gw_2005 ⟨by decide, by decide⟩ cnt_X10_lengthOf sh_63 rfl rfl (Nat.le_of_ble_eq_true rfl) dX10_lengthsOf_23 (Nat.zero_add _).symm (Nat.zero_add _).symm hc4 ?_
      refine J_goto (tgt := 30) dX10_lengthsOf_26 (by decide) ?_
      refine J_iadd dX10_lengthsOf_30 ?_
      refine J_istore_n [(2, .int (x2 + v5)), (0, .ref 63), (1, .int x1), (3, .int x3)] rfl (i := 2) (by decide) rfl dX10_lengthsOf_31 ?_
      refine J_iinc [(3, .int (x3 + 1)), (2, .int (x2 + v5)), (0, .ref 63), (1, .int x1)] (i := 3) (v := (x3 + 1)) rfl rfl (by decide) rfl dX10_lengthsOf_32 ?_
      refine J_goto (tgt := 4) dX10_lengthsOf_35 (by decide) ?_
      exact J_sub [2, 3, 1, 0] rfl hw
theorem dX10_laySums_0 : decode cX10_laySums 0 = .ok (.aload_n 0, 1) := by decide +kernel
theorem dX10_laySums_1 : decode cX10_laySums 1 = .ok (.invokevirtual 382, 3) := by decide +kernel
theorem dX10_laySums_4 : decode cX10_laySums 4 = .ok (.istore_n 1, 1) := by decide +kernel
theorem dX10_laySums_5 : decode cX10_laySums 5 = .ok (.iconst 0, 1) := by decide +kernel
theorem dX10_laySums_6 : decode cX10_laySums 6 = .ok (.istore_n 2, 1) := by decide +kernel
theorem dX10_laySums_7 : decode cX10_laySums 7 = .ok (.iload_n 2, 1) := by decide +kernel
theorem dX10_laySums_8 : decode cX10_laySums 8 = .ok (.sipush 256, 3) := by decide +kernel
theorem dX10_laySums_11 : decode cX10_laySums 11 = .ok (.if_icmp .ge 34, 3) := by decide +kernel
theorem dX10_laySums_14 : decode cX10_laySums 14 = .ok (.aload_n 0, 1) := by decide +kernel
theorem dX10_laySums_15 : decode cX10_laySums 15 = .ok (.getfield 74, 3) := by decide +kernel
theorem dX10_laySums_18 : decode cX10_laySums 18 = .ok (.iload_n 2, 1) := by decide +kernel
theorem dX10_laySums_19 : decode cX10_laySums 19 = .ok (.iload_n 2, 1) := by decide +kernel
theorem dX10_laySums_20 : decode cX10_laySums 20 = .ok (.iload_n 1, 1) := by decide +kernel
theorem dX10_laySums_21 : decode cX10_laySums 21 = .ok (.iconst (-1), 1) := by decide +kernel
theorem dX10_laySums_22 : decode cX10_laySums 22 = .ok (.ixor, 1) := by decide +kernel
theorem dX10_laySums_23 : decode cX10_laySums 23 = .ok (.iand, 1) := by decide +kernel
theorem dX10_laySums_24 : decode cX10_laySums 24 = .ok (.ifCond .ne 11, 3) := by decide +kernel
theorem dX10_laySums_27 : decode cX10_laySums 27 = .ok (.aload_n 0, 1) := by decide +kernel
theorem dX10_laySums_28 : decode cX10_laySums 28 = .ok (.iload_n 2, 1) := by decide +kernel
theorem dX10_laySums_29 : decode cX10_laySums 29 = .ok (.invokevirtual 385, 3) := by decide +kernel
theorem dX10_laySums_32 : decode cX10_laySums 32 = .ok (.goto 6, 3) := by decide +kernel
theorem dX10_laySums_35 : decode cX10_laySums 35 = .ok (.ldc_w 276, 3) := by decide +kernel
theorem dX10_laySums_38 : decode cX10_laySums 38 = .ok (.iastore, 1) := by decide +kernel
theorem dX10_laySums_39 : decode cX10_laySums 39 = .ok (.iinc 2 1, 3) := by decide +kernel
theorem dX10_laySums_42 : decode cX10_laySums 42 = .ok (.goto (-35), 3) := by decide +kernel
theorem dX10_laySums_45 : decode cX10_laySums 45 = .ok (.return_, 1) := by decide +kernel
set_option maxRecDepth 20000 in
theorem bX10_laySums_0 {G : Gx} {mm : Nat → Nat → Int32} {lm : Nat → Int64}  {o : Ou} {z : Wd} {a b : Nat} (hw : ∃ (v2 : Int32), Ct G M_X10_hanging [.ref 63] (SH, mm, lm) false (.inl (some (.int v2))) (SH, mm, lm) false 0 0 ∧ J G M_X10_laySums 7 [(0, .ref 63), (1, .int v2), (2, .int 0)] [] (SH, mm, lm) false o z false a b) :
    J G M_X10_laySums 0 [(0, .ref 63)] [] (SH, mm, lm) false o z false a b := by
  refine J_aload_n rfl (i := 0) rfl dX10_laySums_0 ?_
  obtain ⟨v2, hc1, hw⟩ := hw
  refine J_callV (as := []) (k := 63) (st := []) cal_X10_hanging cai_X10_hanging gw_2021 ⟨by decide, by decide⟩ cnt_X10_hanging sh_63 rfl rfl (Nat.le_of_ble_eq_true rfl) dX10_laySums_1 (Nat.zero_add _).symm (Nat.zero_add _).symm hc1 ?_
  refine J_istore_n [(1, .int v2), (0, .ref 63)] rfl (i := 1) (by decide) rfl dX10_laySums_4 ?_
  refine J_iconst (v := 0) (by decide) dX10_laySums_5 ?_
  refine J_istore_n [(2, .int 0), (1, .int v2), (0, .ref 63)] rfl (i := 2) (by decide) rfl dX10_laySums_6 ?_
  exact J_sub [2, 1, 0] rfl hw
set_option maxRecDepth 20000 in
theorem bX10_laySums_7 {G : Gx} {mm : Nat → Nat → Int32} {lm : Nat → Int64} {x1 : Int32} {x2 : Int32} {o : Ou} {z : Wd} {a b : Nat} (hw : ((256 ≤ x2) → o = .inl none ∧ z = (SH, mm, lm)) ∧ ((¬ 256 ≤ x2) → ((¬ (x2 &&& (x1 ^^^ (-1))) = 0) → ∃ j1 : Nat, x2 = nI j1 ∧ j1 < 256 ∧ J G M_X10_laySums 7 [(0, .ref 63), (1, .int x1), (2, .int (x2 + 1))] [] (SH, (mset mm 84 j1 1000000), lm) false o z false a b) ∧ (((x2 &&& (x1 ^^^ (-1))) = 0) → ∃ (v3 : Int32), Ct G M_X10_lengthsOf [.ref 63, .int x2] (SH, mm, lm) false (.inl (some (.int v3))) (SH, mm, lm) false 0 0 ∧ ∃ j5 : Nat, x2 = nI j5 ∧ j5 < 256 ∧ J G M_X10_laySums 7 [(0, .ref 63), (1, .int x1), (2, .int (x2 + 1))] [] (SH, (mset mm 84 j5 v3), lm) false o z false a b))) :
    J G M_X10_laySums 7 [(0, .ref 63), (1, .int x1), (2, .int x2)] [] (SH, mm, lm) false o z false a b := by
  refine J_iload_n rfl (i := 2) rfl dX10_laySums_7 ?_
  refine J_sipush (v := 256) (by decide) dX10_laySums_8 ?_
  refine J_icmp_ge (tgt := 45) dX10_laySums_11 (by decide) (fun hb7 => ?_) (fun hb7 => ?_)
  · replace hw := hw.1 hb7
    exact J_finv rfl dX10_laySums_45 hw
  · replace hw := hw.2 hb7
    refine J_aload_n rfl (i := 0) rfl dX10_laySums_14 ?_
    refine J_getr kls_10 (q := 63) (k := 40) sh_63 (by decide) rfl gw_1473 dX10_laySums_15 ?_
    refine J_iload_n rfl (i := 2) rfl dX10_laySums_18 ?_
    refine J_iload_n rfl (i := 2) rfl dX10_laySums_19 ?_
    refine J_iload_n rfl (i := 1) rfl dX10_laySums_20 ?_
    refine J_iconst (v := (-1)) (by decide) dX10_laySums_21 ?_
    refine J_ixor dX10_laySums_22 ?_
    refine J_iand dX10_laySums_23 ?_
    refine J_if_ne (tgt := 35) dX10_laySums_24 (by decide) (fun hb6 => ?_) (fun hb6 => ?_)
    · replace hw := hw.1 hb6
      refine J_ldcw gw_1763 dX10_laySums_35 ?_
      obtain ⟨j1, ej1, hj1, hw⟩ := hw
      refine J_iast sh_84 ej1 hj1 (by decide) dX10_laySums_38 ?_
      refine J_iinc [(2, .int (x2 + 1)), (0, .ref 63), (1, .int x1)] (i := 2) (v := (x2 + 1)) rfl rfl (by decide) rfl dX10_laySums_39 ?_
      refine J_goto (tgt := 7) dX10_laySums_42 (by decide) ?_
      exact J_sub [1, 2, 0] rfl hw
    · replace hw := hw.2 hb6
      refine J_aload_n rfl (i := 0) rfl dX10_laySums_27 ?_
      refine J_iload_n rfl (i := 2) rfl dX10_laySums_28 ?_
      obtain ⟨v3, hc2, hw⟩ := hw
      refine J_callV (as := [.int x2]) (k := 63) (st := [.int x2, .ref 84]) cal_X10_lengthsOf cai_X10_lengthsOf gw_2025 ⟨by decide, by decide⟩ cnt_X10_lengthsOf sh_63 rfl rfl (Nat.le_of_ble_eq_true rfl) dX10_laySums_29 (Nat.zero_add _).symm (Nat.zero_add _).symm hc2 ?_
      refine J_goto (tgt := 38) dX10_laySums_32 (by decide) ?_
      obtain ⟨j5, ej5, hj5, hw⟩ := hw
      refine J_iast sh_84 ej5 hj5 (by decide) dX10_laySums_38 ?_
      refine J_iinc [(2, .int (x2 + 1)), (0, .ref 63), (1, .int x1)] (i := 2) (v := (x2 + 1)) rfl rfl (by decide) rfl dX10_laySums_39 ?_
      refine J_goto (tgt := 7) dX10_laySums_42 (by decide) ?_
      exact J_sub [1, 2, 0] rfl hw
theorem dX10_layFewest_0 : decode cX10_layFewest 0 = .ok (.iconst 0, 1) := by decide +kernel
theorem dX10_layFewest_1 : decode cX10_layFewest 1 = .ok (.istore_n 1, 1) := by decide +kernel
theorem dX10_layFewest_2 : decode cX10_layFewest 2 = .ok (.iload_n 1, 1) := by decide +kernel
theorem dX10_layFewest_3 : decode cX10_layFewest 3 = .ok (.sipush 256, 3) := by decide +kernel
theorem dX10_layFewest_6 : decode cX10_layFewest 6 = .ok (.if_icmp .ge 35, 3) := by decide +kernel
theorem dX10_layFewest_9 : decode cX10_layFewest 9 = .ok (.aload_n 0, 1) := by decide +kernel
theorem dX10_layFewest_10 : decode cX10_layFewest 10 = .ok (.getfield 65, 3) := by decide +kernel
theorem dX10_layFewest_13 : decode cX10_layFewest 13 = .ok (.sipush 256, 3) := by decide +kernel
theorem dX10_layFewest_16 : decode cX10_layFewest 16 = .ok (.aload_n 0, 1) := by decide +kernel
theorem dX10_layFewest_17 : decode cX10_layFewest 17 = .ok (.getfield 215, 3) := by decide +kernel
theorem dX10_layFewest_20 : decode cX10_layFewest 20 = .ok (.imul, 1) := by decide +kernel
theorem dX10_layFewest_21 : decode cX10_layFewest 21 = .ok (.iload_n 1, 1) := by decide +kernel
theorem dX10_layFewest_22 : decode cX10_layFewest 22 = .ok (.iadd, 1) := by decide +kernel
theorem dX10_layFewest_23 : decode cX10_layFewest 23 = .ok (.iload_n 1, 1) := by decide +kernel
theorem dX10_layFewest_24 : decode cX10_layFewest 24 = .ok (.ifCond .ne 7, 3) := by decide +kernel
theorem dX10_layFewest_27 : decode cX10_layFewest 27 = .ok (.iconst 0, 1) := by decide +kernel
theorem dX10_layFewest_28 : decode cX10_layFewest 28 = .ok (.goto 6, 3) := by decide +kernel
theorem dX10_layFewest_31 : decode cX10_layFewest 31 = .ok (.ldc_w 276, 3) := by decide +kernel
theorem dX10_layFewest_34 : decode cX10_layFewest 34 = .ok (.iastore, 1) := by decide +kernel
theorem dX10_layFewest_35 : decode cX10_layFewest 35 = .ok (.iinc 1 1, 3) := by decide +kernel
theorem dX10_layFewest_38 : decode cX10_layFewest 38 = .ok (.goto (-36), 3) := by decide +kernel
theorem dX10_layFewest_41 : decode cX10_layFewest 41 = .ok (.aload_n 0, 1) := by decide +kernel
theorem dX10_layFewest_42 : decode cX10_layFewest 42 = .ok (.getfield 215, 3) := by decide +kernel
theorem dX10_layFewest_45 : decode cX10_layFewest 45 = .ok (.iconst 1, 1) := by decide +kernel
theorem dX10_layFewest_46 : decode cX10_layFewest 46 = .ok (.isub, 1) := by decide +kernel
theorem dX10_layFewest_47 : decode cX10_layFewest 47 = .ok (.istore_n 1, 1) := by decide +kernel
theorem dX10_layFewest_48 : decode cX10_layFewest 48 = .ok (.iload_n 1, 1) := by decide +kernel
theorem dX10_layFewest_49 : decode cX10_layFewest 49 = .ok (.ifCond .lt 42, 3) := by decide +kernel
theorem dX10_layFewest_52 : decode cX10_layFewest 52 = .ok (.iconst 0, 1) := by decide +kernel
theorem dX10_layFewest_53 : decode cX10_layFewest 53 = .ok (.istore_n 2, 1) := by decide +kernel
theorem dX10_layFewest_54 : decode cX10_layFewest 54 = .ok (.iload_n 2, 1) := by decide +kernel
theorem dX10_layFewest_55 : decode cX10_layFewest 55 = .ok (.sipush 256, 3) := by decide +kernel
theorem dX10_layFewest_58 : decode cX10_layFewest 58 = .ok (.if_icmp .ge 27, 3) := by decide +kernel
theorem dX10_layFewest_61 : decode cX10_layFewest 61 = .ok (.aload_n 0, 1) := by decide +kernel
theorem dX10_layFewest_62 : decode cX10_layFewest 62 = .ok (.getfield 65, 3) := by decide +kernel
theorem dX10_layFewest_65 : decode cX10_layFewest 65 = .ok (.sipush 256, 3) := by decide +kernel
theorem dX10_layFewest_68 : decode cX10_layFewest 68 = .ok (.iload_n 1, 1) := by decide +kernel
theorem dX10_layFewest_69 : decode cX10_layFewest 69 = .ok (.imul, 1) := by decide +kernel
theorem dX10_layFewest_70 : decode cX10_layFewest 70 = .ok (.iload_n 2, 1) := by decide +kernel
theorem dX10_layFewest_71 : decode cX10_layFewest 71 = .ok (.iadd, 1) := by decide +kernel
theorem dX10_layFewest_72 : decode cX10_layFewest 72 = .ok (.aload_n 0, 1) := by decide +kernel
theorem dX10_layFewest_73 : decode cX10_layFewest 73 = .ok (.iload_n 1, 1) := by decide +kernel
theorem dX10_layFewest_74 : decode cX10_layFewest 74 = .ok (.iload_n 2, 1) := by decide +kernel
theorem dX10_layFewest_75 : decode cX10_layFewest 75 = .ok (.invokevirtual 388, 3) := by decide +kernel
theorem dX10_layFewest_78 : decode cX10_layFewest 78 = .ok (.iastore, 1) := by decide +kernel
theorem dX10_layFewest_79 : decode cX10_layFewest 79 = .ok (.iinc 2 1, 3) := by decide +kernel
theorem dX10_layFewest_82 : decode cX10_layFewest 82 = .ok (.goto (-28), 3) := by decide +kernel
theorem dX10_layFewest_85 : decode cX10_layFewest 85 = .ok (.iinc 1 (-1), 3) := by decide +kernel
theorem dX10_layFewest_88 : decode cX10_layFewest 88 = .ok (.goto (-40), 3) := by decide +kernel
theorem dX10_layFewest_91 : decode cX10_layFewest 91 = .ok (.return_, 1) := by decide +kernel
set_option maxRecDepth 20000 in
theorem bX10_layFewest_0 {G : Gx} {mm : Nat → Nat → Int32} {lm : Nat → Int64}  {o : Ou} {z : Wd} {a b : Nat} (hw : J G M_X10_layFewest 2 [(0, .ref 63), (1, .int 0)] [] (SH, mm, lm) false o z false a b) :
    J G M_X10_layFewest 0 [(0, .ref 63)] [] (SH, mm, lm) false o z false a b := by
  refine J_iconst (v := 0) (by decide) dX10_layFewest_0 ?_
  refine J_istore_n [(1, .int 0), (0, .ref 63)] rfl (i := 1) (by decide) rfl dX10_layFewest_1 ?_
  exact J_sub [1, 0] rfl hw
set_option maxRecDepth 20000 in
theorem bX10_layFewest_2 {G : Gx} {mm : Nat → Nat → Int32} {lm : Nat → Int64} {x1 : Int32} {o : Ou} {z : Wd} {a b : Nat} (hw : ((256 ≤ x1) → J G M_X10_layFewest 48 [(0, .ref 63), (1, .int ((mm 63 15) - 1))] [] (SH, mm, lm) false o z false a b) ∧ ((¬ 256 ≤ x1) → ((¬ x1 = 0) → ∃ j1 : Nat, ((256 * (mm 63 15)) + x1) = nI j1 ∧ j1 < 2304 ∧ J G M_X10_layFewest 2 [(0, .ref 63), (1, .int (x1 + 1))] [] (SH, (mset mm 81 j1 1000000), lm) false o z false a b) ∧ ((x1 = 0) → ∃ j2 : Nat, ((256 * (mm 63 15)) + x1) = nI j2 ∧ j2 < 2304 ∧ J G M_X10_layFewest 2 [(0, .ref 63), (1, .int (x1 + 1))] [] (SH, (mset mm 81 j2 0), lm) false o z false a b))) :
    J G M_X10_layFewest 2 [(0, .ref 63), (1, .int x1)] [] (SH, mm, lm) false o z false a b := by
  refine J_iload_n rfl (i := 1) rfl dX10_layFewest_2 ?_
  refine J_sipush (v := 256) (by decide) dX10_layFewest_3 ?_
  refine J_icmp_ge (tgt := 41) dX10_layFewest_6 (by decide) (fun hb4 => ?_) (fun hb4 => ?_)
  · replace hw := hw.1 hb4
    refine J_aload_n rfl (i := 0) rfl dX10_layFewest_41 ?_
    refine J_geti kls_10 (q := 63) (k := 15) sh_63 (by decide) rfl gw_1448 dX10_layFewest_42 ?_
    refine J_iconst (v := 1) (by decide) dX10_layFewest_45 ?_
    refine J_isub dX10_layFewest_46 ?_
    refine J_istore_n [(1, .int ((mm 63 15) - 1)), (0, .ref 63)] rfl (i := 1) (by decide) rfl dX10_layFewest_47 ?_
    exact J_sub [1, 0] rfl hw
  · replace hw := hw.2 hb4
    refine J_aload_n rfl (i := 0) rfl dX10_layFewest_9 ?_
    refine J_getr kls_10 (q := 63) (k := 37) sh_63 (by decide) rfl gw_1470 dX10_layFewest_10 ?_
    refine J_sipush (v := 256) (by decide) dX10_layFewest_13 ?_
    refine J_aload_n rfl (i := 0) rfl dX10_layFewest_16 ?_
    refine J_geti kls_10 (q := 63) (k := 15) sh_63 (by decide) rfl gw_1448 dX10_layFewest_17 ?_
    refine J_imul dX10_layFewest_20 ?_
    refine J_iload_n rfl (i := 1) rfl dX10_layFewest_21 ?_
    refine J_iadd dX10_layFewest_22 ?_
    refine J_iload_n rfl (i := 1) rfl dX10_layFewest_23 ?_
    refine J_if_ne (tgt := 31) dX10_layFewest_24 (by decide) (fun hb3 => ?_) (fun hb3 => ?_)
    · replace hw := hw.1 hb3
      refine J_ldcw gw_1763 dX10_layFewest_31 ?_
      obtain ⟨j1, ej1, hj1, hw⟩ := hw
      refine J_iast sh_81 ej1 hj1 (by decide) dX10_layFewest_34 ?_
      refine J_iinc [(1, .int (x1 + 1)), (0, .ref 63)] (i := 1) (v := (x1 + 1)) rfl rfl (by decide) rfl dX10_layFewest_35 ?_
      refine J_goto (tgt := 2) dX10_layFewest_38 (by decide) ?_
      exact J_sub [1, 0] rfl hw
    · replace hw := hw.2 hb3
      refine J_iconst (v := 0) (by decide) dX10_layFewest_27 ?_
      refine J_goto (tgt := 34) dX10_layFewest_28 (by decide) ?_
      obtain ⟨j2, ej2, hj2, hw⟩ := hw
      refine J_iast sh_81 ej2 hj2 (by decide) dX10_layFewest_34 ?_
      refine J_iinc [(1, .int (x1 + 1)), (0, .ref 63)] (i := 1) (v := (x1 + 1)) rfl rfl (by decide) rfl dX10_layFewest_35 ?_
      refine J_goto (tgt := 2) dX10_layFewest_38 (by decide) ?_
      exact J_sub [1, 0] rfl hw
set_option maxRecDepth 20000 in
theorem bX10_layFewest_48 {G : Gx} {mm : Nat → Nat → Int32} {lm : Nat → Int64} {x1 : Int32} {o : Ou} {z : Wd} {a b : Nat} (hw : ((x1 < 0) → o = .inl none ∧ z = (SH, mm, lm)) ∧ ((¬ x1 < 0) → J G M_X10_layFewest 54 [(0, .ref 63), (1, .int x1), (2, .int 0)] [] (SH, mm, lm) false o z false a b)) :
    J G M_X10_layFewest 48 [(0, .ref 63), (1, .int x1)] [] (SH, mm, lm) false o z false a b := by
  refine J_iload_n rfl (i := 1) rfl dX10_layFewest_48 ?_
  refine J_if_lt (tgt := 91) dX10_layFewest_49 (by decide) (fun hb1 => ?_) (fun hb1 => ?_)
  · replace hw := hw.1 hb1
    exact J_finv rfl dX10_layFewest_91 hw
  · replace hw := hw.2 hb1
    refine J_iconst (v := 0) (by decide) dX10_layFewest_52 ?_
    refine J_istore_n [(2, .int 0), (0, .ref 63), (1, .int x1)] rfl (i := 2) (by decide) rfl dX10_layFewest_53 ?_
    exact J_sub [1, 2, 0] rfl hw
set_option maxRecDepth 20000 in
theorem bX10_layFewest_54 {G : Gx} {mm : Nat → Nat → Int32} {lm : Nat → Int64} {x1 : Int32} {x2 : Int32} {o : Ou} {z : Wd} {a b : Nat} (hw : ((256 ≤ x2) → J G M_X10_layFewest 48 [(0, .ref 63), (1, .int (x1 + (-1)))] [] (SH, mm, lm) false o z false a b) ∧ ((¬ 256 ≤ x2) → ∃ (v2 : Int32), Ct G M_X10_bestWith [.ref 63, .int x1, .int x2] (SH, mm, lm) false (.inl (some (.int v2))) (SH, mm, lm) false 0 0 ∧ ∃ j4 : Nat, ((256 * x1) + x2) = nI j4 ∧ j4 < 2304 ∧ J G M_X10_layFewest 54 [(0, .ref 63), (1, .int x1), (2, .int (x2 + 1))] [] (SH, (mset mm 81 j4 v2), lm) false o z false a b)) :
    J G M_X10_layFewest 54 [(0, .ref 63), (1, .int x1), (2, .int x2)] [] (SH, mm, lm) false o z false a b := by
  refine J_iload_n rfl (i := 2) rfl dX10_layFewest_54 ?_
  refine J_sipush (v := 256) (by decide) dX10_layFewest_55 ?_
  refine J_icmp_ge (tgt := 85) dX10_layFewest_58 (by decide) (fun hb5 => ?_) (fun hb5 => ?_)
  · replace hw := hw.1 hb5
    refine J_iinc [(1, .int (x1 + (-1))), (0, .ref 63), (2, .int x2)] (i := 1) (v := (x1 + (-1))) rfl (congrArg (fun y => x1 + y) (by decide : Int32.ofInt (-1) = (-1))) (by decide) rfl dX10_layFewest_85 ?_
    refine J_goto (tgt := 48) dX10_layFewest_88 (by decide) ?_
    exact J_sub [1, 0] rfl hw
  · replace hw := hw.2 hb5
    refine J_aload_n rfl (i := 0) rfl dX10_layFewest_61 ?_
    refine J_getr kls_10 (q := 63) (k := 37) sh_63 (by decide) rfl gw_1470 dX10_layFewest_62 ?_
    refine J_sipush (v := 256) (by decide) dX10_layFewest_65 ?_
    refine J_iload_n rfl (i := 1) rfl dX10_layFewest_68 ?_
    refine J_imul dX10_layFewest_69 ?_
    refine J_iload_n rfl (i := 2) rfl dX10_layFewest_70 ?_
    refine J_iadd dX10_layFewest_71 ?_
    refine J_aload_n rfl (i := 0) rfl dX10_layFewest_72 ?_
    refine J_iload_n rfl (i := 1) rfl dX10_layFewest_73 ?_
    refine J_iload_n rfl (i := 2) rfl dX10_layFewest_74 ?_
    obtain ⟨v2, hc1, hw⟩ := hw
    refine J_callV (as := [.int x1, .int x2]) (k := 63) (st := [.int ((256 * x1) + x2), .ref 81]) cal_X10_bestWith cai_X10_bestWith gw_2033 ⟨by decide, by decide⟩ cnt_X10_bestWith sh_63 rfl rfl (Nat.le_of_ble_eq_true rfl) dX10_layFewest_75 (Nat.zero_add _).symm (Nat.zero_add _).symm hc1 ?_
    obtain ⟨j4, ej4, hj4, hw⟩ := hw
    refine J_iast sh_81 ej4 hj4 (by decide) dX10_layFewest_78 ?_
    refine J_iinc [(2, .int (x2 + 1)), (0, .ref 63), (1, .int x1)] (i := 2) (v := (x2 + 1)) rfl rfl (by decide) rfl dX10_layFewest_79 ?_
    refine J_goto (tgt := 54) dX10_layFewest_82 (by decide) ?_
    exact J_sub [1, 2, 0] rfl hw
theorem dX10_bestWith_0 : decode cX10_bestWith 0 = .ok (.aload_n 0, 1) := by decide +kernel
theorem dX10_bestWith_1 : decode cX10_bestWith 1 = .ok (.getfield 65, 3) := by decide +kernel
theorem dX10_bestWith_4 : decode cX10_bestWith 4 = .ok (.sipush 256, 3) := by decide +kernel
theorem dX10_bestWith_7 : decode cX10_bestWith 7 = .ok (.iload_n 1, 1) := by decide +kernel
theorem dX10_bestWith_8 : decode cX10_bestWith 8 = .ok (.iconst 1, 1) := by decide +kernel
theorem dX10_bestWith_9 : decode cX10_bestWith 9 = .ok (.iadd, 1) := by decide +kernel
theorem dX10_bestWith_10 : decode cX10_bestWith 10 = .ok (.imul, 1) := by decide +kernel
theorem dX10_bestWith_11 : decode cX10_bestWith 11 = .ok (.iload_n 2, 1) := by decide +kernel
theorem dX10_bestWith_12 : decode cX10_bestWith 12 = .ok (.iadd, 1) := by decide +kernel
theorem dX10_bestWith_13 : decode cX10_bestWith 13 = .ok (.iaload, 1) := by decide +kernel
theorem dX10_bestWith_14 : decode cX10_bestWith 14 = .ok (.istore_n 3, 1) := by decide +kernel
theorem dX10_bestWith_15 : decode cX10_bestWith 15 = .ok (.iload_n 2, 1) := by decide +kernel
theorem dX10_bestWith_16 : decode cX10_bestWith 16 = .ok (.istore 4, 2) := by decide +kernel
theorem dX10_bestWith_18 : decode cX10_bestWith 18 = .ok (.iload 4, 2) := by decide +kernel
theorem dX10_bestWith_20 : decode cX10_bestWith 20 = .ok (.ifCond .le 84, 3) := by decide +kernel
theorem dX10_bestWith_23 : decode cX10_bestWith 23 = .ok (.aload_n 0, 1) := by decide +kernel
theorem dX10_bestWith_24 : decode cX10_bestWith 24 = .ok (.getfield 68, 3) := by decide +kernel
theorem dX10_bestWith_27 : decode cX10_bestWith 27 = .ok (.iload_n 1, 1) := by decide +kernel
theorem dX10_bestWith_28 : decode cX10_bestWith 28 = .ok (.iaload, 1) := by decide +kernel
theorem dX10_bestWith_29 : decode cX10_bestWith 29 = .ok (.aload_n 0, 1) := by decide +kernel
theorem dX10_bestWith_30 : decode cX10_bestWith 30 = .ok (.getfield 74, 3) := by decide +kernel
theorem dX10_bestWith_33 : decode cX10_bestWith 33 = .ok (.iload 4, 2) := by decide +kernel
theorem dX10_bestWith_35 : decode cX10_bestWith 35 = .ok (.iaload, 1) := by decide +kernel
theorem dX10_bestWith_36 : decode cX10_bestWith 36 = .ok (.iadd, 1) := by decide +kernel
theorem dX10_bestWith_37 : decode cX10_bestWith 37 = .ok (.aload_n 0, 1) := by decide +kernel
theorem dX10_bestWith_38 : decode cX10_bestWith 38 = .ok (.getfield 37, 3) := by decide +kernel
theorem dX10_bestWith_41 : decode cX10_bestWith 41 = .ok (.iload_n 1, 1) := by decide +kernel
theorem dX10_bestWith_42 : decode cX10_bestWith 42 = .ok (.iaload, 1) := by decide +kernel
theorem dX10_bestWith_43 : decode cX10_bestWith 43 = .ok (.if_icmp .gt 50, 3) := by decide +kernel
theorem dX10_bestWith_46 : decode cX10_bestWith 46 = .ok (.aload_n 0, 1) := by decide +kernel
theorem dX10_bestWith_47 : decode cX10_bestWith 47 = .ok (.getfield 65, 3) := by decide +kernel
theorem dX10_bestWith_50 : decode cX10_bestWith 50 = .ok (.sipush 256, 3) := by decide +kernel
theorem dX10_bestWith_53 : decode cX10_bestWith 53 = .ok (.iload_n 1, 1) := by decide +kernel
theorem dX10_bestWith_54 : decode cX10_bestWith 54 = .ok (.iconst 1, 1) := by decide +kernel
theorem dX10_bestWith_55 : decode cX10_bestWith 55 = .ok (.iadd, 1) := by decide +kernel
theorem dX10_bestWith_56 : decode cX10_bestWith 56 = .ok (.imul, 1) := by decide +kernel
theorem dX10_bestWith_57 : decode cX10_bestWith 57 = .ok (.iload_n 2, 1) := by decide +kernel
theorem dX10_bestWith_58 : decode cX10_bestWith 58 = .ok (.iload 4, 2) := by decide +kernel
theorem dX10_bestWith_60 : decode cX10_bestWith 60 = .ok (.ixor, 1) := by decide +kernel
theorem dX10_bestWith_61 : decode cX10_bestWith 61 = .ok (.iadd, 1) := by decide +kernel
theorem dX10_bestWith_62 : decode cX10_bestWith 62 = .ok (.iaload, 1) := by decide +kernel
theorem dX10_bestWith_63 : decode cX10_bestWith 63 = .ok (.aload_n 0, 1) := by decide +kernel
theorem dX10_bestWith_64 : decode cX10_bestWith 64 = .ok (.getfield 68, 3) := by decide +kernel
theorem dX10_bestWith_67 : decode cX10_bestWith 67 = .ok (.iload_n 1, 1) := by decide +kernel
theorem dX10_bestWith_68 : decode cX10_bestWith 68 = .ok (.iaload, 1) := by decide +kernel
theorem dX10_bestWith_69 : decode cX10_bestWith 69 = .ok (.ifCond .ne 7, 3) := by decide +kernel
theorem dX10_bestWith_72 : decode cX10_bestWith 72 = .ok (.iconst 1, 1) := by decide +kernel
theorem dX10_bestWith_73 : decode cX10_bestWith 73 = .ok (.goto 4, 3) := by decide +kernel
theorem dX10_bestWith_76 : decode cX10_bestWith 76 = .ok (.iconst 0, 1) := by decide +kernel
theorem dX10_bestWith_77 : decode cX10_bestWith 77 = .ok (.iadd, 1) := by decide +kernel
theorem dX10_bestWith_78 : decode cX10_bestWith 78 = .ok (.istore 5, 2) := by decide +kernel
theorem dX10_bestWith_80 : decode cX10_bestWith 80 = .ok (.iload 5, 2) := by decide +kernel
theorem dX10_bestWith_82 : decode cX10_bestWith 82 = .ok (.iload_n 3, 1) := by decide +kernel
theorem dX10_bestWith_83 : decode cX10_bestWith 83 = .ok (.if_icmp .ge 8, 3) := by decide +kernel
theorem dX10_bestWith_86 : decode cX10_bestWith 86 = .ok (.iload 5, 2) := by decide +kernel
theorem dX10_bestWith_88 : decode cX10_bestWith 88 = .ok (.goto 4, 3) := by decide +kernel
theorem dX10_bestWith_91 : decode cX10_bestWith 91 = .ok (.iload_n 3, 1) := by decide +kernel
theorem dX10_bestWith_92 : decode cX10_bestWith 92 = .ok (.istore_n 3, 1) := by decide +kernel
theorem dX10_bestWith_93 : decode cX10_bestWith 93 = .ok (.iload 4, 2) := by decide +kernel
theorem dX10_bestWith_95 : decode cX10_bestWith 95 = .ok (.iconst 1, 1) := by decide +kernel
theorem dX10_bestWith_96 : decode cX10_bestWith 96 = .ok (.isub, 1) := by decide +kernel
theorem dX10_bestWith_97 : decode cX10_bestWith 97 = .ok (.iload_n 2, 1) := by decide +kernel
theorem dX10_bestWith_98 : decode cX10_bestWith 98 = .ok (.iand, 1) := by decide +kernel
theorem dX10_bestWith_99 : decode cX10_bestWith 99 = .ok (.istore 4, 2) := by decide +kernel
theorem dX10_bestWith_101 : decode cX10_bestWith 101 = .ok (.goto (-83), 3) := by decide +kernel
theorem dX10_bestWith_104 : decode cX10_bestWith 104 = .ok (.iload_n 3, 1) := by decide +kernel
theorem dX10_bestWith_105 : decode cX10_bestWith 105 = .ok (.ireturn, 1) := by decide +kernel
set_option maxRecDepth 20000 in
theorem bX10_bestWith_0 {G : Gx} {mm : Nat → Nat → Int32} {lm : Nat → Int64} {x1 : Int32} {x2 : Int32} {o : Ou} {z : Wd} {a b : Nat} (hw : ∃ j1 : Nat, ((256 * (x1 + 1)) + x2) = nI j1 ∧ j1 < 2304 ∧ J G M_X10_bestWith 18 [(0, .ref 63), (1, .int x1), (2, .int x2), (3, .int (mm 81 j1)), (4, .int x2)] [] (SH, mm, lm) false o z false a b) :
    J G M_X10_bestWith 0 [(0, .ref 63), (1, .int x1), (2, .int x2)] [] (SH, mm, lm) false o z false a b := by
  refine J_aload_n rfl (i := 0) rfl dX10_bestWith_0 ?_
  refine J_getr kls_10 (q := 63) (k := 37) sh_63 (by decide) rfl gw_1470 dX10_bestWith_1 ?_
  refine J_sipush (v := 256) (by decide) dX10_bestWith_4 ?_
  refine J_iload_n rfl (i := 1) rfl dX10_bestWith_7 ?_
  refine J_iconst (v := 1) (by decide) dX10_bestWith_8 ?_
  refine J_iadd dX10_bestWith_9 ?_
  refine J_imul dX10_bestWith_10 ?_
  refine J_iload_n rfl (i := 2) rfl dX10_bestWith_11 ?_
  refine J_iadd dX10_bestWith_12 ?_
  obtain ⟨j1, ej1, hj1, hw⟩ := hw
  refine J_iald sh_81 ej1 hj1 (by decide) dX10_bestWith_13 ?_
  refine J_istore_n [(3, .int (mm 81 j1)), (0, .ref 63), (1, .int x1), (2, .int x2)] rfl (i := 3) (by decide) rfl dX10_bestWith_14 ?_
  refine J_iload_n rfl (i := 2) rfl dX10_bestWith_15 ?_
  refine J_istore [(4, .int x2), (3, .int (mm 81 j1)), (0, .ref 63), (1, .int x1), (2, .int x2)] (i := 4) (by decide) rfl dX10_bestWith_16 ?_
  exact J_sub [2, 3, 4, 1, 0] rfl hw
set_option maxRecDepth 20000 in
theorem bX10_bestWith_18 {G : Gx} {mm : Nat → Nat → Int32} {lm : Nat → Int64} {x1 : Int32} {x2 : Int32} {x3 : Int32} {x4 : Int32} {o : Ou} {z : Wd} {a b : Nat} (hw : ((x4 ≤ 0) → o = .inl (some (.int x3)) ∧ z = (SH, mm, lm)) ∧ ((¬ x4 ≤ 0) → ∃ j1 : Nat, x1 = nI j1 ∧ j1 < 8 ∧ ∃ j2 : Nat, x4 = nI j2 ∧ j2 < 256 ∧ ∃ j3 : Nat, x1 = nI j3 ∧ j3 < 8 ∧ (((mm 73 j3) < ((mm 82 j1) + (mm 84 j2))) → J G M_X10_bestWith 18 [(0, .ref 63), (1, .int x1), (2, .int x2), (3, .int x3), (4, .int ((x4 - 1) &&& x2))] [] (SH, mm, lm) false o z false a b) ∧ ((¬ (mm 73 j3) < ((mm 82 j1) + (mm 84 j2))) → ∃ j4 : Nat, ((256 * (x1 + 1)) + (x2 ^^^ x4)) = nI j4 ∧ j4 < 2304 ∧ ∃ j5 : Nat, x1 = nI j5 ∧ j5 < 8 ∧ ((¬ (mm 82 j5) = 0) → ((x3 ≤ ((mm 81 j4) + 0)) → J G M_X10_bestWith 18 [(0, .ref 63), (1, .int x1), (2, .int x2), (3, .int x3), (4, .int ((x4 - 1) &&& x2))] [] (SH, mm, lm) false o z false a b) ∧ ((¬ x3 ≤ ((mm 81 j4) + 0)) → J G M_X10_bestWith 18 [(0, .ref 63), (1, .int x1), (2, .int x2), (3, .int ((mm 81 j4) + 0)), (4, .int ((x4 - 1) &&& x2))] [] (SH, mm, lm) false o z false a b)) ∧ (((mm 82 j5) = 0) → ((x3 ≤ ((mm 81 j4) + 1)) → J G M_X10_bestWith 18 [(0, .ref 63), (1, .int x1), (2, .int x2), (3, .int x3), (4, .int ((x4 - 1) &&& x2))] [] (SH, mm, lm) false o z false a b) ∧ ((¬ x3 ≤ ((mm 81 j4) + 1)) → J G M_X10_bestWith 18 [(0, .ref 63), (1, .int x1), (2, .int x2), (3, .int ((mm 81 j4) + 1)), (4, .int ((x4 - 1) &&& x2))] [] (SH, mm, lm) false o z false a b))))) :
    J G M_X10_bestWith 18 [(0, .ref 63), (1, .int x1), (2, .int x2), (3, .int x3), (4, .int x4)] [] (SH, mm, lm) false o z false a b := by
  refine J_iload (i := 4) rfl dX10_bestWith_18 ?_
  refine J_if_le (tgt := 104) dX10_bestWith_20 (by decide) (fun hb10 => ?_) (fun hb10 => ?_)
  · replace hw := hw.1 hb10
    refine J_iload_n rfl (i := 3) rfl dX10_bestWith_104 ?_
    exact J_fini (ty := .int) rfl rfl dX10_bestWith_105 hw
  · replace hw := hw.2 hb10
    refine J_aload_n rfl (i := 0) rfl dX10_bestWith_23 ?_
    refine J_getr kls_10 (q := 63) (k := 38) sh_63 (by decide) rfl gw_1471 dX10_bestWith_24 ?_
    refine J_iload_n rfl (i := 1) rfl dX10_bestWith_27 ?_
    obtain ⟨j1, ej1, hj1, hw⟩ := hw
    refine J_iald sh_82 ej1 hj1 (by decide) dX10_bestWith_28 ?_
    refine J_aload_n rfl (i := 0) rfl dX10_bestWith_29 ?_
    refine J_getr kls_10 (q := 63) (k := 40) sh_63 (by decide) rfl gw_1473 dX10_bestWith_30 ?_
    refine J_iload (i := 4) rfl dX10_bestWith_33 ?_
    obtain ⟨j2, ej2, hj2, hw⟩ := hw
    refine J_iald sh_84 ej2 hj2 (by decide) dX10_bestWith_35 ?_
    refine J_iadd dX10_bestWith_36 ?_
    refine J_aload_n rfl (i := 0) rfl dX10_bestWith_37 ?_
    refine J_getr kls_10 (q := 63) (k := 16) sh_63 (by decide) rfl gw_1449 dX10_bestWith_38 ?_
    refine J_iload_n rfl (i := 1) rfl dX10_bestWith_41 ?_
    obtain ⟨j3, ej3, hj3, hw⟩ := hw
    refine J_iald sh_73 ej3 hj3 (by decide) dX10_bestWith_42 ?_
    refine J_icmp_gt (tgt := 93) dX10_bestWith_43 (by decide) (fun hb9 => ?_) (fun hb9 => ?_)
    · replace hw := hw.1 hb9
      refine J_iload (i := 4) rfl dX10_bestWith_93 ?_
      refine J_iconst (v := 1) (by decide) dX10_bestWith_95 ?_
      refine J_isub dX10_bestWith_96 ?_
      refine J_iload_n rfl (i := 2) rfl dX10_bestWith_97 ?_
      refine J_iand dX10_bestWith_98 ?_
      refine J_istore [(4, .int ((x4 - 1) &&& x2)), (0, .ref 63), (1, .int x1), (2, .int x2), (3, .int x3)] (i := 4) (by decide) rfl dX10_bestWith_99 ?_
      refine J_goto (tgt := 18) dX10_bestWith_101 (by decide) ?_
      exact J_sub [1, 2, 3, 4, 0] rfl hw
    · replace hw := hw.2 hb9
      refine J_aload_n rfl (i := 0) rfl dX10_bestWith_46 ?_
      refine J_getr kls_10 (q := 63) (k := 37) sh_63 (by decide) rfl gw_1470 dX10_bestWith_47 ?_
      refine J_sipush (v := 256) (by decide) dX10_bestWith_50 ?_
      refine J_iload_n rfl (i := 1) rfl dX10_bestWith_53 ?_
      refine J_iconst (v := 1) (by decide) dX10_bestWith_54 ?_
      refine J_iadd dX10_bestWith_55 ?_
      refine J_imul dX10_bestWith_56 ?_
      refine J_iload_n rfl (i := 2) rfl dX10_bestWith_57 ?_
      refine J_iload (i := 4) rfl dX10_bestWith_58 ?_
      refine J_ixor dX10_bestWith_60 ?_
      refine J_iadd dX10_bestWith_61 ?_
      obtain ⟨j4, ej4, hj4, hw⟩ := hw
      refine J_iald sh_81 ej4 hj4 (by decide) dX10_bestWith_62 ?_
      refine J_aload_n rfl (i := 0) rfl dX10_bestWith_63 ?_
      refine J_getr kls_10 (q := 63) (k := 38) sh_63 (by decide) rfl gw_1471 dX10_bestWith_64 ?_
      refine J_iload_n rfl (i := 1) rfl dX10_bestWith_67 ?_
      obtain ⟨j5, ej5, hj5, hw⟩ := hw
      refine J_iald sh_82 ej5 hj5 (by decide) dX10_bestWith_68 ?_
      refine J_if_ne (tgt := 76) dX10_bestWith_69 (by decide) (fun hb8 => ?_) (fun hb8 => ?_)
      · replace hw := hw.1 hb8
        refine J_iconst (v := 0) (by decide) dX10_bestWith_76 ?_
        refine J_iadd dX10_bestWith_77 ?_
        refine J_istore [(5, .int ((mm 81 j4) + 0)), (0, .ref 63), (1, .int x1), (2, .int x2), (3, .int x3), (4, .int x4)] (i := 5) (by decide) rfl dX10_bestWith_78 ?_
        refine J_iload (i := 5) rfl dX10_bestWith_80 ?_
        refine J_iload_n rfl (i := 3) rfl dX10_bestWith_82 ?_
        refine J_icmp_ge (tgt := 91) dX10_bestWith_83 (by decide) (fun hb6 => ?_) (fun hb6 => ?_)
        · replace hw := hw.1 hb6
          refine J_iload_n rfl (i := 3) rfl dX10_bestWith_91 ?_
          refine J_istore_n [(3, .int x3), (5, .int ((mm 81 j4) + 0)), (0, .ref 63), (1, .int x1), (2, .int x2), (4, .int x4)] rfl (i := 3) (by decide) rfl dX10_bestWith_92 ?_
          refine J_iload (i := 4) rfl dX10_bestWith_93 ?_
          refine J_iconst (v := 1) (by decide) dX10_bestWith_95 ?_
          refine J_isub dX10_bestWith_96 ?_
          refine J_iload_n rfl (i := 2) rfl dX10_bestWith_97 ?_
          refine J_iand dX10_bestWith_98 ?_
          refine J_istore [(4, .int ((x4 - 1) &&& x2)), (3, .int x3), (5, .int ((mm 81 j4) + 0)), (0, .ref 63), (1, .int x1), (2, .int x2)] (i := 4) (by decide) rfl dX10_bestWith_99 ?_
          refine J_goto (tgt := 18) dX10_bestWith_101 (by decide) ?_
          exact J_sub [3, 4, 5, 1, 0] rfl hw
        · replace hw := hw.2 hb6
          refine J_iload (i := 5) rfl dX10_bestWith_86 ?_
          refine J_goto (tgt := 92) dX10_bestWith_88 (by decide) ?_
          refine J_istore_n [(3, .int ((mm 81 j4) + 0)), (5, .int ((mm 81 j4) + 0)), (0, .ref 63), (1, .int x1), (2, .int x2), (4, .int x4)] rfl (i := 3) (by decide) rfl dX10_bestWith_92 ?_
          refine J_iload (i := 4) rfl dX10_bestWith_93 ?_
          refine J_iconst (v := 1) (by decide) dX10_bestWith_95 ?_
          refine J_isub dX10_bestWith_96 ?_
          refine J_iload_n rfl (i := 2) rfl dX10_bestWith_97 ?_
          refine J_iand dX10_bestWith_98 ?_
          refine J_istore [(4, .int ((x4 - 1) &&& x2)), (3, .int ((mm 81 j4) + 0)), (5, .int ((mm 81 j4) + 0)), (0, .ref 63), (1, .int x1), (2, .int x2)] (i := 4) (by decide) rfl dX10_bestWith_99 ?_
          refine J_goto (tgt := 18) dX10_bestWith_101 (by decide) ?_
          exact J_sub [3, 4, 5, 1, 0] rfl hw
      · replace hw := hw.2 hb8
        refine J_iconst (v := 1) (by decide) dX10_bestWith_72 ?_
        refine J_goto (tgt := 77) dX10_bestWith_73 (by decide) ?_
        refine J_iadd dX10_bestWith_77 ?_
        refine J_istore [(5, .int ((mm 81 j4) + 1)), (0, .ref 63), (1, .int x1), (2, .int x2), (3, .int x3), (4, .int x4)] (i := 5) (by decide) rfl dX10_bestWith_78 ?_
        refine J_iload (i := 5) rfl dX10_bestWith_80 ?_
        refine J_iload_n rfl (i := 3) rfl dX10_bestWith_82 ?_
        refine J_icmp_ge (tgt := 91) dX10_bestWith_83 (by decide) (fun hb7 => ?_) (fun hb7 => ?_)
        · replace hw := hw.1 hb7
          refine J_iload_n rfl (i := 3) rfl dX10_bestWith_91 ?_
          refine J_istore_n [(3, .int x3), (5, .int ((mm 81 j4) + 1)), (0, .ref 63), (1, .int x1), (2, .int x2), (4, .int x4)] rfl (i := 3) (by decide) rfl dX10_bestWith_92 ?_
          refine J_iload (i := 4) rfl dX10_bestWith_93 ?_
          refine J_iconst (v := 1) (by decide) dX10_bestWith_95 ?_
          refine J_isub dX10_bestWith_96 ?_
          refine J_iload_n rfl (i := 2) rfl dX10_bestWith_97 ?_
          refine J_iand dX10_bestWith_98 ?_
          refine J_istore [(4, .int ((x4 - 1) &&& x2)), (3, .int x3), (5, .int ((mm 81 j4) + 1)), (0, .ref 63), (1, .int x1), (2, .int x2)] (i := 4) (by decide) rfl dX10_bestWith_99 ?_
          refine J_goto (tgt := 18) dX10_bestWith_101 (by decide) ?_
          exact J_sub [3, 4, 5, 1, 0] rfl hw
        · replace hw := hw.2 hb7
          refine J_iload (i := 5) rfl dX10_bestWith_86 ?_
          refine J_goto (tgt := 92) dX10_bestWith_88 (by decide) ?_
          refine J_istore_n [(3, .int ((mm 81 j4) + 1)), (5, .int ((mm 81 j4) + 1)), (0, .ref 63), (1, .int x1), (2, .int x2), (4, .int x4)] rfl (i := 3) (by decide) rfl dX10_bestWith_92 ?_
          refine J_iload (i := 4) rfl dX10_bestWith_93 ?_
          refine J_iconst (v := 1) (by decide) dX10_bestWith_95 ?_
          refine J_isub dX10_bestWith_96 ?_
          refine J_iload_n rfl (i := 2) rfl dX10_bestWith_97 ?_
          refine J_iand dX10_bestWith_98 ?_
          refine J_istore [(4, .int ((x4 - 1) &&& x2)), (3, .int ((mm 81 j4) + 1)), (5, .int ((mm 81 j4) + 1)), (0, .ref 63), (1, .int x1), (2, .int x2)] (i := 4) (by decide) rfl dX10_bestWith_99 ?_
          refine J_goto (tgt := 18) dX10_bestWith_101 (by decide) ?_
          exact J_sub [3, 4, 5, 1, 0] rfl hw
theorem dX10_cutting_0 : decode cX10_cutting 0 = .ok (.aload_n 0, 1) := by decide +kernel
theorem dX10_cutting_1 : decode cX10_cutting 1 = .ok (.invokevirtual 391, 3) := by decide +kernel
theorem dX10_cutting_4 : decode cX10_cutting 4 = .ok (.iconst 0, 1) := by decide +kernel
theorem dX10_cutting_5 : decode cX10_cutting 5 = .ok (.istore_n 1, 1) := by decide +kernel
theorem dX10_cutting_6 : decode cX10_cutting 6 = .ok (.iload_n 1, 1) := by decide +kernel
theorem dX10_cutting_7 : decode cX10_cutting 7 = .ok (.bipush 8, 2) := by decide +kernel
theorem dX10_cutting_9 : decode cX10_cutting 9 = .ok (.if_icmp .ge 16, 3) := by decide +kernel
theorem dX10_cutting_12 : decode cX10_cutting 12 = .ok (.aload_n 0, 1) := by decide +kernel
theorem dX10_cutting_13 : decode cX10_cutting 13 = .ok (.getfield 68, 3) := by decide +kernel
theorem dX10_cutting_16 : decode cX10_cutting 16 = .ok (.iload_n 1, 1) := by decide +kernel
theorem dX10_cutting_17 : decode cX10_cutting 17 = .ok (.iconst 0, 1) := by decide +kernel
theorem dX10_cutting_18 : decode cX10_cutting 18 = .ok (.iastore, 1) := by decide +kernel
theorem dX10_cutting_19 : decode cX10_cutting 19 = .ok (.iinc 1 1, 3) := by decide +kernel
theorem dX10_cutting_22 : decode cX10_cutting 22 = .ok (.goto (-16), 3) := by decide +kernel
theorem dX10_cutting_25 : decode cX10_cutting 25 = .ok (.aload_n 0, 1) := by decide +kernel
theorem dX10_cutting_26 : decode cX10_cutting 26 = .ok (.invokevirtual 382, 3) := by decide +kernel
theorem dX10_cutting_29 : decode cX10_cutting 29 = .ok (.istore_n 1, 1) := by decide +kernel
theorem dX10_cutting_30 : decode cX10_cutting 30 = .ok (.aload_n 0, 1) := by decide +kernel
theorem dX10_cutting_31 : decode cX10_cutting 31 = .ok (.invokevirtual 394, 3) := by decide +kernel
theorem dX10_cutting_34 : decode cX10_cutting 34 = .ok (.aload_n 0, 1) := by decide +kernel
theorem dX10_cutting_35 : decode cX10_cutting 35 = .ok (.getfield 65, 3) := by decide +kernel
theorem dX10_cutting_38 : decode cX10_cutting 38 = .ok (.iload_n 1, 1) := by decide +kernel
theorem dX10_cutting_39 : decode cX10_cutting 39 = .ok (.iaload, 1) := by decide +kernel
theorem dX10_cutting_40 : decode cX10_cutting 40 = .ok (.istore_n 2, 1) := by decide +kernel
theorem dX10_cutting_41 : decode cX10_cutting 41 = .ok (.iload_n 2, 1) := by decide +kernel
theorem dX10_cutting_42 : decode cX10_cutting 42 = .ok (.istore_n 3, 1) := by decide +kernel
theorem dX10_cutting_43 : decode cX10_cutting 43 = .ok (.iconst 0, 1) := by decide +kernel
theorem dX10_cutting_44 : decode cX10_cutting 44 = .ok (.istore 4, 2) := by decide +kernel
theorem dX10_cutting_46 : decode cX10_cutting 46 = .ok (.iload 4, 2) := by decide +kernel
theorem dX10_cutting_48 : decode cX10_cutting 48 = .ok (.aload_n 0, 1) := by decide +kernel
theorem dX10_cutting_49 : decode cX10_cutting 49 = .ok (.getfield 206, 3) := by decide +kernel
theorem dX10_cutting_52 : decode cX10_cutting 52 = .ok (.if_icmp .ge 46, 3) := by decide +kernel
theorem dX10_cutting_55 : decode cX10_cutting 55 = .ok (.iload_n 2, 1) := by decide +kernel
theorem dX10_cutting_56 : decode cX10_cutting 56 = .ok (.ldc_w 276, 3) := by decide +kernel
theorem dX10_cutting_59 : decode cX10_cutting 59 = .ok (.if_icmp .ge 39, 3) := by decide +kernel
theorem dX10_cutting_62 : decode cX10_cutting 62 = .ok (.aload_n 0, 1) := by decide +kernel
theorem dX10_cutting_63 : decode cX10_cutting 63 = .ok (.iload 4, 2) := by decide +kernel
theorem dX10_cutting_65 : decode cX10_cutting 65 = .ok (.invokevirtual 244, 3) := by decide +kernel
theorem dX10_cutting_68 : decode cX10_cutting 68 = .ok (.ifCond .ne 6, 3) := by decide +kernel
theorem dX10_cutting_71 : decode cX10_cutting 71 = .ok (.goto 21, 3) := by decide +kernel
theorem dX10_cutting_74 : decode cX10_cutting 74 = .ok (.iload_n 1, 1) := by decide +kernel
theorem dX10_cutting_75 : decode cX10_cutting 75 = .ok (.iconst 1, 1) := by decide +kernel
theorem dX10_cutting_76 : decode cX10_cutting 76 = .ok (.iload 4, 2) := by decide +kernel
theorem dX10_cutting_78 : decode cX10_cutting 78 = .ok (.ishl, 1) := by decide +kernel
theorem dX10_cutting_79 : decode cX10_cutting 79 = .ok (.iconst (-1), 1) := by decide +kernel
theorem dX10_cutting_80 : decode cX10_cutting 80 = .ok (.ixor, 1) := by decide +kernel
theorem dX10_cutting_81 : decode cX10_cutting 81 = .ok (.iand, 1) := by decide +kernel
theorem dX10_cutting_82 : decode cX10_cutting 82 = .ok (.istore_n 1, 1) := by decide +kernel
theorem dX10_cutting_83 : decode cX10_cutting 83 = .ok (.aload_n 0, 1) := by decide +kernel
theorem dX10_cutting_84 : decode cX10_cutting 84 = .ok (.iload 4, 2) := by decide +kernel
theorem dX10_cutting_86 : decode cX10_cutting 86 = .ok (.iload_n 1, 1) := by decide +kernel
theorem dX10_cutting_87 : decode cX10_cutting 87 = .ok (.iload_n 3, 1) := by decide +kernel
theorem dX10_cutting_88 : decode cX10_cutting 88 = .ok (.invokevirtual 397, 3) := by decide +kernel
theorem dX10_cutting_91 : decode cX10_cutting 91 = .ok (.istore_n 3, 1) := by decide +kernel
theorem dX10_cutting_92 : decode cX10_cutting 92 = .ok (.iinc 4 1, 3) := by decide +kernel
theorem dX10_cutting_95 : decode cX10_cutting 95 = .ok (.goto (-49), 3) := by decide +kernel
theorem dX10_cutting_98 : decode cX10_cutting 98 = .ok (.iload_n 2, 1) := by decide +kernel
theorem dX10_cutting_99 : decode cX10_cutting 99 = .ok (.ireturn, 1) := by decide +kernel
set_option maxRecDepth 20000 in
theorem bX10_cutting_0 {G : Gx} {mm : Nat → Nat → Int32} {lm : Nat → Int64}  {o : Ou} {z : Wd} {a b : Nat} (hw : ∃ (m3 : Nat → Nat → Int32), Ct G M_X10_laySums [.ref 63] (SH, mm, lm) false (.inl none) (SH, m3, lm) false 0 0 ∧ J G M_X10_cutting 6 [(0, .ref 63), (1, .int 0)] [] (SH, m3, lm) false o z false a b) :
    J G M_X10_cutting 0 [(0, .ref 63)] [] (SH, mm, lm) false o z false a b := by
  refine J_aload_n rfl (i := 0) rfl dX10_cutting_0 ?_
  obtain ⟨m3, hc1, hw⟩ := hw
  refine J_callV (as := []) (k := 63) (st := []) cal_X10_laySums cai_X10_laySums gw_2017 ⟨by decide, by decide⟩ cnt_X10_laySums sh_63 rfl rfl (Nat.le_of_ble_eq_true rfl) dX10_cutting_1 (Nat.zero_add _).symm (Nat.zero_add _).symm hc1 ?_
  refine J_iconst (v := 0) (by decide) dX10_cutting_4 ?_
  refine J_istore_n [(1, .int 0), (0, .ref 63)] rfl (i := 1) (by decide) rfl dX10_cutting_5 ?_
  exact J_sub [1, 0] rfl hw
set_option maxRecDepth 20000 in
theorem bX10_cutting_6 {G : Gx} {mm : Nat → Nat → Int32} {lm : Nat → Int64} {x1 : Int32} {o : Ou} {z : Wd} {a b : Nat} (hw : ((8 ≤ x1) → ∃ (v2 : Int32), Ct G M_X10_hanging [.ref 63] (SH, mm, lm) false (.inl (some (.int v2))) (SH, mm, lm) false 0 0 ∧ ∃ (m6 : Nat → Nat → Int32), Ct G M_X10_layFewest [.ref 63] (SH, mm, lm) false (.inl none) (SH, m6, lm) false 0 0 ∧ ∃ j7 : Nat, v2 = nI j7 ∧ j7 < 2304 ∧ J G M_X10_cutting 46 [(0, .ref 63), (1, .int v2), (2, .int (m6 81 j7)), (3, .int (m6 81 j7)), (4, .int 0)] [] (SH, m6, lm) false o z false a b) ∧ ((¬ 8 ≤ x1) → ∃ j8 : Nat, x1 = nI j8 ∧ j8 < 8 ∧ J G M_X10_cutting 6 [(0, .ref 63), (1, .int (x1 + 1))] [] (SH, (mset mm 82 j8 0), lm) false o z false a b)) :
    J G M_X10_cutting 6 [(0, .ref 63), (1, .int x1)] [] (SH, mm, lm) false o z false a b := by
  refine J_iload_n rfl (i := 1) rfl dX10_cutting_6 ?_
  refine J_bipush (v := 8) (by decide) dX10_cutting_7 ?_
  refine J_icmp_ge (tgt := 25) dX10_cutting_9 (by decide) (fun hb9 => ?_) (fun hb9 => ?_)
  · replace hw := hw.1 hb9
    refine J_aload_n rfl (i := 0) rfl dX10_cutting_25 ?_
    obtain ⟨v2, hc1, hw⟩ := hw
    refine J_callV (as := []) (k := 63) (st := []) cal_X10_hanging cai_X10_hanging gw_2021 ⟨by decide, by decide⟩ cnt_X10_hanging sh_63 rfl rfl (Nat.le_of_ble_eq_true rfl) dX10_cutting_26 (Nat.zero_add _).symm (Nat.zero_add _).symm hc1 ?_
    refine J_istore_n [(1, .int v2), (0, .ref 63)] rfl (i := 1) (by decide) rfl dX10_cutting_29 ?_
    refine J_aload_n rfl (i := 0) rfl dX10_cutting_30 ?_
    obtain ⟨m6, hc4, hw⟩ := hw
    refine J_callV (as := []) (k := 63) (st := []) cal_X10_layFewest cai_X10_layFewest gw_2029 ⟨by decide, by decide⟩ cnt_X10_layFewest sh_63 rfl rfl (Nat.le_of_ble_eq_true rfl) dX10_cutting_31 (Nat.zero_add _).symm (Nat.zero_add _).symm hc4 ?_
    refine J_aload_n rfl (i := 0) rfl dX10_cutting_34 ?_
    refine J_getr kls_10 (q := 63) (k := 37) sh_63 (by decide) rfl gw_1470 dX10_cutting_35 ?_
    refine J_iload_n rfl (i := 1) rfl dX10_cutting_38 ?_
    obtain ⟨j7, ej7, hj7, hw⟩ := hw
    refine J_iald sh_81 ej7 hj7 (by decide) dX10_cutting_39 ?_
    refine J_istore_n [(2, .int (m6 81 j7)), (1, .int v2), (0, .ref 63)] rfl (i := 2) (by decide) rfl dX10_cutting_40 ?_
    refine J_iload_n rfl (i := 2) rfl dX10_cutting_41 ?_
    refine J_istore_n [(3, .int (m6 81 j7)), (2, .int (m6 81 j7)), (1, .int v2), (0, .ref 63)] rfl (i := 3) (by decide) rfl dX10_cutting_42 ?_
    refine J_iconst (v := 0) (by decide) dX10_cutting_43 ?_
    refine J_istore [(4, .int 0), (3, .int (m6 81 j7)), (2, .int (m6 81 j7)), (1, .int v2), (0, .ref 63)] (i := 4) (by decide) rfl dX10_cutting_44 ?_
    exact J_sub [4, 3, 2, 1, 0] rfl hw
  · replace hw := hw.2 hb9
    refine J_aload_n rfl (i := 0) rfl dX10_cutting_12 ?_
    refine J_getr kls_10 (q := 63) (k := 38) sh_63 (by decide) rfl gw_1471 dX10_cutting_13 ?_
    refine J_iload_n rfl (i := 1) rfl dX10_cutting_16 ?_
    refine J_iconst (v := 0) (by decide) dX10_cutting_17 ?_
    obtain ⟨j8, ej8, hj8, hw⟩ := hw
    refine J_iast sh_82 ej8 hj8 (by decide) dX10_cutting_18 ?_
    refine J_iinc [(1, .int (x1 + 1)), (0, .ref 63)] (i := 1) (v := (x1 + 1)) rfl rfl (by decide) rfl dX10_cutting_19 ?_
    refine J_goto (tgt := 6) dX10_cutting_22 (by decide) ?_
    exact J_sub [1, 0] rfl hw
set_option maxRecDepth 20000 in
theorem bX10_cutting_46 {G : Gx} {mm : Nat → Nat → Int32} {lm : Nat → Int64} {x1 : Int32} {x2 : Int32} {x3 : Int32} {x4 : Int32} {o : Ou} {z : Wd} {a b : Nat} (hw : (((mm 63 8) ≤ x4) → o = .inl (some (.int x2)) ∧ z = (SH, mm, lm)) ∧ ((¬ (mm 63 8) ≤ x4) → ((1000000 ≤ x2) → o = .inl (some (.int x2)) ∧ z = (SH, mm, lm)) ∧ ((¬ 1000000 ≤ x2) → ∃ (v2 : Int32), Ct G M_X10_hangs [.ref 63, .int x4] (SH, mm, lm) false (.inl (some (.int v2))) (SH, mm, lm) false 0 0 ∧ ((¬ v2 = 0) → ∃ (v5 : Int32) (m6 : Nat → Nat → Int32), Ct G M_X10_choose [.ref 63, .int x4, .int (x1 &&& ((1 <<< (x4 &&& 31)) ^^^ (-1))), .int x3] (SH, mm, lm) false (.inl (some (.int v5))) (SH, m6, lm) false 0 0 ∧ J G M_X10_cutting 46 [(0, .ref 63), (1, .int (x1 &&& ((1 <<< (x4 &&& 31)) ^^^ (-1)))), (2, .int x2), (3, .int v5), (4, .int (x4 + 1))] [] (SH, m6, lm) false o z false a b) ∧ ((v2 = 0) → J G M_X10_cutting 46 [(0, .ref 63), (1, .int x1), (2, .int x2), (3, .int x3), (4, .int (x4 + 1))] [] (SH, mm, lm) false o z false a b)))) :
    J G M_X10_cutting 46 [(0, .ref 63), (1, .int x1), (2, .int x2), (3, .int x3), (4, .int x4)] [] (SH, mm, lm) false o z false a b := by
  refine J_iload (i := 4) rfl dX10_cutting_46 ?_
  refine J_aload_n rfl (i := 0) rfl dX10_cutting_48 ?_
  refine J_geti kls_10 (q := 63) (k := 8) sh_63 (by decide) rfl gw_1441 dX10_cutting_49 ?_
  refine J_icmp_ge (tgt := 98) dX10_cutting_52 (by decide) (fun hb9 => ?_) (fun hb9 => ?_)
  · replace hw := hw.1 hb9
    refine J_iload_n rfl (i := 2) rfl dX10_cutting_98 ?_
    exact J_fini (ty := .int) rfl rfl dX10_cutting_99 hw
  · replace hw := hw.2 hb9
    refine J_iload_n rfl (i := 2) rfl dX10_cutting_55 ?_
    refine J_ldcw gw_1763 dX10_cutting_56 ?_
    refine J_icmp_ge (tgt := 98) dX10_cutting_59 (by decide) (fun hb8 => ?_) (fun hb8 => ?_)
    · replace hw := hw.1 hb8
      refine J_iload_n rfl (i := 2) rfl dX10_cutting_98 ?_
      exact J_fini (ty := .int) rfl rfl dX10_cutting_99 hw
    · replace hw := hw.2 hb8
      refine J_aload_n rfl (i := 0) rfl dX10_cutting_62 ?_
      refine J_iload (i := 4) rfl dX10_cutting_63 ?_
      obtain ⟨v2, hc1, hw⟩ := hw
      refine J_callV (as := [.int x4]) (k := 63) (st := []) cal_X10_hangs cai_X10_hangs gw_1684 ⟨by decide, by decide⟩ cnt_X10_hangs sh_63 rfl rfl (Nat.le_of_ble_eq_true rfl) dX10_cutting_65 (Nat.zero_add _).symm (Nat.zero_add _).symm hc1 ?_
      refine J_if_ne (tgt := 74) dX10_cutting_68 (by decide) (fun hb7 => ?_) (fun hb7 => ?_)
      · replace hw := hw.1 hb7
        refine J_iload_n rfl (i := 1) rfl dX10_cutting_74 ?_
        refine J_iconst (v := 1) (by decide) dX10_cutting_75 ?_
        refine J_iload (i := 4) rfl dX10_cutting_76 ?_
        refine J_ishl dX10_cutting_78 ?_
        refine J_iconst (v := (-1)) (by decide) dX10_cutting_79 ?_
        refine J_ixor dX10_cutting_80 ?_
        refine J_iand dX10_cutting_81 ?_
        refine J_istore_n [(1, .int (x1 &&& ((1 <<< (x4 &&& 31)) ^^^ (-1)))), (0, .ref 63), (2, .int x2), (3, .int x3), (4, .int x4)] rfl (i := 1) (by decide) rfl dX10_cutting_82 ?_
        refine J_aload_n rfl (i := 0) rfl dX10_cutting_83 ?_
        refine J_iload (i := 4) rfl dX10_cutting_84 ?_
        refine J_iload_n rfl (i := 1) rfl dX10_cutting_86 ?_
        refine J_iload_n rfl (i := 3) rfl dX10_cutting_87 ?_
        obtain ⟨v5, m6, hc4, hw⟩ := hw
        refine J_callV (as := [.int x4, .int (x1 &&& ((1 <<< (x4 &&& 31)) ^^^ (-1))), .int x3]) (k := 63) (st := []) cal_X10_choose cai_X10_choose gw_2037 ⟨by decide, by decide⟩ cnt_X10_choose sh_63 rfl rfl (Nat.le_of_ble_eq_true rfl) dX10_cutting_88 (Nat.zero_add _).symm (Nat.zero_add _).symm hc4 ?_
        refine J_istore_n [(3, .int v5), (1, .int (x1 &&& ((1 <<< (x4 &&& 31)) ^^^ (-1)))), (0, .ref 63), (2, .int x2), (4, .int x4)] rfl (i := 3) (by decide) rfl dX10_cutting_91 ?_
        refine J_iinc [(4, .int (x4 + 1)), (3, .int v5), (1, .int (x1 &&& ((1 <<< (x4 &&& 31)) ^^^ (-1)))), (0, .ref 63), (2, .int x2)] (i := 4) (v := (x4 + 1)) rfl rfl (by decide) rfl dX10_cutting_92 ?_
        refine J_goto (tgt := 46) dX10_cutting_95 (by decide) ?_
        exact J_sub [3, 2, 4, 1, 0] rfl hw
      · replace hw := hw.2 hb7
        refine J_goto (tgt := 92) dX10_cutting_71 (by decide) ?_
        refine J_iinc [(4, .int (x4 + 1)), (0, .ref 63), (1, .int x1), (2, .int x2), (3, .int x3)] (i := 4) (v := (x4 + 1)) rfl rfl (by decide) rfl dX10_cutting_92 ?_
        refine J_goto (tgt := 46) dX10_cutting_95 (by decide) ?_
        exact J_sub [1, 2, 3, 4, 0] rfl hw
theorem dX10_choose_0 : decode cX10_choose 0 = .ok (.aload_n 0, 1) := by decide +kernel
theorem dX10_choose_1 : decode cX10_choose 1 = .ok (.iload_n 1, 1) := by decide +kernel
theorem dX10_choose_2 : decode cX10_choose 2 = .ok (.invokevirtual 379, 3) := by decide +kernel
theorem dX10_choose_5 : decode cX10_choose 5 = .ok (.istore 4, 2) := by decide +kernel
theorem dX10_choose_7 : decode cX10_choose 7 = .ok (.iconst 0, 1) := by decide +kernel
theorem dX10_choose_8 : decode cX10_choose 8 = .ok (.istore 5, 2) := by decide +kernel
theorem dX10_choose_10 : decode cX10_choose 10 = .ok (.iload 5, 2) := by decide +kernel
theorem dX10_choose_12 : decode cX10_choose 12 = .ok (.aload_n 0, 1) := by decide +kernel
theorem dX10_choose_13 : decode cX10_choose 13 = .ok (.getfield 215, 3) := by decide +kernel
theorem dX10_choose_16 : decode cX10_choose 16 = .ok (.if_icmp .ge 101, 3) := by decide +kernel
theorem dX10_choose_19 : decode cX10_choose 19 = .ok (.aload_n 0, 1) := by decide +kernel
theorem dX10_choose_20 : decode cX10_choose 20 = .ok (.getfield 68, 3) := by decide +kernel
theorem dX10_choose_23 : decode cX10_choose 23 = .ok (.iload 5, 2) := by decide +kernel
theorem dX10_choose_25 : decode cX10_choose 25 = .ok (.iaload, 1) := by decide +kernel
theorem dX10_choose_26 : decode cX10_choose 26 = .ok (.iload 4, 2) := by decide +kernel
theorem dX10_choose_28 : decode cX10_choose 28 = .ok (.iadd, 1) := by decide +kernel
theorem dX10_choose_29 : decode cX10_choose 29 = .ok (.aload_n 0, 1) := by decide +kernel
theorem dX10_choose_30 : decode cX10_choose 30 = .ok (.getfield 37, 3) := by decide +kernel
theorem dX10_choose_33 : decode cX10_choose 33 = .ok (.iload 5, 2) := by decide +kernel
theorem dX10_choose_35 : decode cX10_choose 35 = .ok (.iaload, 1) := by decide +kernel
theorem dX10_choose_36 : decode cX10_choose 36 = .ok (.if_icmp .le 6, 3) := by decide +kernel
theorem dX10_choose_39 : decode cX10_choose 39 = .ok (.goto 72, 3) := by decide +kernel
theorem dX10_choose_42 : decode cX10_choose 42 = .ok (.iload_n 3, 1) := by decide +kernel
theorem dX10_choose_43 : decode cX10_choose 43 = .ok (.aload_n 0, 1) := by decide +kernel
theorem dX10_choose_44 : decode cX10_choose 44 = .ok (.getfield 68, 3) := by decide +kernel
theorem dX10_choose_47 : decode cX10_choose 47 = .ok (.iload 5, 2) := by decide +kernel
theorem dX10_choose_49 : decode cX10_choose 49 = .ok (.iaload, 1) := by decide +kernel
theorem dX10_choose_50 : decode cX10_choose 50 = .ok (.ifCond .ne 7, 3) := by decide +kernel
theorem dX10_choose_53 : decode cX10_choose 53 = .ok (.iconst 1, 1) := by decide +kernel
theorem dX10_choose_54 : decode cX10_choose 54 = .ok (.goto 4, 3) := by decide +kernel
theorem dX10_choose_57 : decode cX10_choose 57 = .ok (.iconst 0, 1) := by decide +kernel
theorem dX10_choose_58 : decode cX10_choose 58 = .ok (.isub, 1) := by decide +kernel
theorem dX10_choose_59 : decode cX10_choose 59 = .ok (.istore 6, 2) := by decide +kernel
theorem dX10_choose_61 : decode cX10_choose 61 = .ok (.aload_n 0, 1) := by decide +kernel
theorem dX10_choose_62 : decode cX10_choose 62 = .ok (.getfield 68, 3) := by decide +kernel
theorem dX10_choose_65 : decode cX10_choose 65 = .ok (.iload 5, 2) := by decide +kernel
theorem dX10_choose_67 : decode cX10_choose 67 = .ok (.dup2, 1) := by decide +kernel
theorem dX10_choose_68 : decode cX10_choose 68 = .ok (.iaload, 1) := by decide +kernel
theorem dX10_choose_69 : decode cX10_choose 69 = .ok (.iload 4, 2) := by decide +kernel
theorem dX10_choose_71 : decode cX10_choose 71 = .ok (.iadd, 1) := by decide +kernel
theorem dX10_choose_72 : decode cX10_choose 72 = .ok (.iastore, 1) := by decide +kernel
theorem dX10_choose_73 : decode cX10_choose 73 = .ok (.aload_n 0, 1) := by decide +kernel
theorem dX10_choose_74 : decode cX10_choose 74 = .ok (.invokevirtual 394, 3) := by decide +kernel
theorem dX10_choose_77 : decode cX10_choose 77 = .ok (.aload_n 0, 1) := by decide +kernel
theorem dX10_choose_78 : decode cX10_choose 78 = .ok (.getfield 65, 3) := by decide +kernel
theorem dX10_choose_81 : decode cX10_choose 81 = .ok (.iload_n 2, 1) := by decide +kernel
theorem dX10_choose_82 : decode cX10_choose 82 = .ok (.iaload, 1) := by decide +kernel
theorem dX10_choose_83 : decode cX10_choose 83 = .ok (.iload 6, 2) := by decide +kernel
theorem dX10_choose_85 : decode cX10_choose 85 = .ok (.if_icmp .gt 14, 3) := by decide +kernel
theorem dX10_choose_88 : decode cX10_choose 88 = .ok (.aload_n 0, 1) := by decide +kernel
theorem dX10_choose_89 : decode cX10_choose 89 = .ok (.getfield 71, 3) := by decide +kernel
theorem dX10_choose_92 : decode cX10_choose 92 = .ok (.iload_n 1, 1) := by decide +kernel
theorem dX10_choose_93 : decode cX10_choose 93 = .ok (.iload 5, 2) := by decide +kernel
theorem dX10_choose_95 : decode cX10_choose 95 = .ok (.iastore, 1) := by decide +kernel
theorem dX10_choose_96 : decode cX10_choose 96 = .ok (.iload 6, 2) := by decide +kernel
theorem dX10_choose_98 : decode cX10_choose 98 = .ok (.ireturn, 1) := by decide +kernel
theorem dX10_choose_99 : decode cX10_choose 99 = .ok (.aload_n 0, 1) := by decide +kernel
theorem dX10_choose_100 : decode cX10_choose 100 = .ok (.getfield 68, 3) := by decide +kernel
theorem dX10_choose_103 : decode cX10_choose 103 = .ok (.iload 5, 2) := by decide +kernel
theorem dX10_choose_105 : decode cX10_choose 105 = .ok (.dup2, 1) := by decide +kernel
theorem dX10_choose_106 : decode cX10_choose 106 = .ok (.iaload, 1) := by decide +kernel
theorem dX10_choose_107 : decode cX10_choose 107 = .ok (.iload 4, 2) := by decide +kernel
theorem dX10_choose_109 : decode cX10_choose 109 = .ok (.isub, 1) := by decide +kernel
theorem dX10_choose_110 : decode cX10_choose 110 = .ok (.iastore, 1) := by decide +kernel
theorem dX10_choose_111 : decode cX10_choose 111 = .ok (.iinc 5 1, 3) := by decide +kernel
theorem dX10_choose_114 : decode cX10_choose 114 = .ok (.goto (-104), 3) := by decide +kernel
theorem dX10_choose_117 : decode cX10_choose 117 = .ok (.iload_n 3, 1) := by decide +kernel
theorem dX10_choose_118 : decode cX10_choose 118 = .ok (.ireturn, 1) := by decide +kernel
set_option maxRecDepth 20000 in
theorem bX10_choose_0 {G : Gx} {mm : Nat → Nat → Int32} {lm : Nat → Int64} {x1 : Int32} {x2 : Int32} {x3 : Int32} {o : Ou} {z : Wd} {a b : Nat} (hw : ∃ (v2 : Int32), Ct G M_X10_lengthOf [.ref 63, .int x1] (SH, mm, lm) false (.inl (some (.int v2))) (SH, mm, lm) false 0 0 ∧ J G M_X10_choose 10 [(0, .ref 63), (1, .int x1), (2, .int x2), (3, .int x3), (4, .int v2), (5, .int 0)] [] (SH, mm, lm) false o z false a b) :
    J G M_X10_choose 0 [(0, .ref 63), (1, .int x1), (2, .int x2), (3, .int x3)] [] (SH, mm, lm) false o z false a b := by
  refine J_aload_n rfl (i := 0) rfl dX10_choose_0 ?_
  refine J_iload_n rfl (i := 1) rfl dX10_choose_1 ?_
  obtain ⟨v2, hc1, hw⟩ := hw
  refine J_callV (as := [.int x1]) (k := 63) (st := []) cal_X10_lengthOf cai_X10_lengthOf gw_2005 ⟨by decide, by decide⟩ cnt_X10_lengthOf sh_63 rfl rfl (Nat.le_of_ble_eq_true rfl) dX10_choose_2 (Nat.zero_add _).symm (Nat.zero_add _).symm hc1 ?_
  refine J_istore [(4, .int v2), (0, .ref 63), (1, .int x1), (2, .int x2), (3, .int x3)] (i := 4) (by decide) rfl dX10_choose_5 ?_
  refine J_iconst (v := 0) (by decide) dX10_choose_7 ?_
  refine J_istore [(5, .int 0), (4, .int v2), (0, .ref 63), (1, .int x1), (2, .int x2), (3, .int x3)] (i := 5) (by decide) rfl dX10_choose_8 ?_
  exact J_sub [2, 3, 4, 5, 1, 0] rfl hw
set_option maxRecDepth 20000 in
theorem bX10_choose_10 {G : Gx} {mm : Nat → Nat → Int32} {lm : Nat → Int64} {x1 : Int32} {x2 : Int32} {x3 : Int32} {x4 : Int32} {x5 : Int32} {o : Ou} {z : Wd} {a b : Nat} (hw : (((mm 63 15) ≤ x5) → o = .inl (some (.int x3)) ∧ z = (SH, mm, lm)) ∧ ((¬ (mm 63 15) ≤ x5) → ∃ j1 : Nat, x5 = nI j1 ∧ j1 < 8 ∧ ∃ j2 : Nat, x5 = nI j2 ∧ j2 < 8 ∧ ((((mm 82 j1) + x4) ≤ (mm 73 j2)) → ∃ j3 : Nat, x5 = nI j3 ∧ j3 < 8 ∧ ((¬ (mm 82 j3) = 0) → ∃ j4 : Nat, x5 = nI j4 ∧ j4 < 8 ∧ ∃ j5 : Nat, x5 = nI j5 ∧ j5 < 8 ∧ ∃ (m8 : Nat → Nat → Int32), Ct G M_X10_layFewest [.ref 63] (SH, (mset mm 82 j5 ((mm 82 j4) + x4)), lm) false (.inl none) (SH, m8, lm) false 0 0 ∧ ∃ j9 : Nat, x2 = nI j9 ∧ j9 < 2304 ∧ (((x3 - 0) < (m8 81 j9)) → ∃ j10 : Nat, x5 = nI j10 ∧ j10 < 8 ∧ ∃ j11 : Nat, x5 = nI j11 ∧ j11 < 8 ∧ J G M_X10_choose 10 [(0, .ref 63), (1, .int x1), (2, .int x2), (3, .int x3), (4, .int x4), (5, .int (x5 + 1))] [] (SH, (mset m8 82 j11 ((m8 82 j10) - x4)), lm) false o z false a b) ∧ ((¬ (x3 - 0) < (m8 81 j9)) → ∃ j12 : Nat, x1 = nI j12 ∧ j12 < 8 ∧ o = .inl (some (.int (x3 - 0))) ∧ z = (SH, (mset m8 83 j12 x5), lm))) ∧ (((mm 82 j3) = 0) → ∃ j14 : Nat, x5 = nI j14 ∧ j14 < 8 ∧ ∃ j15 : Nat, x5 = nI j15 ∧ j15 < 8 ∧ ∃ (m18 : Nat → Nat → Int32), Ct G M_X10_layFewest [.ref 63] (SH, (mset mm 82 j15 ((mm 82 j14) + x4)), lm) false (.inl none) (SH, m18, lm) false 0 0 ∧ ∃ j19 : Nat, x2 = nI j19 ∧ j19 < 2304 ∧ (((x3 - 1) < (m18 81 j19)) → ∃ j20 : Nat, x5 = nI j20 ∧ j20 < 8 ∧ ∃ j21 : Nat, x5 = nI j21 ∧ j21 < 8 ∧ J G M_X10_choose 10 [(0, .ref 63), (1, .int x1), (2, .int x2), (3, .int x3), (4, .int x4), (5, .int (x5 + 1))] [] (SH, (mset m18 82 j21 ((m18 82 j20) - x4)), lm) false o z false a b) ∧ ((¬ (x3 - 1) < (m18 81 j19)) → ∃ j22 : Nat, x1 = nI j22 ∧ j22 < 8 ∧ o = .inl (some (.int (x3 - 1))) ∧ z = (SH, (mset m18 83 j22 x5), lm)))) ∧ ((¬ ((mm 82 j1) + x4) ≤ (mm 73 j2)) → J G M_X10_choose 10 [(0, .ref 63), (1, .int x1), (2, .int x2), (3, .int x3), (4, .int x4), (5, .int (x5 + 1))] [] (SH, mm, lm) false o z false a b))) :
    J G M_X10_choose 10 [(0, .ref 63), (1, .int x1), (2, .int x2), (3, .int x3), (4, .int x4), (5, .int x5)] [] (SH, mm, lm) false o z false a b := by
  refine J_iload (i := 5) rfl dX10_choose_10 ?_
  refine J_aload_n rfl (i := 0) rfl dX10_choose_12 ?_
  refine J_geti kls_10 (q := 63) (k := 15) sh_63 (by decide) rfl gw_1448 dX10_choose_13 ?_
  refine J_icmp_ge (tgt := 117) dX10_choose_16 (by decide) (fun hb26 => ?_) (fun hb26 => ?_)
  · replace hw := hw.1 hb26
    refine J_iload_n rfl (i := 3) rfl dX10_choose_117 ?_
    exact J_fini (ty := .int) rfl rfl dX10_choose_118 hw
  · replace hw := hw.2 hb26
    refine J_aload_n rfl (i := 0) rfl dX10_choose_19 ?_
    refine J_getr kls_10 (q := 63) (k := 38) sh_63 (by decide) rfl gw_1471 dX10_choose_20 ?_
    refine J_iload (i := 5) rfl dX10_choose_23 ?_
    obtain ⟨j1, ej1, hj1, hw⟩ := hw
    refine J_iald sh_82 ej1 hj1 (by decide) dX10_choose_25 ?_
    refine J_iload (i := 4) rfl dX10_choose_26 ?_
    refine J_iadd dX10_choose_28 ?_
    refine J_aload_n rfl (i := 0) rfl dX10_choose_29 ?_
    refine J_getr kls_10 (q := 63) (k := 16) sh_63 (by decide) rfl gw_1449 dX10_choose_30 ?_
    refine J_iload (i := 5) rfl dX10_choose_33 ?_
    obtain ⟨j2, ej2, hj2, hw⟩ := hw
    refine J_iald sh_73 ej2 hj2 (by decide) dX10_choose_35 ?_
    refine J_icmp_le (tgt := 42) dX10_choose_36 (by decide) (fun hb25 => ?_) (fun hb25 => ?_)
    · replace hw := hw.1 hb25
      refine J_iload_n rfl (i := 3) rfl dX10_choose_42 ?_
      refine J_aload_n rfl (i := 0) rfl dX10_choose_43 ?_
      refine J_getr kls_10 (q := 63) (k := 38) sh_63 (by decide) rfl gw_1471 dX10_choose_44 ?_
      refine J_iload (i := 5) rfl dX10_choose_47 ?_
      obtain ⟨j3, ej3, hj3, hw⟩ := hw
      refine J_iald sh_82 ej3 hj3 (by decide) dX10_choose_49 ?_
      refine J_if_ne (tgt := 57) dX10_choose_50 (by decide) (fun hb24 => ?_) (fun hb24 => ?_)
      · replace hw := hw.1 hb24
        refine J_iconst (v := 0) (by decide) dX10_choose_57 ?_
        refine J_isub dX10_choose_58 ?_
        refine J_istore [(6, .int (x3 - 0)), (0, .ref 63), (1, .int x1), (2, .int x2), (3, .int x3), (4, .int x4), (5, .int x5)] (i := 6) (by decide) rfl dX10_choose_59 ?_
        refine J_aload_n rfl (i := 0) rfl dX10_choose_61 ?_
        refine J_getr kls_10 (q := 63) (k := 38) sh_63 (by decide) rfl gw_1471 dX10_choose_62 ?_
        refine J_iload (i := 5) rfl dX10_choose_65 ?_
        refine J_dup2 dX10_choose_67 ?_
        obtain ⟨j4, ej4, hj4, hw⟩ := hw
        refine J_iald sh_82 ej4 hj4 (by decide) dX10_choose_68 ?_
        refine J_iload (i := 4) rfl dX10_choose_69 ?_
        refine J_iadd dX10_choose_71 ?_
        obtain ⟨j5, ej5, hj5, hw⟩ := hw
        refine J_iast sh_82 ej5 hj5 (by decide) dX10_choose_72 ?_
        refine J_aload_n rfl (i := 0) rfl dX10_choose_73 ?_
        obtain ⟨m8, hc6, hw⟩ := hw
        refine J_callV (as := []) (k := 63) (st := []) cal_X10_layFewest cai_X10_layFewest gw_2029 ⟨by decide, by decide⟩ cnt_X10_layFewest sh_63 rfl rfl (Nat.le_of_ble_eq_true rfl) dX10_choose_74 (Nat.zero_add _).symm (Nat.zero_add _).symm hc6 ?_
        refine J_aload_n rfl (i := 0) rfl dX10_choose_77 ?_
        refine J_getr kls_10 (q := 63) (k := 37) sh_63 (by decide) rfl gw_1470 dX10_choose_78 ?_
        refine J_iload_n rfl (i := 2) rfl dX10_choose_81 ?_
        obtain ⟨j9, ej9, hj9, hw⟩ := hw
        refine J_iald sh_81 ej9 hj9 (by decide) dX10_choose_82 ?_
        refine J_iload (i := 6) rfl dX10_choose_83 ?_
        refine J_icmp_gt (tgt := 99) dX10_choose_85 (by decide) (fun hb13 => ?_) (fun hb13 => ?_)
        · replace hw := hw.1 hb13
          refine J_aload_n rfl (i := 0) rfl dX10_choose_99 ?_
          refine J_getr kls_10 (q := 63) (k := 38) sh_63 (by decide) rfl gw_1471 dX10_choose_100 ?_
          refine J_iload (i := 5) rfl dX10_choose_103 ?_
          refine J_dup2 dX10_choose_105 ?_
          obtain ⟨j10, ej10, hj10, hw⟩ := hw
          refine J_iald sh_82 ej10 hj10 (by decide) dX10_choose_106 ?_
          refine J_iload (i := 4) rfl dX10_choose_107 ?_
          refine J_isub dX10_choose_109 ?_
          obtain ⟨j11, ej11, hj11, hw⟩ := hw
          refine J_iast sh_82 ej11 hj11 (by decide) dX10_choose_110 ?_
          refine J_iinc [(5, .int (x5 + 1)), (6, .int (x3 - 0)), (0, .ref 63), (1, .int x1), (2, .int x2), (3, .int x3), (4, .int x4)] (i := 5) (v := (x5 + 1)) rfl rfl (by decide) rfl dX10_choose_111 ?_
          refine J_goto (tgt := 10) dX10_choose_114 (by decide) ?_
          exact J_sub [2, 3, 4, 5, 6, 0] rfl hw
        · replace hw := hw.2 hb13
          refine J_aload_n rfl (i := 0) rfl dX10_choose_88 ?_
          refine J_getr kls_10 (q := 63) (k := 39) sh_63 (by decide) rfl gw_1472 dX10_choose_89 ?_
          refine J_iload_n rfl (i := 1) rfl dX10_choose_92 ?_
          refine J_iload (i := 5) rfl dX10_choose_93 ?_
          obtain ⟨j12, ej12, hj12, hw⟩ := hw
          refine J_iast sh_83 ej12 hj12 (by decide) dX10_choose_95 ?_
          refine J_iload (i := 6) rfl dX10_choose_96 ?_
          exact J_fini (ty := .int) rfl rfl dX10_choose_98 hw
      · replace hw := hw.2 hb24
        refine J_iconst (v := 1) (by decide) dX10_choose_53 ?_
        refine J_goto (tgt := 58) dX10_choose_54 (by decide) ?_
        refine J_isub dX10_choose_58 ?_
        refine J_istore [(6, .int (x3 - 1)), (0, .ref 63), (1, .int x1), (2, .int x2), (3, .int x3), (4, .int x4), (5, .int x5)] (i := 6) (by decide) rfl dX10_choose_59 ?_
        refine J_aload_n rfl (i := 0) rfl dX10_choose_61 ?_
        refine J_getr kls_10 (q := 63) (k := 38) sh_63 (by decide) rfl gw_1471 dX10_choose_62 ?_
        refine J_iload (i := 5) rfl dX10_choose_65 ?_
        refine J_dup2 dX10_choose_67 ?_
        obtain ⟨j14, ej14, hj14, hw⟩ := hw
        refine J_iald sh_82 ej14 hj14 (by decide) dX10_choose_68 ?_
        refine J_iload (i := 4) rfl dX10_choose_69 ?_
        refine J_iadd dX10_choose_71 ?_
        obtain ⟨j15, ej15, hj15, hw⟩ := hw
        refine J_iast sh_82 ej15 hj15 (by decide) dX10_choose_72 ?_
        refine J_aload_n rfl (i := 0) rfl dX10_choose_73 ?_
        obtain ⟨m18, hc16, hw⟩ := hw
        refine J_callV (as := []) (k := 63) (st := []) cal_X10_layFewest cai_X10_layFewest gw_2029 ⟨by decide, by decide⟩ cnt_X10_layFewest sh_63 rfl rfl (Nat.le_of_ble_eq_true rfl) dX10_choose_74 (Nat.zero_add _).symm (Nat.zero_add _).symm hc16 ?_
        refine J_aload_n rfl (i := 0) rfl dX10_choose_77 ?_
        refine J_getr kls_10 (q := 63) (k := 37) sh_63 (by decide) rfl gw_1470 dX10_choose_78 ?_
        refine J_iload_n rfl (i := 2) rfl dX10_choose_81 ?_
        obtain ⟨j19, ej19, hj19, hw⟩ := hw
        refine J_iald sh_81 ej19 hj19 (by decide) dX10_choose_82 ?_
        refine J_iload (i := 6) rfl dX10_choose_83 ?_
        refine J_icmp_gt (tgt := 99) dX10_choose_85 (by decide) (fun hb23 => ?_) (fun hb23 => ?_)
        · replace hw := hw.1 hb23
          refine J_aload_n rfl (i := 0) rfl dX10_choose_99 ?_
          refine J_getr kls_10 (q := 63) (k := 38) sh_63 (by decide) rfl gw_1471 dX10_choose_100 ?_
          refine J_iload (i := 5) rfl dX10_choose_103 ?_
          refine J_dup2 dX10_choose_105 ?_
          obtain ⟨j20, ej20, hj20, hw⟩ := hw
          refine J_iald sh_82 ej20 hj20 (by decide) dX10_choose_106 ?_
          refine J_iload (i := 4) rfl dX10_choose_107 ?_
          refine J_isub dX10_choose_109 ?_
          obtain ⟨j21, ej21, hj21, hw⟩ := hw
          refine J_iast sh_82 ej21 hj21 (by decide) dX10_choose_110 ?_
          refine J_iinc [(5, .int (x5 + 1)), (6, .int (x3 - 1)), (0, .ref 63), (1, .int x1), (2, .int x2), (3, .int x3), (4, .int x4)] (i := 5) (v := (x5 + 1)) rfl rfl (by decide) rfl dX10_choose_111 ?_
          refine J_goto (tgt := 10) dX10_choose_114 (by decide) ?_
          exact J_sub [2, 3, 4, 5, 6, 0] rfl hw
        · replace hw := hw.2 hb23
          refine J_aload_n rfl (i := 0) rfl dX10_choose_88 ?_
          refine J_getr kls_10 (q := 63) (k := 39) sh_63 (by decide) rfl gw_1472 dX10_choose_89 ?_
          refine J_iload_n rfl (i := 1) rfl dX10_choose_92 ?_
          refine J_iload (i := 5) rfl dX10_choose_93 ?_
          obtain ⟨j22, ej22, hj22, hw⟩ := hw
          refine J_iast sh_83 ej22 hj22 (by decide) dX10_choose_95 ?_
          refine J_iload (i := 6) rfl dX10_choose_96 ?_
          exact J_fini (ty := .int) rfl rfl dX10_choose_98 hw
    · replace hw := hw.2 hb25
      refine J_goto (tgt := 111) dX10_choose_39 (by decide) ?_
      refine J_iinc [(5, .int (x5 + 1)), (0, .ref 63), (1, .int x1), (2, .int x2), (3, .int x3), (4, .int x4)] (i := 5) (v := (x5 + 1)) rfl rfl (by decide) rfl dX10_choose_111 ?_
      refine J_goto (tgt := 10) dX10_choose_114 (by decide) ?_
      exact J_sub [1, 2, 3, 4, 5, 0] rfl hw
theorem dX10_ropeLength_0 : decode cX10_ropeLength 0 = .ok (.aload_n 0, 1) := by decide +kernel
theorem dX10_ropeLength_1 : decode cX10_ropeLength 1 = .ok (.aload_n 0, 1) := by decide +kernel
theorem dX10_ropeLength_2 : decode cX10_ropeLength 2 = .ok (.iload_n 1, 1) := by decide +kernel
theorem dX10_ropeLength_3 : decode cX10_ropeLength 3 = .ok (.invokevirtual 235, 3) := by decide +kernel
theorem dX10_ropeLength_6 : decode cX10_ropeLength 6 = .ok (.invokevirtual 221, 3) := by decide +kernel
theorem dX10_ropeLength_9 : decode cX10_ropeLength 9 = .ok (.ifCond .eq 5, 3) := by decide +kernel
theorem dX10_ropeLength_12 : decode cX10_ropeLength 12 = .ok (.iconst 0, 1) := by decide +kernel
theorem dX10_ropeLength_13 : decode cX10_ropeLength 13 = .ok (.ireturn, 1) := by decide +kernel
theorem dX10_ropeLength_14 : decode cX10_ropeLength 14 = .ok (.aload_n 0, 1) := by decide +kernel
theorem dX10_ropeLength_15 : decode cX10_ropeLength 15 = .ok (.iload_n 1, 1) := by decide +kernel
theorem dX10_ropeLength_16 : decode cX10_ropeLength 16 = .ok (.invokevirtual 244, 3) := by decide +kernel
theorem dX10_ropeLength_19 : decode cX10_ropeLength 19 = .ok (.ifCond .eq 11, 3) := by decide +kernel
theorem dX10_ropeLength_22 : decode cX10_ropeLength 22 = .ok (.aload_n 0, 1) := by decide +kernel
theorem dX10_ropeLength_23 : decode cX10_ropeLength 23 = .ok (.iload_n 1, 1) := by decide +kernel
theorem dX10_ropeLength_24 : decode cX10_ropeLength 24 = .ok (.invokevirtual 379, 3) := by decide +kernel
theorem dX10_ropeLength_27 : decode cX10_ropeLength 27 = .ok (.goto 5, 3) := by decide +kernel
theorem dX10_ropeLength_30 : decode cX10_ropeLength 30 = .ok (.bipush (-2), 2) := by decide +kernel
theorem dX10_ropeLength_32 : decode cX10_ropeLength 32 = .ok (.ireturn, 1) := by decide +kernel
set_option maxRecDepth 20000 in
theorem bX10_ropeLength_0 {G : Gx} {mm : Nat → Nat → Int32} {lm : Nat → Int64} {x1 : Int32} {o : Ou} {z : Wd} {a b : Nat} (hw : ∃ (v2 : Int32), Ct G M_X10_isBell [.ref 63, .int x1] (SH, mm, lm) false (.inl (some (.int v2))) (SH, mm, lm) false 0 0 ∧ ∃ (v5 : Int32) (m6 : Nat → Nat → Int32), Ct G M_X10_isWrong [.ref 63, .int v2] (SH, mm, lm) false (.inl (some (.int v5))) (SH, m6, lm) false 0 0 ∧ ((v5 = 0) → J G M_X10_ropeLength 14 [(0, .ref 63), (1, .int x1)] [] (SH, m6, lm) false o z false a b) ∧ ((¬ v5 = 0) → o = .inl (some (.int 0)) ∧ z = (SH, m6, lm))) :
    J G M_X10_ropeLength 0 [(0, .ref 63), (1, .int x1)] [] (SH, mm, lm) false o z false a b := by
  refine J_aload_n rfl (i := 0) rfl dX10_ropeLength_0 ?_
  refine J_aload_n rfl (i := 0) rfl dX10_ropeLength_1 ?_
  refine J_iload_n rfl (i := 1) rfl dX10_ropeLength_2 ?_
  obtain ⟨v2, hc1, hw⟩ := hw
  refine J_callV (as := [.int x1]) (k := 63) (st := [.ref 63]) cal_X10_isBell cai_X10_isBell gw_1671 ⟨by decide, by decide⟩ cnt_X10_isBell sh_63 rfl rfl (Nat.le_of_ble_eq_true rfl) dX10_ropeLength_3 (Nat.zero_add _).symm (Nat.zero_add _).symm hc1 ?_
  obtain ⟨v5, m6, hc4, hw⟩ := hw
  refine J_callV (as := [.int v2]) (k := 63) (st := []) cal_X10_isWrong cai_X10_isWrong gw_1663 ⟨by decide, by decide⟩ cnt_X10_isWrong sh_63 rfl rfl (Nat.le_of_ble_eq_true rfl) dX10_ropeLength_6 (Nat.zero_add _).symm (Nat.zero_add _).symm hc4 ?_
  refine J_if_eq (tgt := 14) dX10_ropeLength_9 (by decide) (fun hb7 => ?_) (fun hb7 => ?_)
  · replace hw := hw.1 hb7
    exact hw
  · replace hw := hw.2 hb7
    refine J_iconst (v := 0) (by decide) dX10_ropeLength_12 ?_
    exact J_fini (ty := .int) rfl rfl dX10_ropeLength_13 hw
set_option maxRecDepth 20000 in
theorem bX10_ropeLength_14 {G : Gx} {mm : Nat → Nat → Int32} {lm : Nat → Int64} {x1 : Int32} {o : Ou} {z : Wd} {a b : Nat} (hw : ∃ (v2 : Int32), Ct G M_X10_hangs [.ref 63, .int x1] (SH, mm, lm) false (.inl (some (.int v2))) (SH, mm, lm) false 0 0 ∧ ((v2 = 0) → o = .inl (some (.int (-2))) ∧ z = (SH, mm, lm)) ∧ ((¬ v2 = 0) → ∃ (v5 : Int32), Ct G M_X10_lengthOf [.ref 63, .int x1] (SH, mm, lm) false (.inl (some (.int v5))) (SH, mm, lm) false 0 0 ∧ o = .inl (some (.int v5)) ∧ z = (SH, mm, lm))) :
    J G M_X10_ropeLength 14 [(0, .ref 63), (1, .int x1)] [] (SH, mm, lm) false o z false a b := by
  refine J_aload_n rfl (i := 0) rfl dX10_ropeLength_14 ?_
  refine J_iload_n rfl (i := 1) rfl dX10_ropeLength_15 ?_
  obtain ⟨v2, hc1, hw⟩ := hw
  refine J_callV (as := [.int x1]) (k := 63) (st := []) cal_X10_hangs cai_X10_hangs gw_1684 ⟨by decide, by decide⟩ cnt_X10_hangs sh_63 rfl rfl (Nat.le_of_ble_eq_true rfl) dX10_ropeLength_16 (Nat.zero_add _).symm (Nat.zero_add _).symm hc1 ?_
  refine J_if_eq (tgt := 30) dX10_ropeLength_19 (by decide) (fun hb7 => ?_) (fun hb7 => ?_)
  · replace hw := hw.1 hb7
    refine J_bipush (v := (-2)) (by decide) dX10_ropeLength_30 ?_
    exact J_fini (ty := .int) rfl rfl dX10_ropeLength_32 hw
  · replace hw := hw.2 hb7
    refine J_aload_n rfl (i := 0) rfl dX10_ropeLength_22 ?_
    refine J_iload_n rfl (i := 1) rfl dX10_ropeLength_23 ?_
    obtain ⟨v5, hc4, hw⟩ := hw
    refine J_callV (as := [.int x1]) (k := 63) (st := []) cal_X10_lengthOf cai_X10_lengthOf gw_2005 ⟨by decide, by decide⟩ cnt_X10_lengthOf sh_63 rfl rfl (Nat.le_of_ble_eq_true rfl) dX10_ropeLength_24 (Nat.zero_add _).symm (Nat.zero_add _).symm hc4 ?_
    refine J_goto (tgt := 32) dX10_ropeLength_27 (by decide) ?_
    exact J_fini (ty := .int) rfl rfl dX10_ropeLength_32 hw
theorem dX10_fewestPieces_0 : decode cX10_fewestPieces 0 = .ok (.aload_n 0, 1) := by decide +kernel
theorem dX10_fewestPieces_1 : decode cX10_fewestPieces 1 = .ok (.iconst 1, 1) := by decide +kernel
theorem dX10_fewestPieces_2 : decode cX10_fewestPieces 2 = .ok (.invokevirtual 221, 3) := by decide +kernel
theorem dX10_fewestPieces_5 : decode cX10_fewestPieces 5 = .ok (.ifCond .eq 5, 3) := by decide +kernel
theorem dX10_fewestPieces_8 : decode cX10_fewestPieces 8 = .ok (.iconst 0, 1) := by decide +kernel
theorem dX10_fewestPieces_9 : decode cX10_fewestPieces 9 = .ok (.ireturn, 1) := by decide +kernel
theorem dX10_fewestPieces_10 : decode cX10_fewestPieces 10 = .ok (.aload_n 0, 1) := by decide +kernel
theorem dX10_fewestPieces_11 : decode cX10_fewestPieces 11 = .ok (.invokevirtual 400, 3) := by decide +kernel
theorem dX10_fewestPieces_14 : decode cX10_fewestPieces 14 = .ok (.istore_n 1, 1) := by decide +kernel
theorem dX10_fewestPieces_15 : decode cX10_fewestPieces 15 = .ok (.iload_n 1, 1) := by decide +kernel
theorem dX10_fewestPieces_16 : decode cX10_fewestPieces 16 = .ok (.ldc_w 276, 3) := by decide +kernel
theorem dX10_fewestPieces_19 : decode cX10_fewestPieces 19 = .ok (.if_icmp .lt 8, 3) := by decide +kernel
theorem dX10_fewestPieces_22 : decode cX10_fewestPieces 22 = .ok (.bipush (-2), 2) := by decide +kernel
theorem dX10_fewestPieces_24 : decode cX10_fewestPieces 24 = .ok (.goto 4, 3) := by decide +kernel
theorem dX10_fewestPieces_27 : decode cX10_fewestPieces 27 = .ok (.iload_n 1, 1) := by decide +kernel
theorem dX10_fewestPieces_28 : decode cX10_fewestPieces 28 = .ok (.ireturn, 1) := by decide +kernel
set_option maxRecDepth 20000 in
theorem bX10_fewestPieces_0 {G : Gx} {mm : Nat → Nat → Int32} {lm : Nat → Int64}  {o : Ou} {z : Wd} {a b : Nat} (hw : ∃ (v2 : Int32) (m3 : Nat → Nat → Int32), Ct G M_X10_isWrong [.ref 63, .int 1] (SH, mm, lm) false (.inl (some (.int v2))) (SH, m3, lm) false 0 0 ∧ ((v2 = 0) → J G M_X10_fewestPieces 10 [(0, .ref 63)] [] (SH, m3, lm) false o z false a b) ∧ ((¬ v2 = 0) → o = .inl (some (.int 0)) ∧ z = (SH, m3, lm))) :
    J G M_X10_fewestPieces 0 [(0, .ref 63)] [] (SH, mm, lm) false o z false a b := by
  refine J_aload_n rfl (i := 0) rfl dX10_fewestPieces_0 ?_
  refine J_iconst (v := 1) (by decide) dX10_fewestPieces_1 ?_
  obtain ⟨v2, m3, hc1, hw⟩ := hw
  refine J_callV (as := [.int 1]) (k := 63) (st := []) cal_X10_isWrong cai_X10_isWrong gw_1663 ⟨by decide, by decide⟩ cnt_X10_isWrong sh_63 rfl rfl (Nat.le_of_ble_eq_true rfl) dX10_fewestPieces_2 (Nat.zero_add _).symm (Nat.zero_add _).symm hc1 ?_
  refine J_if_eq (tgt := 10) dX10_fewestPieces_5 (by decide) (fun hb4 => ?_) (fun hb4 => ?_)
  · replace hw := hw.1 hb4
    exact hw
  · replace hw := hw.2 hb4
    refine J_iconst (v := 0) (by decide) dX10_fewestPieces_8 ?_
    exact J_fini (ty := .int) rfl rfl dX10_fewestPieces_9 hw
set_option maxRecDepth 20000 in
theorem bX10_fewestPieces_10 {G : Gx} {mm : Nat → Nat → Int32} {lm : Nat → Int64}  {o : Ou} {z : Wd} {a b : Nat} (hw : ∃ (v2 : Int32) (m3 : Nat → Nat → Int32), Ct G M_X10_cutting [.ref 63] (SH, mm, lm) false (.inl (some (.int v2))) (SH, m3, lm) false 0 0 ∧ ((v2 < 1000000) → o = .inl (some (.int v2)) ∧ z = (SH, m3, lm)) ∧ ((¬ v2 < 1000000) → o = .inl (some (.int (-2))) ∧ z = (SH, m3, lm))) :
    J G M_X10_fewestPieces 10 [(0, .ref 63)] [] (SH, mm, lm) false o z false a b := by
  refine J_aload_n rfl (i := 0) rfl dX10_fewestPieces_10 ?_
  obtain ⟨v2, m3, hc1, hw⟩ := hw
  refine J_callV (as := []) (k := 63) (st := []) cal_X10_cutting cai_X10_cutting gw_2013 ⟨by decide, by decide⟩ cnt_X10_cutting sh_63 rfl rfl (Nat.le_of_ble_eq_true rfl) dX10_fewestPieces_11 (Nat.zero_add _).symm (Nat.zero_add _).symm hc1 ?_
  refine J_istore_n [(1, .int v2), (0, .ref 63)] rfl (i := 1) (by decide) rfl dX10_fewestPieces_14 ?_
  refine J_iload_n rfl (i := 1) rfl dX10_fewestPieces_15 ?_
  refine J_ldcw gw_1763 dX10_fewestPieces_16 ?_
  refine J_icmp_lt (tgt := 27) dX10_fewestPieces_19 (by decide) (fun hb4 => ?_) (fun hb4 => ?_)
  · replace hw := hw.1 hb4
    refine J_iload_n rfl (i := 1) rfl dX10_fewestPieces_27 ?_
    exact J_fini (ty := .int) rfl rfl dX10_fewestPieces_28 hw
  · replace hw := hw.2 hb4
    refine J_bipush (v := (-2)) (by decide) dX10_fewestPieces_22 ?_
    refine J_goto (tgt := 28) dX10_fewestPieces_24 (by decide) ?_
    exact J_fini (ty := .int) rfl rfl dX10_fewestPieces_28 hw
theorem dX10_pieceOf_0 : decode cX10_pieceOf 0 = .ok (.aload_n 0, 1) := by decide +kernel
theorem dX10_pieceOf_1 : decode cX10_pieceOf 1 = .ok (.aload_n 0, 1) := by decide +kernel
theorem dX10_pieceOf_2 : decode cX10_pieceOf 2 = .ok (.iload_n 1, 1) := by decide +kernel
theorem dX10_pieceOf_3 : decode cX10_pieceOf 3 = .ok (.invokevirtual 235, 3) := by decide +kernel
theorem dX10_pieceOf_6 : decode cX10_pieceOf 6 = .ok (.invokevirtual 221, 3) := by decide +kernel
theorem dX10_pieceOf_9 : decode cX10_pieceOf 9 = .ok (.ifCond .eq 5, 3) := by decide +kernel
theorem dX10_pieceOf_12 : decode cX10_pieceOf 12 = .ok (.iconst 0, 1) := by decide +kernel
theorem dX10_pieceOf_13 : decode cX10_pieceOf 13 = .ok (.ireturn, 1) := by decide +kernel
theorem dX10_pieceOf_14 : decode cX10_pieceOf 14 = .ok (.aload_n 0, 1) := by decide +kernel
theorem dX10_pieceOf_15 : decode cX10_pieceOf 15 = .ok (.iload_n 1, 1) := by decide +kernel
theorem dX10_pieceOf_16 : decode cX10_pieceOf 16 = .ok (.invokevirtual 244, 3) := by decide +kernel
theorem dX10_pieceOf_19 : decode cX10_pieceOf 19 = .ok (.ifCond .ne 6, 3) := by decide +kernel
theorem dX10_pieceOf_22 : decode cX10_pieceOf 22 = .ok (.bipush (-2), 2) := by decide +kernel
theorem dX10_pieceOf_24 : decode cX10_pieceOf 24 = .ok (.ireturn, 1) := by decide +kernel
theorem dX10_pieceOf_25 : decode cX10_pieceOf 25 = .ok (.aload_n 0, 1) := by decide +kernel
theorem dX10_pieceOf_26 : decode cX10_pieceOf 26 = .ok (.invokevirtual 400, 3) := by decide +kernel
theorem dX10_pieceOf_29 : decode cX10_pieceOf 29 = .ok (.ldc_w 276, 3) := by decide +kernel
theorem dX10_pieceOf_32 : decode cX10_pieceOf 32 = .ok (.if_icmp .lt 8, 3) := by decide +kernel
theorem dX10_pieceOf_35 : decode cX10_pieceOf 35 = .ok (.bipush (-3), 2) := by decide +kernel
theorem dX10_pieceOf_37 : decode cX10_pieceOf 37 = .ok (.goto 9, 3) := by decide +kernel
theorem dX10_pieceOf_40 : decode cX10_pieceOf 40 = .ok (.aload_n 0, 1) := by decide +kernel
theorem dX10_pieceOf_41 : decode cX10_pieceOf 41 = .ok (.getfield 71, 3) := by decide +kernel
theorem dX10_pieceOf_44 : decode cX10_pieceOf 44 = .ok (.iload_n 1, 1) := by decide +kernel
theorem dX10_pieceOf_45 : decode cX10_pieceOf 45 = .ok (.iaload, 1) := by decide +kernel
theorem dX10_pieceOf_46 : decode cX10_pieceOf 46 = .ok (.ireturn, 1) := by decide +kernel
set_option maxRecDepth 20000 in
theorem bX10_pieceOf_0 {G : Gx} {mm : Nat → Nat → Int32} {lm : Nat → Int64} {x1 : Int32} {o : Ou} {z : Wd} {a b : Nat} (hw : ∃ (v2 : Int32), Ct G M_X10_isBell [.ref 63, .int x1] (SH, mm, lm) false (.inl (some (.int v2))) (SH, mm, lm) false 0 0 ∧ ∃ (v5 : Int32) (m6 : Nat → Nat → Int32), Ct G M_X10_isWrong [.ref 63, .int v2] (SH, mm, lm) false (.inl (some (.int v5))) (SH, m6, lm) false 0 0 ∧ ((v5 = 0) → J G M_X10_pieceOf 14 [(0, .ref 63), (1, .int x1)] [] (SH, m6, lm) false o z false a b) ∧ ((¬ v5 = 0) → o = .inl (some (.int 0)) ∧ z = (SH, m6, lm))) :
    J G M_X10_pieceOf 0 [(0, .ref 63), (1, .int x1)] [] (SH, mm, lm) false o z false a b := by
  refine J_aload_n rfl (i := 0) rfl dX10_pieceOf_0 ?_
  refine J_aload_n rfl (i := 0) rfl dX10_pieceOf_1 ?_
  refine J_iload_n rfl (i := 1) rfl dX10_pieceOf_2 ?_
  obtain ⟨v2, hc1, hw⟩ := hw
  refine J_callV (as := [.int x1]) (k := 63) (st := [.ref 63]) cal_X10_isBell cai_X10_isBell gw_1671 ⟨by decide, by decide⟩ cnt_X10_isBell sh_63 rfl rfl (Nat.le_of_ble_eq_true rfl) dX10_pieceOf_3 (Nat.zero_add _).symm (Nat.zero_add _).symm hc1 ?_
  obtain ⟨v5, m6, hc4, hw⟩ := hw
  refine J_callV (as := [.int v2]) (k := 63) (st := []) cal_X10_isWrong cai_X10_isWrong gw_1663 ⟨by decide, by decide⟩ cnt_X10_isWrong sh_63 rfl rfl (Nat.le_of_ble_eq_true rfl) dX10_pieceOf_6 (Nat.zero_add _).symm (Nat.zero_add _).symm hc4 ?_
  refine J_if_eq (tgt := 14) dX10_pieceOf_9 (by decide) (fun hb7 => ?_) (fun hb7 => ?_)
  · replace hw := hw.1 hb7
    exact hw
  · replace hw := hw.2 hb7
    refine J_iconst (v := 0) (by decide) dX10_pieceOf_12 ?_
    exact J_fini (ty := .int) rfl rfl dX10_pieceOf_13 hw
set_option maxRecDepth 20000 in
theorem bX10_pieceOf_14 {G : Gx} {mm : Nat → Nat → Int32} {lm : Nat → Int64} {x1 : Int32} {o : Ou} {z : Wd} {a b : Nat} (hw : ∃ (v2 : Int32), Ct G M_X10_hangs [.ref 63, .int x1] (SH, mm, lm) false (.inl (some (.int v2))) (SH, mm, lm) false 0 0 ∧ ((¬ v2 = 0) → ∃ (v5 : Int32) (m6 : Nat → Nat → Int32), Ct G M_X10_cutting [.ref 63] (SH, mm, lm) false (.inl (some (.int v5))) (SH, m6, lm) false 0 0 ∧ ((v5 < 1000000) → ∃ j7 : Nat, x1 = nI j7 ∧ j7 < 8 ∧ o = .inl (some (.int (m6 83 j7))) ∧ z = (SH, m6, lm)) ∧ ((¬ v5 < 1000000) → o = .inl (some (.int (-3))) ∧ z = (SH, m6, lm))) ∧ ((v2 = 0) → o = .inl (some (.int (-2))) ∧ z = (SH, mm, lm))) :
    J G M_X10_pieceOf 14 [(0, .ref 63), (1, .int x1)] [] (SH, mm, lm) false o z false a b := by
  refine J_aload_n rfl (i := 0) rfl dX10_pieceOf_14 ?_
  refine J_iload_n rfl (i := 1) rfl dX10_pieceOf_15 ?_
  obtain ⟨v2, hc1, hw⟩ := hw
  refine J_callV (as := [.int x1]) (k := 63) (st := []) cal_X10_hangs cai_X10_hangs gw_1684 ⟨by decide, by decide⟩ cnt_X10_hangs sh_63 rfl rfl (Nat.le_of_ble_eq_true rfl) dX10_pieceOf_16 (Nat.zero_add _).symm (Nat.zero_add _).symm hc1 ?_
  refine J_if_ne (tgt := 25) dX10_pieceOf_19 (by decide) (fun hb9 => ?_) (fun hb9 => ?_)
  · replace hw := hw.1 hb9
    refine J_aload_n rfl (i := 0) rfl dX10_pieceOf_25 ?_
    obtain ⟨v5, m6, hc4, hw⟩ := hw
    refine J_callV (as := []) (k := 63) (st := []) cal_X10_cutting cai_X10_cutting gw_2013 ⟨by decide, by decide⟩ cnt_X10_cutting sh_63 rfl rfl (Nat.le_of_ble_eq_true rfl) dX10_pieceOf_26 (Nat.zero_add _).symm (Nat.zero_add _).symm hc4 ?_
    refine J_ldcw gw_1763 dX10_pieceOf_29 ?_
    refine J_icmp_lt (tgt := 40) dX10_pieceOf_32 (by decide) (fun hb8 => ?_) (fun hb8 => ?_)
    · replace hw := hw.1 hb8
      refine J_aload_n rfl (i := 0) rfl dX10_pieceOf_40 ?_
      refine J_getr kls_10 (q := 63) (k := 39) sh_63 (by decide) rfl gw_1472 dX10_pieceOf_41 ?_
      refine J_iload_n rfl (i := 1) rfl dX10_pieceOf_44 ?_
      obtain ⟨j7, ej7, hj7, hw⟩ := hw
      refine J_iald sh_83 ej7 hj7 (by decide) dX10_pieceOf_45 ?_
      exact J_fini (ty := .int) rfl rfl dX10_pieceOf_46 hw
    · replace hw := hw.2 hb8
      refine J_bipush (v := (-3)) (by decide) dX10_pieceOf_35 ?_
      refine J_goto (tgt := 46) dX10_pieceOf_37 (by decide) ?_
      exact J_fini (ty := .int) rfl rfl dX10_pieceOf_46 hw
  · replace hw := hw.2 hb9
    refine J_bipush (v := (-2)) (by decide) dX10_pieceOf_22 ?_
    exact J_fini (ty := .int) rfl rfl dX10_pieceOf_24 hw
theorem dX10_waste_0 : decode cX10_waste 0 = .ok (.aload_n 0, 1) := by decide +kernel
theorem dX10_waste_1 : decode cX10_waste 1 = .ok (.iconst 1, 1) := by decide +kernel
theorem dX10_waste_2 : decode cX10_waste 2 = .ok (.invokevirtual 221, 3) := by decide +kernel
theorem dX10_waste_5 : decode cX10_waste 5 = .ok (.ifCond .eq 5, 3) := by decide +kernel
theorem dX10_waste_8 : decode cX10_waste 8 = .ok (.iconst 0, 1) := by decide +kernel
theorem dX10_waste_9 : decode cX10_waste 9 = .ok (.ireturn, 1) := by decide +kernel
theorem dX10_waste_10 : decode cX10_waste 10 = .ok (.aload_n 0, 1) := by decide +kernel
theorem dX10_waste_11 : decode cX10_waste 11 = .ok (.invokevirtual 400, 3) := by decide +kernel
theorem dX10_waste_14 : decode cX10_waste 14 = .ok (.ldc_w 276, 3) := by decide +kernel
theorem dX10_waste_17 : decode cX10_waste 17 = .ok (.if_icmp .lt 6, 3) := by decide +kernel
theorem dX10_waste_20 : decode cX10_waste 20 = .ok (.bipush (-2), 2) := by decide +kernel
theorem dX10_waste_22 : decode cX10_waste 22 = .ok (.ireturn, 1) := by decide +kernel
theorem dX10_waste_23 : decode cX10_waste 23 = .ok (.iconst 0, 1) := by decide +kernel
theorem dX10_waste_24 : decode cX10_waste 24 = .ok (.istore_n 1, 1) := by decide +kernel
theorem dX10_waste_25 : decode cX10_waste 25 = .ok (.iconst 0, 1) := by decide +kernel
theorem dX10_waste_26 : decode cX10_waste 26 = .ok (.istore_n 2, 1) := by decide +kernel
theorem dX10_waste_27 : decode cX10_waste 27 = .ok (.iload_n 2, 1) := by decide +kernel
theorem dX10_waste_28 : decode cX10_waste 28 = .ok (.aload_n 0, 1) := by decide +kernel
theorem dX10_waste_29 : decode cX10_waste 29 = .ok (.getfield 215, 3) := by decide +kernel
theorem dX10_waste_32 : decode cX10_waste 32 = .ok (.if_icmp .ge 38, 3) := by decide +kernel
theorem dX10_waste_35 : decode cX10_waste 35 = .ok (.iload_n 1, 1) := by decide +kernel
theorem dX10_waste_36 : decode cX10_waste 36 = .ok (.aload_n 0, 1) := by decide +kernel
theorem dX10_waste_37 : decode cX10_waste 37 = .ok (.getfield 68, 3) := by decide +kernel
theorem dX10_waste_40 : decode cX10_waste 40 = .ok (.iload_n 2, 1) := by decide +kernel
theorem dX10_waste_41 : decode cX10_waste 41 = .ok (.iaload, 1) := by decide +kernel
theorem dX10_waste_42 : decode cX10_waste 42 = .ok (.ifCond .le 19, 3) := by decide +kernel
theorem dX10_waste_45 : decode cX10_waste 45 = .ok (.aload_n 0, 1) := by decide +kernel
theorem dX10_waste_46 : decode cX10_waste 46 = .ok (.getfield 37, 3) := by decide +kernel
theorem dX10_waste_49 : decode cX10_waste 49 = .ok (.iload_n 2, 1) := by decide +kernel
theorem dX10_waste_50 : decode cX10_waste 50 = .ok (.iaload, 1) := by decide +kernel
theorem dX10_waste_51 : decode cX10_waste 51 = .ok (.aload_n 0, 1) := by decide +kernel
theorem dX10_waste_52 : decode cX10_waste 52 = .ok (.getfield 68, 3) := by decide +kernel
theorem dX10_waste_55 : decode cX10_waste 55 = .ok (.iload_n 2, 1) := by decide +kernel
theorem dX10_waste_56 : decode cX10_waste 56 = .ok (.iaload, 1) := by decide +kernel
theorem dX10_waste_57 : decode cX10_waste 57 = .ok (.isub, 1) := by decide +kernel
theorem dX10_waste_58 : decode cX10_waste 58 = .ok (.goto 4, 3) := by decide +kernel
theorem dX10_waste_61 : decode cX10_waste 61 = .ok (.iconst 0, 1) := by decide +kernel
theorem dX10_waste_62 : decode cX10_waste 62 = .ok (.iadd, 1) := by decide +kernel
theorem dX10_waste_63 : decode cX10_waste 63 = .ok (.istore_n 1, 1) := by decide +kernel
theorem dX10_waste_64 : decode cX10_waste 64 = .ok (.iinc 2 1, 3) := by decide +kernel
theorem dX10_waste_67 : decode cX10_waste 67 = .ok (.goto (-40), 3) := by decide +kernel
theorem dX10_waste_70 : decode cX10_waste 70 = .ok (.iload_n 1, 1) := by decide +kernel
theorem dX10_waste_71 : decode cX10_waste 71 = .ok (.ireturn, 1) := by decide +kernel
set_option maxRecDepth 20000 in
theorem bX10_waste_0 {G : Gx} {mm : Nat → Nat → Int32} {lm : Nat → Int64}  {o : Ou} {z : Wd} {a b : Nat} (hw : ∃ (v2 : Int32) (m3 : Nat → Nat → Int32), Ct G M_X10_isWrong [.ref 63, .int 1] (SH, mm, lm) false (.inl (some (.int v2))) (SH, m3, lm) false 0 0 ∧ ((v2 = 0) → J G M_X10_waste 10 [(0, .ref 63)] [] (SH, m3, lm) false o z false a b) ∧ ((¬ v2 = 0) → o = .inl (some (.int 0)) ∧ z = (SH, m3, lm))) :
    J G M_X10_waste 0 [(0, .ref 63)] [] (SH, mm, lm) false o z false a b := by
  refine J_aload_n rfl (i := 0) rfl dX10_waste_0 ?_
  refine J_iconst (v := 1) (by decide) dX10_waste_1 ?_
  obtain ⟨v2, m3, hc1, hw⟩ := hw
  refine J_callV (as := [.int 1]) (k := 63) (st := []) cal_X10_isWrong cai_X10_isWrong gw_1663 ⟨by decide, by decide⟩ cnt_X10_isWrong sh_63 rfl rfl (Nat.le_of_ble_eq_true rfl) dX10_waste_2 (Nat.zero_add _).symm (Nat.zero_add _).symm hc1 ?_
  refine J_if_eq (tgt := 10) dX10_waste_5 (by decide) (fun hb4 => ?_) (fun hb4 => ?_)
  · replace hw := hw.1 hb4
    exact hw
  · replace hw := hw.2 hb4
    refine J_iconst (v := 0) (by decide) dX10_waste_8 ?_
    exact J_fini (ty := .int) rfl rfl dX10_waste_9 hw
set_option maxRecDepth 20000 in
theorem bX10_waste_10 {G : Gx} {mm : Nat → Nat → Int32} {lm : Nat → Int64}  {o : Ou} {z : Wd} {a b : Nat} (hw : ∃ (v2 : Int32) (m3 : Nat → Nat → Int32), Ct G M_X10_cutting [.ref 63] (SH, mm, lm) false (.inl (some (.int v2))) (SH, m3, lm) false 0 0 ∧ ((v2 < 1000000) → J G M_X10_waste 27 [(0, .ref 63), (1, .int 0), (2, .int 0)] [] (SH, m3, lm) false o z false a b) ∧ ((¬ v2 < 1000000) → o = .inl (some (.int (-2))) ∧ z = (SH, m3, lm))) :
    J G M_X10_waste 10 [(0, .ref 63)] [] (SH, mm, lm) false o z false a b := by
  refine J_aload_n rfl (i := 0) rfl dX10_waste_10 ?_
  obtain ⟨v2, m3, hc1, hw⟩ := hw
  refine J_callV (as := []) (k := 63) (st := []) cal_X10_cutting cai_X10_cutting gw_2013 ⟨by decide, by decide⟩ cnt_X10_cutting sh_63 rfl rfl (Nat.le_of_ble_eq_true rfl) dX10_waste_11 (Nat.zero_add _).symm (Nat.zero_add _).symm hc1 ?_
  refine J_ldcw gw_1763 dX10_waste_14 ?_
  refine J_icmp_lt (tgt := 23) dX10_waste_17 (by decide) (fun hb4 => ?_) (fun hb4 => ?_)
  · replace hw := hw.1 hb4
    refine J_iconst (v := 0) (by decide) dX10_waste_23 ?_
    refine J_istore_n [(1, .int 0), (0, .ref 63)] rfl (i := 1) (by decide) rfl dX10_waste_24 ?_
    refine J_iconst (v := 0) (by decide) dX10_waste_25 ?_
    refine J_istore_n [(2, .int 0), (1, .int 0), (0, .ref 63)] rfl (i := 2) (by decide) rfl dX10_waste_26 ?_
    exact J_sub [2, 1, 0] rfl hw
  · replace hw := hw.2 hb4
    refine J_bipush (v := (-2)) (by decide) dX10_waste_20 ?_
    exact J_fini (ty := .int) rfl rfl dX10_waste_22 hw
set_option maxRecDepth 20000 in
theorem bX10_waste_27 {G : Gx} {mm : Nat → Nat → Int32} {lm : Nat → Int64} {x1 : Int32} {x2 : Int32} {o : Ou} {z : Wd} {a b : Nat} (hw : (((mm 63 15) ≤ x2) → o = .inl (some (.int x1)) ∧ z = (SH, mm, lm)) ∧ ((¬ (mm 63 15) ≤ x2) → ∃ j1 : Nat, x2 = nI j1 ∧ j1 < 8 ∧ (((mm 82 j1) ≤ 0) → J G M_X10_waste 27 [(0, .ref 63), (1, .int (x1 + 0)), (2, .int (x2 + 1))] [] (SH, mm, lm) false o z false a b) ∧ ((¬ (mm 82 j1) ≤ 0) → ∃ j2 : Nat, x2 = nI j2 ∧ j2 < 8 ∧ ∃ j3 : Nat, x2 = nI j3 ∧ j3 < 8 ∧ J G M_X10_waste 27 [(0, .ref 63), (1, .int (x1 + ((mm 73 j2) - (mm 82 j3)))), (2, .int (x2 + 1))] [] (SH, mm, lm) false o z false a b))) :
    J G M_X10_waste 27 [(0, .ref 63), (1, .int x1), (2, .int x2)] [] (SH, mm, lm) false o z false a b := by
  refine J_iload_n rfl (i := 2) rfl dX10_waste_27 ?_
  refine J_aload_n rfl (i := 0) rfl dX10_waste_28 ?_
  refine J_geti kls_10 (q := 63) (k := 15) sh_63 (by decide) rfl gw_1448 dX10_waste_29 ?_
  refine J_icmp_ge (tgt := 70) dX10_waste_32 (by decide) (fun hb5 => ?_) (fun hb5 => ?_)
  · replace hw := hw.1 hb5
    refine J_iload_n rfl (i := 1) rfl dX10_waste_70 ?_
    exact J_fini (ty := .int) rfl rfl dX10_waste_71 hw
  · replace hw := hw.2 hb5
    refine J_iload_n rfl (i := 1) rfl dX10_waste_35 ?_
    refine J_aload_n rfl (i := 0) rfl dX10_waste_36 ?_
    refine J_getr kls_10 (q := 63) (k := 38) sh_63 (by decide) rfl gw_1471 dX10_waste_37 ?_
    refine J_iload_n rfl (i := 2) rfl dX10_waste_40 ?_
    obtain ⟨j1, ej1, hj1, hw⟩ := hw
    refine J_iald sh_82 ej1 hj1 (by decide) dX10_waste_41 ?_
    refine J_if_le (tgt := 61) dX10_waste_42 (by decide) (fun hb4 => ?_) (fun hb4 => ?_)
    · replace hw := hw.1 hb4
      refine J_iconst (v := 0) (by decide) dX10_waste_61 ?_
      refine J_iadd dX10_waste_62 ?_
      refine J_istore_n [(1, .int (x1 + 0)), (0, .ref 63), (2, .int x2)] rfl (i := 1) (by decide) rfl dX10_waste_63 ?_
      refine J_iinc [(2, .int (x2 + 1)), (1, .int (x1 + 0)), (0, .ref 63)] (i := 2) (v := (x2 + 1)) rfl rfl (by decide) rfl dX10_waste_64 ?_
      refine J_goto (tgt := 27) dX10_waste_67 (by decide) ?_
      exact J_sub [2, 1, 0] rfl hw
    · replace hw := hw.2 hb4
      refine J_aload_n rfl (i := 0) rfl dX10_waste_45 ?_
      refine J_getr kls_10 (q := 63) (k := 16) sh_63 (by decide) rfl gw_1449 dX10_waste_46 ?_
      refine J_iload_n rfl (i := 2) rfl dX10_waste_49 ?_
      obtain ⟨j2, ej2, hj2, hw⟩ := hw
      refine J_iald sh_73 ej2 hj2 (by decide) dX10_waste_50 ?_
      refine J_aload_n rfl (i := 0) rfl dX10_waste_51 ?_
      refine J_getr kls_10 (q := 63) (k := 38) sh_63 (by decide) rfl gw_1471 dX10_waste_52 ?_
      refine J_iload_n rfl (i := 2) rfl dX10_waste_55 ?_
      obtain ⟨j3, ej3, hj3, hw⟩ := hw
      refine J_iald sh_82 ej3 hj3 (by decide) dX10_waste_56 ?_
      refine J_isub dX10_waste_57 ?_
      refine J_goto (tgt := 62) dX10_waste_58 (by decide) ?_
      refine J_iadd dX10_waste_62 ?_
      refine J_istore_n [(1, .int (x1 + ((mm 73 j2) - (mm 82 j3)))), (0, .ref 63), (2, .int x2)] rfl (i := 1) (by decide) rfl dX10_waste_63 ?_
      refine J_iinc [(2, .int (x2 + 1)), (1, .int (x1 + ((mm 73 j2) - (mm 82 j3)))), (0, .ref 63)] (i := 2) (v := (x2 + 1)) rfl rfl (by decide) rfl dX10_waste_64 ?_
      refine J_goto (tgt := 27) dX10_waste_67 (by decide) ?_
      exact J_sub [2, 1, 0] rfl hw
theorem dX10_extraPiece_0 : decode cX10_extraPiece 0 = .ok (.aload_n 0, 1) := by decide +kernel
theorem dX10_extraPiece_1 : decode cX10_extraPiece 1 = .ok (.iconst 1, 1) := by decide +kernel
theorem dX10_extraPiece_2 : decode cX10_extraPiece 2 = .ok (.invokevirtual 221, 3) := by decide +kernel
theorem dX10_extraPiece_5 : decode cX10_extraPiece 5 = .ok (.ifCond .eq 5, 3) := by decide +kernel
theorem dX10_extraPiece_8 : decode cX10_extraPiece 8 = .ok (.iconst 0, 1) := by decide +kernel
theorem dX10_extraPiece_9 : decode cX10_extraPiece 9 = .ok (.ireturn, 1) := by decide +kernel
theorem dX10_extraPiece_10 : decode cX10_extraPiece 10 = .ok (.aload_n 0, 1) := by decide +kernel
theorem dX10_extraPiece_11 : decode cX10_extraPiece 11 = .ok (.invokevirtual 391, 3) := by decide +kernel
theorem dX10_extraPiece_14 : decode cX10_extraPiece 14 = .ok (.iconst 0, 1) := by decide +kernel
theorem dX10_extraPiece_15 : decode cX10_extraPiece 15 = .ok (.istore_n 1, 1) := by decide +kernel
theorem dX10_extraPiece_16 : decode cX10_extraPiece 16 = .ok (.iload_n 1, 1) := by decide +kernel
theorem dX10_extraPiece_17 : decode cX10_extraPiece 17 = .ok (.bipush 8, 2) := by decide +kernel
theorem dX10_extraPiece_19 : decode cX10_extraPiece 19 = .ok (.if_icmp .ge 16, 3) := by decide +kernel
theorem dX10_extraPiece_22 : decode cX10_extraPiece 22 = .ok (.aload_n 0, 1) := by decide +kernel
theorem dX10_extraPiece_23 : decode cX10_extraPiece 23 = .ok (.getfield 68, 3) := by decide +kernel
theorem dX10_extraPiece_26 : decode cX10_extraPiece 26 = .ok (.iload_n 1, 1) := by decide +kernel
theorem dX10_extraPiece_27 : decode cX10_extraPiece 27 = .ok (.iconst 0, 1) := by decide +kernel
theorem dX10_extraPiece_28 : decode cX10_extraPiece 28 = .ok (.iastore, 1) := by decide +kernel
theorem dX10_extraPiece_29 : decode cX10_extraPiece 29 = .ok (.iinc 1 1, 3) := by decide +kernel
theorem dX10_extraPiece_32 : decode cX10_extraPiece 32 = .ok (.goto (-16), 3) := by decide +kernel
theorem dX10_extraPiece_35 : decode cX10_extraPiece 35 = .ok (.aload_n 0, 1) := by decide +kernel
theorem dX10_extraPiece_36 : decode cX10_extraPiece 36 = .ok (.invokevirtual 394, 3) := by decide +kernel
theorem dX10_extraPiece_39 : decode cX10_extraPiece 39 = .ok (.aload_n 0, 1) := by decide +kernel
theorem dX10_extraPiece_40 : decode cX10_extraPiece 40 = .ok (.invokevirtual 382, 3) := by decide +kernel
theorem dX10_extraPiece_43 : decode cX10_extraPiece 43 = .ok (.istore_n 1, 1) := by decide +kernel
theorem dX10_extraPiece_44 : decode cX10_extraPiece 44 = .ok (.ldc_w 276, 3) := by decide +kernel
theorem dX10_extraPiece_47 : decode cX10_extraPiece 47 = .ok (.istore_n 2, 1) := by decide +kernel
theorem dX10_extraPiece_48 : decode cX10_extraPiece 48 = .ok (.iload_n 1, 1) := by decide +kernel
theorem dX10_extraPiece_49 : decode cX10_extraPiece 49 = .ok (.istore_n 3, 1) := by decide +kernel
theorem dX10_extraPiece_50 : decode cX10_extraPiece 50 = .ok (.iload_n 3, 1) := by decide +kernel
theorem dX10_extraPiece_51 : decode cX10_extraPiece 51 = .ok (.ifCond .lt 48, 3) := by decide +kernel
theorem dX10_extraPiece_54 : decode cX10_extraPiece 54 = .ok (.iload_n 3, 1) := by decide +kernel
theorem dX10_extraPiece_55 : decode cX10_extraPiece 55 = .ok (.iload_n 1, 1) := by decide +kernel
theorem dX10_extraPiece_56 : decode cX10_extraPiece 56 = .ok (.iconst (-1), 1) := by decide +kernel
theorem dX10_extraPiece_57 : decode cX10_extraPiece 57 = .ok (.ixor, 1) := by decide +kernel
theorem dX10_extraPiece_58 : decode cX10_extraPiece 58 = .ok (.iand, 1) := by decide +kernel
theorem dX10_extraPiece_59 : decode cX10_extraPiece 59 = .ok (.ifCond .ne 34, 3) := by decide +kernel
theorem dX10_extraPiece_62 : decode cX10_extraPiece 62 = .ok (.aload_n 0, 1) := by decide +kernel
theorem dX10_extraPiece_63 : decode cX10_extraPiece 63 = .ok (.getfield 65, 3) := by decide +kernel
theorem dX10_extraPiece_66 : decode cX10_extraPiece 66 = .ok (.iload_n 1, 1) := by decide +kernel
theorem dX10_extraPiece_67 : decode cX10_extraPiece 67 = .ok (.iload_n 3, 1) := by decide +kernel
theorem dX10_extraPiece_68 : decode cX10_extraPiece 68 = .ok (.ixor, 1) := by decide +kernel
theorem dX10_extraPiece_69 : decode cX10_extraPiece 69 = .ok (.iaload, 1) := by decide +kernel
theorem dX10_extraPiece_70 : decode cX10_extraPiece 70 = .ok (.ldc_w 276, 3) := by decide +kernel
theorem dX10_extraPiece_73 : decode cX10_extraPiece 73 = .ok (.if_icmp .ge 20, 3) := by decide +kernel
theorem dX10_extraPiece_76 : decode cX10_extraPiece 76 = .ok (.aload_n 0, 1) := by decide +kernel
theorem dX10_extraPiece_77 : decode cX10_extraPiece 77 = .ok (.getfield 74, 3) := by decide +kernel
theorem dX10_extraPiece_80 : decode cX10_extraPiece 80 = .ok (.iload_n 3, 1) := by decide +kernel
theorem dX10_extraPiece_81 : decode cX10_extraPiece 81 = .ok (.iaload, 1) := by decide +kernel
theorem dX10_extraPiece_82 : decode cX10_extraPiece 82 = .ok (.iload_n 2, 1) := by decide +kernel
theorem dX10_extraPiece_83 : decode cX10_extraPiece 83 = .ok (.if_icmp .ge 10, 3) := by decide +kernel
theorem dX10_extraPiece_86 : decode cX10_extraPiece 86 = .ok (.aload_n 0, 1) := by decide +kernel
theorem dX10_extraPiece_87 : decode cX10_extraPiece 87 = .ok (.getfield 74, 3) := by decide +kernel
theorem dX10_extraPiece_90 : decode cX10_extraPiece 90 = .ok (.iload_n 3, 1) := by decide +kernel
theorem dX10_extraPiece_91 : decode cX10_extraPiece 91 = .ok (.iaload, 1) := by decide +kernel
theorem dX10_extraPiece_92 : decode cX10_extraPiece 92 = .ok (.istore_n 2, 1) := by decide +kernel
theorem dX10_extraPiece_93 : decode cX10_extraPiece 93 = .ok (.iinc 3 (-1), 3) := by decide +kernel
theorem dX10_extraPiece_96 : decode cX10_extraPiece 96 = .ok (.goto (-46), 3) := by decide +kernel
theorem dX10_extraPiece_99 : decode cX10_extraPiece 99 = .ok (.iload_n 2, 1) := by decide +kernel
theorem dX10_extraPiece_100 : decode cX10_extraPiece 100 = .ok (.ireturn, 1) := by decide +kernel
set_option maxRecDepth 20000 in
theorem bX10_extraPiece_0 {G : Gx} {mm : Nat → Nat → Int32} {lm : Nat → Int64}  {o : Ou} {z : Wd} {a b : Nat} (hw : ∃ (v2 : Int32) (m3 : Nat → Nat → Int32), Ct G M_X10_isWrong [.ref 63, .int 1] (SH, mm, lm) false (.inl (some (.int v2))) (SH, m3, lm) false 0 0 ∧ ((v2 = 0) → J G M_X10_extraPiece 10 [(0, .ref 63)] [] (SH, m3, lm) false o z false a b) ∧ ((¬ v2 = 0) → o = .inl (some (.int 0)) ∧ z = (SH, m3, lm))) :
    J G M_X10_extraPiece 0 [(0, .ref 63)] [] (SH, mm, lm) false o z false a b := by
  refine J_aload_n rfl (i := 0) rfl dX10_extraPiece_0 ?_
  refine J_iconst (v := 1) (by decide) dX10_extraPiece_1 ?_
  obtain ⟨v2, m3, hc1, hw⟩ := hw
  refine J_callV (as := [.int 1]) (k := 63) (st := []) cal_X10_isWrong cai_X10_isWrong gw_1663 ⟨by decide, by decide⟩ cnt_X10_isWrong sh_63 rfl rfl (Nat.le_of_ble_eq_true rfl) dX10_extraPiece_2 (Nat.zero_add _).symm (Nat.zero_add _).symm hc1 ?_
  refine J_if_eq (tgt := 10) dX10_extraPiece_5 (by decide) (fun hb4 => ?_) (fun hb4 => ?_)
  · replace hw := hw.1 hb4
    exact hw
  · replace hw := hw.2 hb4
    refine J_iconst (v := 0) (by decide) dX10_extraPiece_8 ?_
    exact J_fini (ty := .int) rfl rfl dX10_extraPiece_9 hw
set_option maxRecDepth 20000 in
theorem bX10_extraPiece_10 {G : Gx} {mm : Nat → Nat → Int32} {lm : Nat → Int64}  {o : Ou} {z : Wd} {a b : Nat} (hw : ∃ (m3 : Nat → Nat → Int32), Ct G M_X10_laySums [.ref 63] (SH, mm, lm) false (.inl none) (SH, m3, lm) false 0 0 ∧ J G M_X10_extraPiece 16 [(0, .ref 63), (1, .int 0)] [] (SH, m3, lm) false o z false a b) :
    J G M_X10_extraPiece 10 [(0, .ref 63)] [] (SH, mm, lm) false o z false a b := by
  refine J_aload_n rfl (i := 0) rfl dX10_extraPiece_10 ?_
  obtain ⟨m3, hc1, hw⟩ := hw
  refine J_callV (as := []) (k := 63) (st := []) cal_X10_laySums cai_X10_laySums gw_2017 ⟨by decide, by decide⟩ cnt_X10_laySums sh_63 rfl rfl (Nat.le_of_ble_eq_true rfl) dX10_extraPiece_11 (Nat.zero_add _).symm (Nat.zero_add _).symm hc1 ?_
  refine J_iconst (v := 0) (by decide) dX10_extraPiece_14 ?_
  refine J_istore_n [(1, .int 0), (0, .ref 63)] rfl (i := 1) (by decide) rfl dX10_extraPiece_15 ?_
  exact J_sub [1, 0] rfl hw
set_option maxRecDepth 20000 in
theorem bX10_extraPiece_16 {G : Gx} {mm : Nat → Nat → Int32} {lm : Nat → Int64} {x1 : Int32} {o : Ou} {z : Wd} {a b : Nat} (hw : ((8 ≤ x1) → ∃ (m3 : Nat → Nat → Int32), Ct G M_X10_layFewest [.ref 63] (SH, mm, lm) false (.inl none) (SH, m3, lm) false 0 0 ∧ ∃ (v5 : Int32), Ct G M_X10_hanging [.ref 63] (SH, m3, lm) false (.inl (some (.int v5))) (SH, m3, lm) false 0 0 ∧ J G M_X10_extraPiece 50 [(0, .ref 63), (1, .int v5), (2, .int 1000000), (3, .int v5)] [] (SH, m3, lm) false o z false a b) ∧ ((¬ 8 ≤ x1) → ∃ j7 : Nat, x1 = nI j7 ∧ j7 < 8 ∧ J G M_X10_extraPiece 16 [(0, .ref 63), (1, .int (x1 + 1))] [] (SH, (mset mm 82 j7 0), lm) false o z false a b)) :
    J G M_X10_extraPiece 16 [(0, .ref 63), (1, .int x1)] [] (SH, mm, lm) false o z false a b := by
  refine J_iload_n rfl (i := 1) rfl dX10_extraPiece_16 ?_
  refine J_bipush (v := 8) (by decide) dX10_extraPiece_17 ?_
  refine J_icmp_ge (tgt := 35) dX10_extraPiece_19 (by decide) (fun hb8 => ?_) (fun hb8 => ?_)
  · replace hw := hw.1 hb8
    refine J_aload_n rfl (i := 0) rfl dX10_extraPiece_35 ?_
    obtain ⟨m3, hc1, hw⟩ := hw
    refine J_callV (as := []) (k := 63) (st := []) cal_X10_layFewest cai_X10_layFewest gw_2029 ⟨by decide, by decide⟩ cnt_X10_layFewest sh_63 rfl rfl (Nat.le_of_ble_eq_true rfl) dX10_extraPiece_36 (Nat.zero_add _).symm (Nat.zero_add _).symm hc1 ?_
    refine J_aload_n rfl (i := 0) rfl dX10_extraPiece_39 ?_
    obtain ⟨v5, hc4, hw⟩ := hw
    refine J_callV (as := []) (k := 63) (st := []) cal_X10_hanging cai_X10_hanging gw_2021 ⟨by decide, by decide⟩ cnt_X10_hanging sh_63 rfl rfl (Nat.le_of_ble_eq_true rfl) dX10_extraPiece_40 (Nat.zero_add _).symm (Nat.zero_add _).symm hc4 ?_
    refine J_istore_n [(1, .int v5), (0, .ref 63)] rfl (i := 1) (by decide) rfl dX10_extraPiece_43 ?_
    refine J_ldcw gw_1763 dX10_extraPiece_44 ?_
    refine J_istore_n [(2, .int 1000000), (1, .int v5), (0, .ref 63)] rfl (i := 2) (by decide) rfl dX10_extraPiece_47 ?_
    refine J_iload_n rfl (i := 1) rfl dX10_extraPiece_48 ?_
    refine J_istore_n [(3, .int v5), (2, .int 1000000), (1, .int v5), (0, .ref 63)] rfl (i := 3) (by decide) rfl dX10_extraPiece_49 ?_
    exact J_sub [3, 2, 1, 0] rfl hw
  · replace hw := hw.2 hb8
    refine J_aload_n rfl (i := 0) rfl dX10_extraPiece_22 ?_
    refine J_getr kls_10 (q := 63) (k := 38) sh_63 (by decide) rfl gw_1471 dX10_extraPiece_23 ?_
    refine J_iload_n rfl (i := 1) rfl dX10_extraPiece_26 ?_
    refine J_iconst (v := 0) (by decide) dX10_extraPiece_27 ?_
    obtain ⟨j7, ej7, hj7, hw⟩ := hw
    refine J_iast sh_82 ej7 hj7 (by decide) dX10_extraPiece_28 ?_
    refine J_iinc [(1, .int (x1 + 1)), (0, .ref 63)] (i := 1) (v := (x1 + 1)) rfl rfl (by decide) rfl dX10_extraPiece_29 ?_
    refine J_goto (tgt := 16) dX10_extraPiece_32 (by decide) ?_
    exact J_sub [1, 0] rfl hw
set_option maxRecDepth 20000 in
theorem bX10_extraPiece_50 {G : Gx} {mm : Nat → Nat → Int32} {lm : Nat → Int64} {x1 : Int32} {x2 : Int32} {x3 : Int32} {o : Ou} {z : Wd} {a b : Nat} (hw : ((x3 < 0) → o = .inl (some (.int x2)) ∧ z = (SH, mm, lm)) ∧ ((¬ x3 < 0) → ((¬ (x3 &&& (x1 ^^^ (-1))) = 0) → J G M_X10_extraPiece 50 [(0, .ref 63), (1, .int x1), (2, .int x2), (3, .int (x3 + (-1)))] [] (SH, mm, lm) false o z false a b) ∧ (((x3 &&& (x1 ^^^ (-1))) = 0) → ∃ j1 : Nat, (x1 ^^^ x3) = nI j1 ∧ j1 < 2304 ∧ ((1000000 ≤ (mm 81 j1)) → J G M_X10_extraPiece 50 [(0, .ref 63), (1, .int x1), (2, .int x2), (3, .int (x3 + (-1)))] [] (SH, mm, lm) false o z false a b) ∧ ((¬ 1000000 ≤ (mm 81 j1)) → ∃ j2 : Nat, x3 = nI j2 ∧ j2 < 256 ∧ ((x2 ≤ (mm 84 j2)) → J G M_X10_extraPiece 50 [(0, .ref 63), (1, .int x1), (2, .int x2), (3, .int (x3 + (-1)))] [] (SH, mm, lm) false o z false a b) ∧ ((¬ x2 ≤ (mm 84 j2)) → ∃ j3 : Nat, x3 = nI j3 ∧ j3 < 256 ∧ J G M_X10_extraPiece 50 [(0, .ref 63), (1, .int x1), (2, .int (mm 84 j3)), (3, .int (x3 + (-1)))] [] (SH, mm, lm) false o z false a b))))) :
    J G M_X10_extraPiece 50 [(0, .ref 63), (1, .int x1), (2, .int x2), (3, .int x3)] [] (SH, mm, lm) false o z false a b := by
  refine J_iload_n rfl (i := 3) rfl dX10_extraPiece_50 ?_
  refine J_if_lt (tgt := 99) dX10_extraPiece_51 (by decide) (fun hb7 => ?_) (fun hb7 => ?_)
  · replace hw := hw.1 hb7
    refine J_iload_n rfl (i := 2) rfl dX10_extraPiece_99 ?_
    exact J_fini (ty := .int) rfl rfl dX10_extraPiece_100 hw
  · replace hw := hw.2 hb7
    refine J_iload_n rfl (i := 3) rfl dX10_extraPiece_54 ?_
    refine J_iload_n rfl (i := 1) rfl dX10_extraPiece_55 ?_
    refine J_iconst (v := (-1)) (by decide) dX10_extraPiece_56 ?_
    refine J_ixor dX10_extraPiece_57 ?_
    refine J_iand dX10_extraPiece_58 ?_
    refine J_if_ne (tgt := 93) dX10_extraPiece_59 (by decide) (fun hb6 => ?_) (fun hb6 => ?_)
    · replace hw := hw.1 hb6
      refine J_iinc [(3, .int (x3 + (-1))), (0, .ref 63), (1, .int x1), (2, .int x2)] (i := 3) (v := (x3 + (-1))) rfl (congrArg (fun y => x3 + y) (by decide : Int32.ofInt (-1) = (-1))) (by decide) rfl dX10_extraPiece_93 ?_
      refine J_goto (tgt := 50) dX10_extraPiece_96 (by decide) ?_
      exact J_sub [1, 2, 3, 0] rfl hw
    · replace hw := hw.2 hb6
      refine J_aload_n rfl (i := 0) rfl dX10_extraPiece_62 ?_
      refine J_getr kls_10 (q := 63) (k := 37) sh_63 (by decide) rfl gw_1470 dX10_extraPiece_63 ?_
      refine J_iload_n rfl (i := 1) rfl dX10_extraPiece_66 ?_
      refine J_iload_n rfl (i := 3) rfl dX10_extraPiece_67 ?_
      refine J_ixor dX10_extraPiece_68 ?_
      obtain ⟨j1, ej1, hj1, hw⟩ := hw
      refine J_iald sh_81 ej1 hj1 (by decide) dX10_extraPiece_69 ?_
      refine J_ldcw gw_1763 dX10_extraPiece_70 ?_
      refine J_icmp_ge (tgt := 93) dX10_extraPiece_73 (by decide) (fun hb5 => ?_) (fun hb5 => ?_)
      · replace hw := hw.1 hb5
        refine J_iinc [(3, .int (x3 + (-1))), (0, .ref 63), (1, .int x1), (2, .int x2)] (i := 3) (v := (x3 + (-1))) rfl (congrArg (fun y => x3 + y) (by decide : Int32.ofInt (-1) = (-1))) (by decide) rfl dX10_extraPiece_93 ?_
        refine J_goto (tgt := 50) dX10_extraPiece_96 (by decide) ?_
        exact J_sub [1, 2, 3, 0] rfl hw
      · replace hw := hw.2 hb5
        refine J_aload_n rfl (i := 0) rfl dX10_extraPiece_76 ?_
        refine J_getr kls_10 (q := 63) (k := 40) sh_63 (by decide) rfl gw_1473 dX10_extraPiece_77 ?_
        refine J_iload_n rfl (i := 3) rfl dX10_extraPiece_80 ?_
        obtain ⟨j2, ej2, hj2, hw⟩ := hw
        refine J_iald sh_84 ej2 hj2 (by decide) dX10_extraPiece_81 ?_
        refine J_iload_n rfl (i := 2) rfl dX10_extraPiece_82 ?_
        refine J_icmp_ge (tgt := 93) dX10_extraPiece_83 (by decide) (fun hb4 => ?_) (fun hb4 => ?_)
        · replace hw := hw.1 hb4
          refine J_iinc [(3, .int (x3 + (-1))), (0, .ref 63), (1, .int x1), (2, .int x2)] (i := 3) (v := (x3 + (-1))) rfl (congrArg (fun y => x3 + y) (by decide : Int32.ofInt (-1) = (-1))) (by decide) rfl dX10_extraPiece_93 ?_
          refine J_goto (tgt := 50) dX10_extraPiece_96 (by decide) ?_
          exact J_sub [1, 2, 3, 0] rfl hw
        · replace hw := hw.2 hb4
          refine J_aload_n rfl (i := 0) rfl dX10_extraPiece_86 ?_
          refine J_getr kls_10 (q := 63) (k := 40) sh_63 (by decide) rfl gw_1473 dX10_extraPiece_87 ?_
          refine J_iload_n rfl (i := 3) rfl dX10_extraPiece_90 ?_
          obtain ⟨j3, ej3, hj3, hw⟩ := hw
          refine J_iald sh_84 ej3 hj3 (by decide) dX10_extraPiece_91 ?_
          refine J_istore_n [(2, .int (mm 84 j3)), (0, .ref 63), (1, .int x1), (3, .int x3)] rfl (i := 2) (by decide) rfl dX10_extraPiece_92 ?_
          refine J_iinc [(3, .int (x3 + (-1))), (2, .int (mm 84 j3)), (0, .ref 63), (1, .int x1)] (i := 3) (v := (x3 + (-1))) rfl (congrArg (fun y => x3 + y) (by decide : Int32.ofInt (-1) = (-1))) (by decide) rfl dX10_extraPiece_93 ?_
          refine J_goto (tgt := 50) dX10_extraPiece_96 (by decide) ?_
          exact J_sub [2, 3, 1, 0] rfl hw
