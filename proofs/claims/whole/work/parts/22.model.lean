/-! ===== decode rows and walks between cut points, by program (wip/gen/mk10.py) ===== -/
theorem dX10_canBe_0 : decode cX10_canBe 0 = .ok (.aload_n 0, 1) := by decide +kernel
theorem dX10_canBe_1 : decode cX10_canBe 1 = .ok (.iload_n 1, 1) := by decide +kernel
theorem dX10_canBe_2 : decode cX10_canBe 2 = .ok (.invokevirtual 292, 3) := by decide +kernel
theorem dX10_canBe_5 : decode cX10_canBe 5 = .ok (.iconst 0, 1) := by decide +kernel
theorem dX10_canBe_6 : decode cX10_canBe 6 = .ok (.istore_n 2, 1) := by decide +kernel
theorem dX10_canBe_7 : decode cX10_canBe 7 = .ok (.iload_n 2, 1) := by decide +kernel
theorem dX10_canBe_8 : decode cX10_canBe 8 = .ok (.aload_n 0, 1) := by decide +kernel
theorem dX10_canBe_9 : decode cX10_canBe 9 = .ok (.getfield 206, 3) := by decide +kernel
theorem dX10_canBe_12 : decode cX10_canBe 12 = .ok (.if_icmp .ge 52, 3) := by decide +kernel
theorem dX10_canBe_15 : decode cX10_canBe 15 = .ok (.aload_n 0, 1) := by decide +kernel
theorem dX10_canBe_16 : decode cX10_canBe 16 = .ok (.getfield 56, 3) := by decide +kernel
theorem dX10_canBe_19 : decode cX10_canBe 19 = .ok (.iload_n 2, 1) := by decide +kernel
theorem dX10_canBe_20 : decode cX10_canBe 20 = .ok (.iaload, 1) := by decide +kernel
theorem dX10_canBe_21 : decode cX10_canBe 21 = .ok (.ifCond .le 13, 3) := by decide +kernel
theorem dX10_canBe_24 : decode cX10_canBe 24 = .ok (.aload_n 0, 1) := by decide +kernel
theorem dX10_canBe_25 : decode cX10_canBe 25 = .ok (.iload_n 2, 1) := by decide +kernel
theorem dX10_canBe_26 : decode cX10_canBe 26 = .ok (.invokevirtual 289, 3) := by decide +kernel
theorem dX10_canBe_29 : decode cX10_canBe 29 = .ok (.ifCond .ne 5, 3) := by decide +kernel
theorem dX10_canBe_32 : decode cX10_canBe 32 = .ok (.iconst 0, 1) := by decide +kernel
theorem dX10_canBe_33 : decode cX10_canBe 33 = .ok (.ireturn, 1) := by decide +kernel
theorem dX10_canBe_34 : decode cX10_canBe 34 = .ok (.iconst 0, 1) := by decide +kernel
theorem dX10_canBe_35 : decode cX10_canBe 35 = .ok (.istore_n 3, 1) := by decide +kernel
theorem dX10_canBe_36 : decode cX10_canBe 36 = .ok (.iload_n 3, 1) := by decide +kernel
theorem dX10_canBe_37 : decode cX10_canBe 37 = .ok (.iload_n 2, 1) := by decide +kernel
theorem dX10_canBe_38 : decode cX10_canBe 38 = .ok (.if_icmp .ge 20, 3) := by decide +kernel
theorem dX10_canBe_41 : decode cX10_canBe 41 = .ok (.aload_n 0, 1) := by decide +kernel
theorem dX10_canBe_42 : decode cX10_canBe 42 = .ok (.iload_n 2, 1) := by decide +kernel
theorem dX10_canBe_43 : decode cX10_canBe 43 = .ok (.iload_n 3, 1) := by decide +kernel
theorem dX10_canBe_44 : decode cX10_canBe 44 = .ok (.invokevirtual 295, 3) := by decide +kernel
theorem dX10_canBe_47 : decode cX10_canBe 47 = .ok (.ifCond .ne 5, 3) := by decide +kernel
theorem dX10_canBe_50 : decode cX10_canBe 50 = .ok (.iconst 0, 1) := by decide +kernel
theorem dX10_canBe_51 : decode cX10_canBe 51 = .ok (.ireturn, 1) := by decide +kernel
theorem dX10_canBe_52 : decode cX10_canBe 52 = .ok (.iinc 3 1, 3) := by decide +kernel
theorem dX10_canBe_55 : decode cX10_canBe 55 = .ok (.goto (-19), 3) := by decide +kernel
theorem dX10_canBe_58 : decode cX10_canBe 58 = .ok (.iinc 2 1, 3) := by decide +kernel
theorem dX10_canBe_61 : decode cX10_canBe 61 = .ok (.goto (-54), 3) := by decide +kernel
theorem dX10_canBe_64 : decode cX10_canBe 64 = .ok (.iconst 0, 1) := by decide +kernel
theorem dX10_canBe_65 : decode cX10_canBe 65 = .ok (.istore_n 2, 1) := by decide +kernel
theorem dX10_canBe_66 : decode cX10_canBe 66 = .ok (.iload_n 2, 1) := by decide +kernel
theorem dX10_canBe_67 : decode cX10_canBe 67 = .ok (.aload_n 0, 1) := by decide +kernel
theorem dX10_canBe_68 : decode cX10_canBe 68 = .ok (.getfield 209, 3) := by decide +kernel
theorem dX10_canBe_71 : decode cX10_canBe 71 = .ok (.if_icmp .ge 24, 3) := by decide +kernel
theorem dX10_canBe_74 : decode cX10_canBe 74 = .ok (.aload_n 0, 1) := by decide +kernel
theorem dX10_canBe_75 : decode cX10_canBe 75 = .ok (.iload_n 2, 1) := by decide +kernel
theorem dX10_canBe_76 : decode cX10_canBe 76 = .ok (.aload_n 0, 1) := by decide +kernel
theorem dX10_canBe_77 : decode cX10_canBe 77 = .ok (.iload_n 2, 1) := by decide +kernel
theorem dX10_canBe_78 : decode cX10_canBe 78 = .ok (.invokevirtual 298, 3) := by decide +kernel
theorem dX10_canBe_81 : decode cX10_canBe 81 = .ok (.invokevirtual 254, 3) := by decide +kernel
theorem dX10_canBe_84 : decode cX10_canBe 84 = .ok (.ifCond .ne 5, 3) := by decide +kernel
theorem dX10_canBe_87 : decode cX10_canBe 87 = .ok (.iconst 0, 1) := by decide +kernel
theorem dX10_canBe_88 : decode cX10_canBe 88 = .ok (.ireturn, 1) := by decide +kernel
theorem dX10_canBe_89 : decode cX10_canBe 89 = .ok (.iinc 2 1, 3) := by decide +kernel
theorem dX10_canBe_92 : decode cX10_canBe 92 = .ok (.goto (-26), 3) := by decide +kernel
theorem dX10_canBe_95 : decode cX10_canBe 95 = .ok (.iconst 1, 1) := by decide +kernel
theorem dX10_canBe_96 : decode cX10_canBe 96 = .ok (.ireturn, 1) := by decide +kernel
set_option maxRecDepth 20000 in
theorem bX10_canBe_0 {G : Gx} {mm : Nat → Nat → Int32} {lm : Nat → Int64} {x1 : Int32} {o : Ou} {z : Wd} {a b : Nat} (hw : ∃ (m3 : Nat → Nat → Int32), Ct G M_X10_layOut [.ref 63, .int x1] (SH, mm, lm) false (.inl none) (SH, m3, lm) false 0 0 ∧ J G M_X10_canBe 7 [(0, .ref 63), (2, .int 0)] [] (SH, m3, lm) false o z false a b) :
    J G M_X10_canBe 0 [(0, .ref 63), (1, .int x1)] [] (SH, mm, lm) false o z false a b := by
  refine J_aload_n rfl (i := 0) rfl dX10_canBe_0 ?_
  refine J_iload_n rfl (i := 1) rfl dX10_canBe_1 ?_
  obtain ⟨m3, hc1, hw⟩ := hw
  refine J_callV (as := [.int x1]) (k := 63) (st := []) cal_X10_layOut cai_X10_layOut gw_1798 ⟨by decide, by decide⟩ cnt_X10_layOut sh_63 rfl rfl (Nat.le_of_ble_eq_true rfl) dX10_canBe_2 (Nat.zero_add _).symm (Nat.zero_add _).symm hc1 ?_
  refine J_iconst (v := 0) (by decide) dX10_canBe_5 ?_
  refine J_istore_n [(2, .int 0), (0, .ref 63), (1, .int x1)] rfl (i := 2) (by decide) rfl dX10_canBe_6 ?_
  exact J_sub [1, 0] rfl hw
set_option maxRecDepth 20000 in
theorem bX10_canBe_7 {G : Gx} {mm : Nat → Nat → Int32} {lm : Nat → Int64} {x2 : Int32} {o : Ou} {z : Wd} {a b : Nat} (hw : (((mm 63 8) ≤ x2) → J G M_X10_canBe 66 [(0, .ref 63), (2, .int 0)] [] (SH, mm, lm) false o z false a b) ∧ ((¬ (mm 63 8) ≤ x2) → ∃ j1 : Nat, x2 = nI j1 ∧ j1 < 8 ∧ (((mm 78 j1) ≤ 0) → J G M_X10_canBe 36 [(0, .ref 63), (2, .int x2), (3, .int 0)] [] (SH, mm, lm) false o z false a b) ∧ ((¬ (mm 78 j1) ≤ 0) → ∃ (v3 : Int32), Ct G M_X10_isPlaced [.ref 63, .int x2] (SH, mm, lm) false (.inl (some (.int v3))) (SH, mm, lm) false 0 0 ∧ ((¬ v3 = 0) → J G M_X10_canBe 36 [(0, .ref 63), (2, .int x2), (3, .int 0)] [] (SH, mm, lm) false o z false a b) ∧ ((v3 = 0) → o = .inl (some (.int 0)) ∧ z = (SH, mm, lm))))) :
    J G M_X10_canBe 7 [(0, .ref 63), (2, .int x2)] [] (SH, mm, lm) false o z false a b := by
  refine J_iload_n rfl (i := 2) rfl dX10_canBe_7 ?_
  refine J_aload_n rfl (i := 0) rfl dX10_canBe_8 ?_
  refine J_geti kls_10 (q := 63) (k := 8) sh_63 (by decide) rfl gw_1441 dX10_canBe_9 ?_
  refine J_icmp_ge (tgt := 64) dX10_canBe_12 (by decide) (fun hb7 => ?_) (fun hb7 => ?_)
  · replace hw := hw.1 hb7
    refine J_iconst (v := 0) (by decide) dX10_canBe_64 ?_
    refine J_istore_n [(2, .int 0), (0, .ref 63)] rfl (i := 2) (by decide) rfl dX10_canBe_65 ?_
    exact J_sub [1, 0] rfl hw
  · replace hw := hw.2 hb7
    refine J_aload_n rfl (i := 0) rfl dX10_canBe_15 ?_
    refine J_getr kls_10 (q := 63) (k := 34) sh_63 (by decide) rfl gw_1467 dX10_canBe_16 ?_
    refine J_iload_n rfl (i := 2) rfl dX10_canBe_19 ?_
    obtain ⟨j1, ej1, hj1, hw⟩ := hw
    refine J_iald sh_78 ej1 hj1 (by decide) dX10_canBe_20 ?_
    refine J_if_le (tgt := 34) dX10_canBe_21 (by decide) (fun hb6 => ?_) (fun hb6 => ?_)
    · replace hw := hw.1 hb6
      refine J_iconst (v := 0) (by decide) dX10_canBe_34 ?_
      refine J_istore_n [(3, .int 0), (0, .ref 63), (2, .int x2)] rfl (i := 3) (by decide) rfl dX10_canBe_35 ?_
      exact J_sub [1, 2, 0] rfl hw
    · replace hw := hw.2 hb6
      refine J_aload_n rfl (i := 0) rfl dX10_canBe_24 ?_
      refine J_iload_n rfl (i := 2) rfl dX10_canBe_25 ?_
      obtain ⟨v3, hc2, hw⟩ := hw
      refine J_callV (as := [.int x2]) (k := 63) (st := []) cal_X10_isPlaced cai_X10_isPlaced gw_1806 ⟨by decide, by decide⟩ cnt_X10_isPlaced sh_63 rfl rfl (Nat.le_of_ble_eq_true rfl) dX10_canBe_26 (Nat.zero_add _).symm (Nat.zero_add _).symm hc2 ?_
      refine J_if_ne (tgt := 34) dX10_canBe_29 (by decide) (fun hb5 => ?_) (fun hb5 => ?_)
      · replace hw := hw.1 hb5
        refine J_iconst (v := 0) (by decide) dX10_canBe_34 ?_
        refine J_istore_n [(3, .int 0), (0, .ref 63), (2, .int x2)] rfl (i := 3) (by decide) rfl dX10_canBe_35 ?_
        exact J_sub [1, 2, 0] rfl hw
      · replace hw := hw.2 hb5
        refine J_iconst (v := 0) (by decide) dX10_canBe_32 ?_
        exact J_fini (ty := .boolean) rfl rfl dX10_canBe_33 hw
set_option maxRecDepth 20000 in
theorem bX10_canBe_36 {G : Gx} {mm : Nat → Nat → Int32} {lm : Nat → Int64} {x2 : Int32} {x3 : Int32} {o : Ou} {z : Wd} {a b : Nat} (hw : ((x2 ≤ x3) → J G M_X10_canBe 7 [(0, .ref 63), (2, .int (x2 + 1))] [] (SH, mm, lm) false o z false a b) ∧ ((¬ x2 ≤ x3) → ∃ (v2 : Int32), Ct G M_X10_areClear [.ref 63, .int x2, .int x3] (SH, mm, lm) false (.inl (some (.int v2))) (SH, mm, lm) false 0 0 ∧ ((¬ v2 = 0) → J G M_X10_canBe 36 [(0, .ref 63), (2, .int x2), (3, .int (x3 + 1))] [] (SH, mm, lm) false o z false a b) ∧ ((v2 = 0) → o = .inl (some (.int 0)) ∧ z = (SH, mm, lm)))) :
    J G M_X10_canBe 36 [(0, .ref 63), (2, .int x2), (3, .int x3)] [] (SH, mm, lm) false o z false a b := by
  refine J_iload_n rfl (i := 3) rfl dX10_canBe_36 ?_
  refine J_iload_n rfl (i := 2) rfl dX10_canBe_37 ?_
  refine J_icmp_ge (tgt := 58) dX10_canBe_38 (by decide) (fun hb5 => ?_) (fun hb5 => ?_)
  · replace hw := hw.1 hb5
    refine J_iinc [(2, .int (x2 + 1)), (0, .ref 63), (3, .int x3)] (i := 2) (v := (x2 + 1)) rfl rfl (by decide) rfl dX10_canBe_58 ?_
    refine J_goto (tgt := 7) dX10_canBe_61 (by decide) ?_
    exact J_sub [1, 0] rfl hw
  · replace hw := hw.2 hb5
    refine J_aload_n rfl (i := 0) rfl dX10_canBe_41 ?_
    refine J_iload_n rfl (i := 2) rfl dX10_canBe_42 ?_
    refine J_iload_n rfl (i := 3) rfl dX10_canBe_43 ?_
    obtain ⟨v2, hc1, hw⟩ := hw
    refine J_callV (as := [.int x2, .int x3]) (k := 63) (st := []) cal_X10_areClear cai_X10_areClear gw_1802 ⟨by decide, by decide⟩ cnt_X10_areClear sh_63 rfl rfl (Nat.le_of_ble_eq_true rfl) dX10_canBe_44 (Nat.zero_add _).symm (Nat.zero_add _).symm hc1 ?_
    refine J_if_ne (tgt := 52) dX10_canBe_47 (by decide) (fun hb4 => ?_) (fun hb4 => ?_)
    · replace hw := hw.1 hb4
      refine J_iinc [(3, .int (x3 + 1)), (0, .ref 63), (2, .int x2)] (i := 3) (v := (x3 + 1)) rfl rfl (by decide) rfl dX10_canBe_52 ?_
      refine J_goto (tgt := 36) dX10_canBe_55 (by decide) ?_
      exact J_sub [1, 2, 0] rfl hw
    · replace hw := hw.2 hb4
      refine J_iconst (v := 0) (by decide) dX10_canBe_50 ?_
      exact J_fini (ty := .boolean) rfl rfl dX10_canBe_51 hw
set_option maxRecDepth 20000 in
theorem bX10_canBe_66 {G : Gx} {mm : Nat → Nat → Int32} {lm : Nat → Int64} {x2 : Int32} {o : Ou} {z : Wd} {a b : Nat} (hw : (((mm 63 5) ≤ x2) → o = .inl (some (.int 1)) ∧ z = (SH, mm, lm)) ∧ ((¬ (mm 63 5) ≤ x2) → ∃ (v2 : Int32), Ct G M_X10_torqueLaid [.ref 63, .int x2] (SH, mm, lm) false (.inl (some (.int v2))) (SH, mm, lm) false 0 0 ∧ ∃ (v5 : Int32), Ct G M_X10_isBalanced [.ref 63, .int x2, .int v2] (SH, mm, lm) false (.inl (some (.int v5))) (SH, mm, lm) false 0 0 ∧ ((¬ v5 = 0) → J G M_X10_canBe 66 [(0, .ref 63), (2, .int (x2 + 1))] [] (SH, mm, lm) false o z false a b) ∧ ((v5 = 0) → o = .inl (some (.int 0)) ∧ z = (SH, mm, lm)))) :
    J G M_X10_canBe 66 [(0, .ref 63), (2, .int x2)] [] (SH, mm, lm) false o z false a b := by
  refine J_iload_n rfl (i := 2) rfl dX10_canBe_66 ?_
  refine J_aload_n rfl (i := 0) rfl dX10_canBe_67 ?_
  refine J_geti kls_10 (q := 63) (k := 5) sh_63 (by decide) rfl gw_1438 dX10_canBe_68 ?_
  refine J_icmp_ge (tgt := 95) dX10_canBe_71 (by decide) (fun hb8 => ?_) (fun hb8 => ?_)
  · replace hw := hw.1 hb8
    refine J_iconst (v := 1) (by decide) dX10_canBe_95 ?_
    exact J_fini (ty := .boolean) rfl rfl dX10_canBe_96 hw
  · replace hw := hw.2 hb8
    refine J_aload_n rfl (i := 0) rfl dX10_canBe_74 ?_
    refine J_iload_n rfl (i := 2) rfl dX10_canBe_75 ?_
    refine J_aload_n rfl (i := 0) rfl dX10_canBe_76 ?_
    refine J_iload_n rfl (i := 2) rfl dX10_canBe_77 ?_
    obtain ⟨v2, hc1, hw⟩ := hw
    refine J_callV (as := [.int x2]) (k := 63) (st := [.int x2, .ref 63]) cal_X10_torqueLaid cai_X10_torqueLaid gw_1814 ⟨by decide, by decide⟩ cnt_X10_torqueLaid sh_63 rfl rfl (Nat.le_of_ble_eq_true rfl) dX10_canBe_78 (Nat.zero_add _).symm (Nat.zero_add _).symm hc1 ?_
    obtain ⟨v5, hc4, hw⟩ := hw
    refine J_callV (as := [.int x2, .int v2]) (k := 63) (st := []) cal_X10_isBalanced cai_X10_isBalanced gw_1703 ⟨by decide, by decide⟩ cnt_X10_isBalanced sh_63 rfl rfl (Nat.le_of_ble_eq_true rfl) dX10_canBe_81 (Nat.zero_add _).symm (Nat.zero_add _).symm hc4 ?_
    refine J_if_ne (tgt := 89) dX10_canBe_84 (by decide) (fun hb7 => ?_) (fun hb7 => ?_)
    · replace hw := hw.1 hb7
      refine J_iinc [(2, .int (x2 + 1)), (0, .ref 63)] (i := 2) (v := (x2 + 1)) rfl rfl (by decide) rfl dX10_canBe_89 ?_
      refine J_goto (tgt := 66) dX10_canBe_92 (by decide) ?_
      exact J_sub [1, 0] rfl hw
    · replace hw := hw.2 hb7
      refine J_iconst (v := 0) (by decide) dX10_canBe_87 ?_
      exact J_fini (ty := .boolean) rfl rfl dX10_canBe_88 hw
theorem dX10_isAtGoal_0 : decode cX10_isAtGoal 0 = .ok (.aload_n 0, 1) := by decide +kernel
theorem dX10_isAtGoal_1 : decode cX10_isAtGoal 1 = .ok (.iload_n 1, 1) := by decide +kernel
theorem dX10_isAtGoal_2 : decode cX10_isAtGoal 2 = .ok (.iconst 2, 1) := by decide +kernel
theorem dX10_isAtGoal_3 : decode cX10_isAtGoal 3 = .ok (.invokevirtual 229, 3) := by decide +kernel
theorem dX10_isAtGoal_6 : decode cX10_isAtGoal 6 = .ok (.ifCond .ge 31, 3) := by decide +kernel
theorem dX10_isAtGoal_9 : decode cX10_isAtGoal 9 = .ok (.aload_n 0, 1) := by decide +kernel
theorem dX10_isAtGoal_10 : decode cX10_isAtGoal 10 = .ok (.getfield 56, 3) := by decide +kernel
theorem dX10_isAtGoal_13 : decode cX10_isAtGoal 13 = .ok (.iload_n 1, 1) := by decide +kernel
theorem dX10_isAtGoal_14 : decode cX10_isAtGoal 14 = .ok (.iaload, 1) := by decide +kernel
theorem dX10_isAtGoal_15 : decode cX10_isAtGoal 15 = .ok (.aload_n 0, 1) := by decide +kernel
theorem dX10_isAtGoal_16 : decode cX10_isAtGoal 16 = .ok (.iload_n 1, 1) := by decide +kernel
theorem dX10_isAtGoal_17 : decode cX10_isAtGoal 17 = .ok (.invokevirtual 244, 3) := by decide +kernel
theorem dX10_isAtGoal_20 : decode cX10_isAtGoal 20 = .ok (.ifCond .eq 7, 3) := by decide +kernel
theorem dX10_isAtGoal_23 : decode cX10_isAtGoal 23 = .ok (.iconst 1, 1) := by decide +kernel
theorem dX10_isAtGoal_24 : decode cX10_isAtGoal 24 = .ok (.goto 4, 3) := by decide +kernel
theorem dX10_isAtGoal_27 : decode cX10_isAtGoal 27 = .ok (.iconst 0, 1) := by decide +kernel
theorem dX10_isAtGoal_28 : decode cX10_isAtGoal 28 = .ok (.if_icmp .ne 7, 3) := by decide +kernel
theorem dX10_isAtGoal_31 : decode cX10_isAtGoal 31 = .ok (.iconst 1, 1) := by decide +kernel
theorem dX10_isAtGoal_32 : decode cX10_isAtGoal 32 = .ok (.goto 4, 3) := by decide +kernel
theorem dX10_isAtGoal_35 : decode cX10_isAtGoal 35 = .ok (.iconst 0, 1) := by decide +kernel
theorem dX10_isAtGoal_36 : decode cX10_isAtGoal 36 = .ok (.ireturn, 1) := by decide +kernel
theorem dX10_isAtGoal_37 : decode cX10_isAtGoal 37 = .ok (.aload_n 0, 1) := by decide +kernel
theorem dX10_isAtGoal_38 : decode cX10_isAtGoal 38 = .ok (.getfield 53, 3) := by decide +kernel
theorem dX10_isAtGoal_41 : decode cX10_isAtGoal 41 = .ok (.iload_n 1, 1) := by decide +kernel
theorem dX10_isAtGoal_42 : decode cX10_isAtGoal 42 = .ok (.iaload, 1) := by decide +kernel
theorem dX10_isAtGoal_43 : decode cX10_isAtGoal 43 = .ok (.aload_n 0, 1) := by decide +kernel
theorem dX10_isAtGoal_44 : decode cX10_isAtGoal 44 = .ok (.iload_n 1, 1) := by decide +kernel
theorem dX10_isAtGoal_45 : decode cX10_isAtGoal 45 = .ok (.iconst 2, 1) := by decide +kernel
theorem dX10_isAtGoal_46 : decode cX10_isAtGoal 46 = .ok (.invokevirtual 229, 3) := by decide +kernel
theorem dX10_isAtGoal_49 : decode cX10_isAtGoal 49 = .ok (.if_icmp .ne 22, 3) := by decide +kernel
theorem dX10_isAtGoal_52 : decode cX10_isAtGoal 52 = .ok (.aload_n 0, 1) := by decide +kernel
theorem dX10_isAtGoal_53 : decode cX10_isAtGoal 53 = .ok (.getfield 50, 3) := by decide +kernel
theorem dX10_isAtGoal_56 : decode cX10_isAtGoal 56 = .ok (.iload_n 1, 1) := by decide +kernel
theorem dX10_isAtGoal_57 : decode cX10_isAtGoal 57 = .ok (.iaload, 1) := by decide +kernel
theorem dX10_isAtGoal_58 : decode cX10_isAtGoal 58 = .ok (.aload_n 0, 1) := by decide +kernel
theorem dX10_isAtGoal_59 : decode cX10_isAtGoal 59 = .ok (.iload_n 1, 1) := by decide +kernel
theorem dX10_isAtGoal_60 : decode cX10_isAtGoal 60 = .ok (.iconst 3, 1) := by decide +kernel
theorem dX10_isAtGoal_61 : decode cX10_isAtGoal 61 = .ok (.invokevirtual 229, 3) := by decide +kernel
theorem dX10_isAtGoal_64 : decode cX10_isAtGoal 64 = .ok (.if_icmp .ne 7, 3) := by decide +kernel
theorem dX10_isAtGoal_67 : decode cX10_isAtGoal 67 = .ok (.iconst 1, 1) := by decide +kernel
theorem dX10_isAtGoal_68 : decode cX10_isAtGoal 68 = .ok (.goto 4, 3) := by decide +kernel
theorem dX10_isAtGoal_71 : decode cX10_isAtGoal 71 = .ok (.iconst 0, 1) := by decide +kernel
theorem dX10_isAtGoal_72 : decode cX10_isAtGoal 72 = .ok (.ireturn, 1) := by decide +kernel
set_option maxRecDepth 20000 in
theorem bX10_isAtGoal_0 {G : Gx} {mm : Nat → Nat → Int32} {lm : Nat → Int64} {x1 : Int32} {o : Ou} {z : Wd} {a b : Nat} (hw : ∃ (v2 : Int32), Ct G M_X10_of [.ref 63, .int x1, .int 2] (SH, mm, lm) false (.inl (some (.int v2))) (SH, mm, lm) false 0 0 ∧ ((0 ≤ v2) → ∃ j4 : Nat, x1 = nI j4 ∧ j4 < 8 ∧ ∃ (v6 : Int32), Ct G M_X10_of [.ref 63, .int x1, .int 2] (SH, mm, lm) false (.inl (some (.int v6))) (SH, mm, lm) false 0 0 ∧ ((¬ (mm 77 j4) = v6) → o = .inl (some (.int 0)) ∧ z = (SH, mm, lm)) ∧ (((mm 77 j4) = v6) → ∃ j8 : Nat, x1 = nI j8 ∧ j8 < 8 ∧ ∃ (v10 : Int32), Ct G M_X10_of [.ref 63, .int x1, .int 3] (SH, mm, lm) false (.inl (some (.int v10))) (SH, mm, lm) false 0 0 ∧ ((¬ (mm 76 j8) = v10) → o = .inl (some (.int 0)) ∧ z = (SH, mm, lm)) ∧ (((mm 76 j8) = v10) → o = .inl (some (.int 1)) ∧ z = (SH, mm, lm)))) ∧ ((¬ 0 ≤ v2) → ∃ j14 : Nat, x1 = nI j14 ∧ j14 < 8 ∧ ∃ (v16 : Int32), Ct G M_X10_hangs [.ref 63, .int x1] (SH, mm, lm) false (.inl (some (.int v16))) (SH, mm, lm) false 0 0 ∧ ((v16 = 0) → ((¬ (mm 78 j14) = 0) → o = .inl (some (.int 0)) ∧ z = (SH, mm, lm)) ∧ (((mm 78 j14) = 0) → o = .inl (some (.int 1)) ∧ z = (SH, mm, lm))) ∧ ((¬ v16 = 0) → ((¬ (mm 78 j14) = 1) → o = .inl (some (.int 0)) ∧ z = (SH, mm, lm)) ∧ (((mm 78 j14) = 1) → o = .inl (some (.int 1)) ∧ z = (SH, mm, lm))))) :
    J G M_X10_isAtGoal 0 [(0, .ref 63), (1, .int x1)] [] (SH, mm, lm) false o z false a b := by
  refine J_aload_n rfl (i := 0) rfl dX10_isAtGoal_0 ?_
  refine J_iload_n rfl (i := 1) rfl dX10_isAtGoal_1 ?_
  refine J_iconst (v := 2) (by decide) dX10_isAtGoal_2 ?_
  obtain ⟨v2, hc1, hw⟩ := hw
  refine J_callV (as := [.int x1, .int 2]) (k := 63) (st := []) cal_X10_of cai_X10_of gw_1688 ⟨by decide, by decide⟩ cnt_X10_of sh_63 rfl rfl (Nat.le_of_ble_eq_true rfl) dX10_isAtGoal_3 (Nat.zero_add _).symm (Nat.zero_add _).symm hc1 ?_
  refine J_if_ge (tgt := 37) dX10_isAtGoal_6 (by decide) (fun hb21 => ?_) (fun hb21 => ?_)
  · replace hw := hw.1 hb21
    refine J_aload_n rfl (i := 0) rfl dX10_isAtGoal_37 ?_
    refine J_getr kls_10 (q := 63) (k := 33) sh_63 (by decide) rfl gw_1466 dX10_isAtGoal_38 ?_
    refine J_iload_n rfl (i := 1) rfl dX10_isAtGoal_41 ?_
    obtain ⟨j4, ej4, hj4, hw⟩ := hw
    refine J_iald sh_77 ej4 hj4 (by decide) dX10_isAtGoal_42 ?_
    refine J_aload_n rfl (i := 0) rfl dX10_isAtGoal_43 ?_
    refine J_iload_n rfl (i := 1) rfl dX10_isAtGoal_44 ?_
    refine J_iconst (v := 2) (by decide) dX10_isAtGoal_45 ?_
    obtain ⟨v6, hc5, hw⟩ := hw
    refine J_callV (as := [.int x1, .int 2]) (k := 63) (st := [.int (mm 77 j4)]) cal_X10_of cai_X10_of gw_1688 ⟨by decide, by decide⟩ cnt_X10_of sh_63 rfl rfl (Nat.le_of_ble_eq_true rfl) dX10_isAtGoal_46 (Nat.zero_add _).symm (Nat.zero_add _).symm hc5 ?_
    refine J_icmp_ne (tgt := 71) dX10_isAtGoal_49 (by decide) (fun hb13 => ?_) (fun hb13 => ?_)
    · replace hw := hw.1 hb13
      refine J_iconst (v := 0) (by decide) dX10_isAtGoal_71 ?_
      exact J_fini (ty := .boolean) rfl rfl dX10_isAtGoal_72 hw
    · replace hw := hw.2 hb13
      refine J_aload_n rfl (i := 0) rfl dX10_isAtGoal_52 ?_
      refine J_getr kls_10 (q := 63) (k := 32) sh_63 (by decide) rfl gw_1465 dX10_isAtGoal_53 ?_
      refine J_iload_n rfl (i := 1) rfl dX10_isAtGoal_56 ?_
      obtain ⟨j8, ej8, hj8, hw⟩ := hw
      refine J_iald sh_76 ej8 hj8 (by decide) dX10_isAtGoal_57 ?_
      refine J_aload_n rfl (i := 0) rfl dX10_isAtGoal_58 ?_
      refine J_iload_n rfl (i := 1) rfl dX10_isAtGoal_59 ?_
      refine J_iconst (v := 3) (by decide) dX10_isAtGoal_60 ?_
      obtain ⟨v10, hc9, hw⟩ := hw
      refine J_callV (as := [.int x1, .int 3]) (k := 63) (st := [.int (mm 76 j8)]) cal_X10_of cai_X10_of gw_1688 ⟨by decide, by decide⟩ cnt_X10_of sh_63 rfl rfl (Nat.le_of_ble_eq_true rfl) dX10_isAtGoal_61 (Nat.zero_add _).symm (Nat.zero_add _).symm hc9 ?_
      refine J_icmp_ne (tgt := 71) dX10_isAtGoal_64 (by decide) (fun hb12 => ?_) (fun hb12 => ?_)
      · replace hw := hw.1 hb12
        refine J_iconst (v := 0) (by decide) dX10_isAtGoal_71 ?_
        exact J_fini (ty := .boolean) rfl rfl dX10_isAtGoal_72 hw
      · replace hw := hw.2 hb12
        refine J_iconst (v := 1) (by decide) dX10_isAtGoal_67 ?_
        refine J_goto (tgt := 72) dX10_isAtGoal_68 (by decide) ?_
        exact J_fini (ty := .boolean) rfl rfl dX10_isAtGoal_72 hw
  · replace hw := hw.2 hb21
    refine J_aload_n rfl (i := 0) rfl dX10_isAtGoal_9 ?_
    refine J_getr kls_10 (q := 63) (k := 34) sh_63 (by decide) rfl gw_1467 dX10_isAtGoal_10 ?_
    refine J_iload_n rfl (i := 1) rfl dX10_isAtGoal_13 ?_
    obtain ⟨j14, ej14, hj14, hw⟩ := hw
    refine J_iald sh_78 ej14 hj14 (by decide) dX10_isAtGoal_14 ?_
    refine J_aload_n rfl (i := 0) rfl dX10_isAtGoal_15 ?_
    refine J_iload_n rfl (i := 1) rfl dX10_isAtGoal_16 ?_
    obtain ⟨v16, hc15, hw⟩ := hw
    refine J_callV (as := [.int x1]) (k := 63) (st := [.int (mm 78 j14)]) cal_X10_hangs cai_X10_hangs gw_1684 ⟨by decide, by decide⟩ cnt_X10_hangs sh_63 rfl rfl (Nat.le_of_ble_eq_true rfl) dX10_isAtGoal_17 (Nat.zero_add _).symm (Nat.zero_add _).symm hc15 ?_
    refine J_if_eq (tgt := 27) dX10_isAtGoal_20 (by decide) (fun hb20 => ?_) (fun hb20 => ?_)
    · replace hw := hw.1 hb20
      refine J_iconst (v := 0) (by decide) dX10_isAtGoal_27 ?_
      refine J_icmp_ne (tgt := 35) dX10_isAtGoal_28 (by decide) (fun hb18 => ?_) (fun hb18 => ?_)
      · replace hw := hw.1 hb18
        refine J_iconst (v := 0) (by decide) dX10_isAtGoal_35 ?_
        exact J_fini (ty := .boolean) rfl rfl dX10_isAtGoal_36 hw
      · replace hw := hw.2 hb18
        refine J_iconst (v := 1) (by decide) dX10_isAtGoal_31 ?_
        refine J_goto (tgt := 36) dX10_isAtGoal_32 (by decide) ?_
        exact J_fini (ty := .boolean) rfl rfl dX10_isAtGoal_36 hw
    · replace hw := hw.2 hb20
      refine J_iconst (v := 1) (by decide) dX10_isAtGoal_23 ?_
      refine J_goto (tgt := 28) dX10_isAtGoal_24 (by decide) ?_
      refine J_icmp_ne (tgt := 35) dX10_isAtGoal_28 (by decide) (fun hb19 => ?_) (fun hb19 => ?_)
      · replace hw := hw.1 hb19
        refine J_iconst (v := 0) (by decide) dX10_isAtGoal_35 ?_
        exact J_fini (ty := .boolean) rfl rfl dX10_isAtGoal_36 hw
      · replace hw := hw.2 hb19
        refine J_iconst (v := 1) (by decide) dX10_isAtGoal_31 ?_
        refine J_goto (tgt := 36) dX10_isAtGoal_32 (by decide) ?_
        exact J_fini (ty := .boolean) rfl rfl dX10_isAtGoal_36 hw
theorem dX10_goal_0 : decode cX10_goal 0 = .ok (.iconst 0, 1) := by decide +kernel
theorem dX10_goal_1 : decode cX10_goal 1 = .ok (.istore_n 1, 1) := by decide +kernel
theorem dX10_goal_2 : decode cX10_goal 2 = .ok (.iconst 1, 1) := by decide +kernel
theorem dX10_goal_3 : decode cX10_goal 3 = .ok (.istore_n 2, 1) := by decide +kernel
theorem dX10_goal_4 : decode cX10_goal 4 = .ok (.iconst 0, 1) := by decide +kernel
theorem dX10_goal_5 : decode cX10_goal 5 = .ok (.istore_n 3, 1) := by decide +kernel
theorem dX10_goal_6 : decode cX10_goal 6 = .ok (.iload_n 3, 1) := by decide +kernel
theorem dX10_goal_7 : decode cX10_goal 7 = .ok (.aload_n 0, 1) := by decide +kernel
theorem dX10_goal_8 : decode cX10_goal 8 = .ok (.getfield 206, 3) := by decide +kernel
theorem dX10_goal_11 : decode cX10_goal 11 = .ok (.if_icmp .ge 44, 3) := by decide +kernel
theorem dX10_goal_14 : decode cX10_goal 14 = .ok (.iload_n 1, 1) := by decide +kernel
theorem dX10_goal_15 : decode cX10_goal 15 = .ok (.iload_n 2, 1) := by decide +kernel
theorem dX10_goal_16 : decode cX10_goal 16 = .ok (.aload_n 0, 1) := by decide +kernel
theorem dX10_goal_17 : decode cX10_goal 17 = .ok (.iload_n 3, 1) := by decide +kernel
theorem dX10_goal_18 : decode cX10_goal 18 = .ok (.iconst 2, 1) := by decide +kernel
theorem dX10_goal_19 : decode cX10_goal 19 = .ok (.invokevirtual 229, 3) := by decide +kernel
theorem dX10_goal_22 : decode cX10_goal 22 = .ok (.ifCond .lt 7, 3) := by decide +kernel
theorem dX10_goal_25 : decode cX10_goal 25 = .ok (.iconst 2, 1) := by decide +kernel
theorem dX10_goal_26 : decode cX10_goal 26 = .ok (.goto 16, 3) := by decide +kernel
theorem dX10_goal_29 : decode cX10_goal 29 = .ok (.aload_n 0, 1) := by decide +kernel
theorem dX10_goal_30 : decode cX10_goal 30 = .ok (.iload_n 3, 1) := by decide +kernel
theorem dX10_goal_31 : decode cX10_goal 31 = .ok (.invokevirtual 244, 3) := by decide +kernel
theorem dX10_goal_34 : decode cX10_goal 34 = .ok (.ifCond .eq 7, 3) := by decide +kernel
theorem dX10_goal_37 : decode cX10_goal 37 = .ok (.iconst 1, 1) := by decide +kernel
theorem dX10_goal_38 : decode cX10_goal 38 = .ok (.goto 4, 3) := by decide +kernel
theorem dX10_goal_41 : decode cX10_goal 41 = .ok (.iconst 0, 1) := by decide +kernel
theorem dX10_goal_42 : decode cX10_goal 42 = .ok (.imul, 1) := by decide +kernel
theorem dX10_goal_43 : decode cX10_goal 43 = .ok (.iadd, 1) := by decide +kernel
theorem dX10_goal_44 : decode cX10_goal 44 = .ok (.istore_n 1, 1) := by decide +kernel
theorem dX10_goal_45 : decode cX10_goal 45 = .ok (.iload_n 2, 1) := by decide +kernel
theorem dX10_goal_46 : decode cX10_goal 46 = .ok (.iconst 3, 1) := by decide +kernel
theorem dX10_goal_47 : decode cX10_goal 47 = .ok (.imul, 1) := by decide +kernel
theorem dX10_goal_48 : decode cX10_goal 48 = .ok (.istore_n 2, 1) := by decide +kernel
theorem dX10_goal_49 : decode cX10_goal 49 = .ok (.iinc 3 1, 3) := by decide +kernel
theorem dX10_goal_52 : decode cX10_goal 52 = .ok (.goto (-46), 3) := by decide +kernel
theorem dX10_goal_55 : decode cX10_goal 55 = .ok (.iload_n 1, 1) := by decide +kernel
theorem dX10_goal_56 : decode cX10_goal 56 = .ok (.ireturn, 1) := by decide +kernel
set_option maxRecDepth 20000 in
theorem bX10_goal_0 {G : Gx} {mm : Nat → Nat → Int32} {lm : Nat → Int64}  {o : Ou} {z : Wd} {a b : Nat} (hw : J G M_X10_goal 6 [(0, .ref 63), (1, .int 0), (2, .int 1), (3, .int 0)] [] (SH, mm, lm) false o z false a b) :
    J G M_X10_goal 0 [(0, .ref 63)] [] (SH, mm, lm) false o z false a b := by
  refine J_iconst (v := 0) (by decide) dX10_goal_0 ?_
  refine J_istore_n [(1, .int 0), (0, .ref 63)] rfl (i := 1) (by decide) rfl dX10_goal_1 ?_
  refine J_iconst (v := 1) (by decide) dX10_goal_2 ?_
  refine J_istore_n [(2, .int 1), (1, .int 0), (0, .ref 63)] rfl (i := 2) (by decide) rfl dX10_goal_3 ?_
  refine J_iconst (v := 0) (by decide) dX10_goal_4 ?_
  refine J_istore_n [(3, .int 0), (2, .int 1), (1, .int 0), (0, .ref 63)] rfl (i := 3) (by decide) rfl dX10_goal_5 ?_
  exact J_sub [3, 2, 1, 0] rfl hw
set_option maxRecDepth 20000 in
theorem bX10_goal_6 {G : Gx} {mm : Nat → Nat → Int32} {lm : Nat → Int64} {x1 : Int32} {x2 : Int32} {x3 : Int32} {o : Ou} {z : Wd} {a b : Nat} (hw : (((mm 63 8) ≤ x3) → o = .inl (some (.int x1)) ∧ z = (SH, mm, lm)) ∧ ((¬ (mm 63 8) ≤ x3) → ∃ (v2 : Int32), Ct G M_X10_of [.ref 63, .int x3, .int 2] (SH, mm, lm) false (.inl (some (.int v2))) (SH, mm, lm) false 0 0 ∧ ((v2 < 0) → ∃ (v5 : Int32), Ct G M_X10_hangs [.ref 63, .int x3] (SH, mm, lm) false (.inl (some (.int v5))) (SH, mm, lm) false 0 0 ∧ ((v5 = 0) → J G M_X10_goal 6 [(0, .ref 63), (1, .int (x1 + (x2 * 0))), (2, .int (x2 * 3)), (3, .int (x3 + 1))] [] (SH, mm, lm) false o z false a b) ∧ ((¬ v5 = 0) → J G M_X10_goal 6 [(0, .ref 63), (1, .int (x1 + (x2 * 1))), (2, .int (x2 * 3)), (3, .int (x3 + 1))] [] (SH, mm, lm) false o z false a b)) ∧ ((¬ v2 < 0) → J G M_X10_goal 6 [(0, .ref 63), (1, .int (x1 + (x2 * 2))), (2, .int (x2 * 3)), (3, .int (x3 + 1))] [] (SH, mm, lm) false o z false a b))) :
    J G M_X10_goal 6 [(0, .ref 63), (1, .int x1), (2, .int x2), (3, .int x3)] [] (SH, mm, lm) false o z false a b := by
  refine J_iload_n rfl (i := 3) rfl dX10_goal_6 ?_
  refine J_aload_n rfl (i := 0) rfl dX10_goal_7 ?_
  refine J_geti kls_10 (q := 63) (k := 8) sh_63 (by decide) rfl gw_1441 dX10_goal_8 ?_
  refine J_icmp_ge (tgt := 55) dX10_goal_11 (by decide) (fun hb9 => ?_) (fun hb9 => ?_)
  · replace hw := hw.1 hb9
    refine J_iload_n rfl (i := 1) rfl dX10_goal_55 ?_
    exact J_fini (ty := .int) rfl rfl dX10_goal_56 hw
  · replace hw := hw.2 hb9
    refine J_iload_n rfl (i := 1) rfl dX10_goal_14 ?_
    refine J_iload_n rfl (i := 2) rfl dX10_goal_15 ?_
    refine J_aload_n rfl (i := 0) rfl dX10_goal_16 ?_
    refine J_iload_n rfl (i := 3) rfl dX10_goal_17 ?_
    refine J_iconst (v := 2) (by decide) dX10_goal_18 ?_
    obtain ⟨v2, hc1, hw⟩ := hw
    refine J_callV (as := [.int x3, .int 2]) (k := 63) (st := [.int x2, .int x1]) cal_X10_of cai_X10_of gw_1688 ⟨by decide, by decide⟩ cnt_X10_of sh_63 rfl rfl (Nat.le_of_ble_eq_true rfl) dX10_goal_19 (Nat.zero_add _).symm (Nat.zero_add _).symm hc1 ?_
    refine J_if_lt (tgt := 29) dX10_goal_22 (by decide) (fun hb8 => ?_) (fun hb8 => ?_)
    · replace hw := hw.1 hb8
      refine J_aload_n rfl (i := 0) rfl dX10_goal_29 ?_
      refine J_iload_n rfl (i := 3) rfl dX10_goal_30 ?_
      obtain ⟨v5, hc4, hw⟩ := hw
      refine J_callV (as := [.int x3]) (k := 63) (st := [.int x2, .int x1]) cal_X10_hangs cai_X10_hangs gw_1684 ⟨by decide, by decide⟩ cnt_X10_hangs sh_63 rfl rfl (Nat.le_of_ble_eq_true rfl) dX10_goal_31 (Nat.zero_add _).symm (Nat.zero_add _).symm hc4 ?_
      refine J_if_eq (tgt := 41) dX10_goal_34 (by decide) (fun hb7 => ?_) (fun hb7 => ?_)
      · replace hw := hw.1 hb7
        refine J_iconst (v := 0) (by decide) dX10_goal_41 ?_
        refine J_imul dX10_goal_42 ?_
        refine J_iadd dX10_goal_43 ?_
        refine J_istore_n [(1, .int (x1 + (x2 * 0))), (0, .ref 63), (2, .int x2), (3, .int x3)] rfl (i := 1) (by decide) rfl dX10_goal_44 ?_
        refine J_iload_n rfl (i := 2) rfl dX10_goal_45 ?_
        refine J_iconst (v := 3) (by decide) dX10_goal_46 ?_
        refine J_imul dX10_goal_47 ?_
        refine J_istore_n [(2, .int (x2 * 3)), (1, .int (x1 + (x2 * 0))), (0, .ref 63), (3, .int x3)] rfl (i := 2) (by decide) rfl dX10_goal_48 ?_
        refine J_iinc [(3, .int (x3 + 1)), (2, .int (x2 * 3)), (1, .int (x1 + (x2 * 0))), (0, .ref 63)] (i := 3) (v := (x3 + 1)) rfl rfl (by decide) rfl dX10_goal_49 ?_
        refine J_goto (tgt := 6) dX10_goal_52 (by decide) ?_
        exact J_sub [3, 2, 1, 0] rfl hw
      · replace hw := hw.2 hb7
        refine J_iconst (v := 1) (by decide) dX10_goal_37 ?_
        refine J_goto (tgt := 42) dX10_goal_38 (by decide) ?_
        refine J_imul dX10_goal_42 ?_
        refine J_iadd dX10_goal_43 ?_
        refine J_istore_n [(1, .int (x1 + (x2 * 1))), (0, .ref 63), (2, .int x2), (3, .int x3)] rfl (i := 1) (by decide) rfl dX10_goal_44 ?_
        refine J_iload_n rfl (i := 2) rfl dX10_goal_45 ?_
        refine J_iconst (v := 3) (by decide) dX10_goal_46 ?_
        refine J_imul dX10_goal_47 ?_
        refine J_istore_n [(2, .int (x2 * 3)), (1, .int (x1 + (x2 * 1))), (0, .ref 63), (3, .int x3)] rfl (i := 2) (by decide) rfl dX10_goal_48 ?_
        refine J_iinc [(3, .int (x3 + 1)), (2, .int (x2 * 3)), (1, .int (x1 + (x2 * 1))), (0, .ref 63)] (i := 3) (v := (x3 + 1)) rfl rfl (by decide) rfl dX10_goal_49 ?_
        refine J_goto (tgt := 6) dX10_goal_52 (by decide) ?_
        exact J_sub [3, 2, 1, 0] rfl hw
    · replace hw := hw.2 hb8
      refine J_iconst (v := 2) (by decide) dX10_goal_25 ?_
      refine J_goto (tgt := 42) dX10_goal_26 (by decide) ?_
      refine J_imul dX10_goal_42 ?_
      refine J_iadd dX10_goal_43 ?_
      refine J_istore_n [(1, .int (x1 + (x2 * 2))), (0, .ref 63), (2, .int x2), (3, .int x3)] rfl (i := 1) (by decide) rfl dX10_goal_44 ?_
      refine J_iload_n rfl (i := 2) rfl dX10_goal_45 ?_
      refine J_iconst (v := 3) (by decide) dX10_goal_46 ?_
      refine J_imul dX10_goal_47 ?_
      refine J_istore_n [(2, .int (x2 * 3)), (1, .int (x1 + (x2 * 2))), (0, .ref 63), (3, .int x3)] rfl (i := 2) (by decide) rfl dX10_goal_48 ?_
      refine J_iinc [(3, .int (x3 + 1)), (2, .int (x2 * 3)), (1, .int (x1 + (x2 * 2))), (0, .ref 63)] (i := 3) (v := (x3 + 1)) rfl rfl (by decide) rfl dX10_goal_49 ?_
      refine J_goto (tgt := 6) dX10_goal_52 (by decide) ?_
      exact J_sub [3, 2, 1, 0] rfl hw
theorem dX10_planConflicts_0 : decode cX10_planConflicts 0 = .ok (.aload_n 0, 1) := by decide +kernel
theorem dX10_planConflicts_1 : decode cX10_planConflicts 1 = .ok (.iconst 1, 1) := by decide +kernel
theorem dX10_planConflicts_2 : decode cX10_planConflicts 2 = .ok (.invokevirtual 221, 3) := by decide +kernel
theorem dX10_planConflicts_5 : decode cX10_planConflicts 5 = .ok (.ifCond .eq 5, 3) := by decide +kernel
theorem dX10_planConflicts_8 : decode cX10_planConflicts 8 = .ok (.iconst 0, 1) := by decide +kernel
theorem dX10_planConflicts_9 : decode cX10_planConflicts 9 = .ok (.ireturn, 1) := by decide +kernel
theorem dX10_planConflicts_10 : decode cX10_planConflicts 10 = .ok (.aload_n 0, 1) := by decide +kernel
theorem dX10_planConflicts_11 : decode cX10_planConflicts 11 = .ok (.aload_n 0, 1) := by decide +kernel
theorem dX10_planConflicts_12 : decode cX10_planConflicts 12 = .ok (.invokevirtual 301, 3) := by decide +kernel
theorem dX10_planConflicts_15 : decode cX10_planConflicts 15 = .ok (.invokevirtual 292, 3) := by decide +kernel
theorem dX10_planConflicts_18 : decode cX10_planConflicts 18 = .ok (.iconst 0, 1) := by decide +kernel
theorem dX10_planConflicts_19 : decode cX10_planConflicts 19 = .ok (.istore_n 1, 1) := by decide +kernel
theorem dX10_planConflicts_20 : decode cX10_planConflicts 20 = .ok (.iconst 0, 1) := by decide +kernel
theorem dX10_planConflicts_21 : decode cX10_planConflicts 21 = .ok (.istore_n 2, 1) := by decide +kernel
theorem dX10_planConflicts_22 : decode cX10_planConflicts 22 = .ok (.iload_n 2, 1) := by decide +kernel
theorem dX10_planConflicts_23 : decode cX10_planConflicts 23 = .ok (.aload_n 0, 1) := by decide +kernel
theorem dX10_planConflicts_24 : decode cX10_planConflicts 24 = .ok (.getfield 206, 3) := by decide +kernel
theorem dX10_planConflicts_27 : decode cX10_planConflicts 27 = .ok (.if_icmp .ge 39, 3) := by decide +kernel
theorem dX10_planConflicts_30 : decode cX10_planConflicts 30 = .ok (.iconst 0, 1) := by decide +kernel
theorem dX10_planConflicts_31 : decode cX10_planConflicts 31 = .ok (.istore_n 3, 1) := by decide +kernel
theorem dX10_planConflicts_32 : decode cX10_planConflicts 32 = .ok (.iload_n 3, 1) := by decide +kernel
theorem dX10_planConflicts_33 : decode cX10_planConflicts 33 = .ok (.iload_n 2, 1) := by decide +kernel
theorem dX10_planConflicts_34 : decode cX10_planConflicts 34 = .ok (.if_icmp .ge 26, 3) := by decide +kernel
theorem dX10_planConflicts_37 : decode cX10_planConflicts 37 = .ok (.iload_n 1, 1) := by decide +kernel
theorem dX10_planConflicts_38 : decode cX10_planConflicts 38 = .ok (.aload_n 0, 1) := by decide +kernel
theorem dX10_planConflicts_39 : decode cX10_planConflicts 39 = .ok (.iload_n 2, 1) := by decide +kernel
theorem dX10_planConflicts_40 : decode cX10_planConflicts 40 = .ok (.iload_n 3, 1) := by decide +kernel
theorem dX10_planConflicts_41 : decode cX10_planConflicts 41 = .ok (.invokevirtual 295, 3) := by decide +kernel
theorem dX10_planConflicts_44 : decode cX10_planConflicts 44 = .ok (.ifCond .eq 7, 3) := by decide +kernel
theorem dX10_planConflicts_47 : decode cX10_planConflicts 47 = .ok (.iconst 0, 1) := by decide +kernel
theorem dX10_planConflicts_48 : decode cX10_planConflicts 48 = .ok (.goto 4, 3) := by decide +kernel
theorem dX10_planConflicts_51 : decode cX10_planConflicts 51 = .ok (.iconst 1, 1) := by decide +kernel
theorem dX10_planConflicts_52 : decode cX10_planConflicts 52 = .ok (.iadd, 1) := by decide +kernel
theorem dX10_planConflicts_53 : decode cX10_planConflicts 53 = .ok (.istore_n 1, 1) := by decide +kernel
theorem dX10_planConflicts_54 : decode cX10_planConflicts 54 = .ok (.iinc 3 1, 3) := by decide +kernel
theorem dX10_planConflicts_57 : decode cX10_planConflicts 57 = .ok (.goto (-25), 3) := by decide +kernel
theorem dX10_planConflicts_60 : decode cX10_planConflicts 60 = .ok (.iinc 2 1, 3) := by decide +kernel
theorem dX10_planConflicts_63 : decode cX10_planConflicts 63 = .ok (.goto (-41), 3) := by decide +kernel
theorem dX10_planConflicts_66 : decode cX10_planConflicts 66 = .ok (.iload_n 1, 1) := by decide +kernel
theorem dX10_planConflicts_67 : decode cX10_planConflicts 67 = .ok (.ireturn, 1) := by decide +kernel
set_option maxRecDepth 20000 in
theorem bX10_planConflicts_0 {G : Gx} {mm : Nat → Nat → Int32} {lm : Nat → Int64}  {o : Ou} {z : Wd} {a b : Nat} (hw : ∃ (v2 : Int32) (m3 : Nat → Nat → Int32), Ct G M_X10_isWrong [.ref 63, .int 1] (SH, mm, lm) false (.inl (some (.int v2))) (SH, m3, lm) false 0 0 ∧ ((v2 = 0) → J G M_X10_planConflicts 10 [(0, .ref 63)] [] (SH, m3, lm) false o z false a b) ∧ ((¬ v2 = 0) → o = .inl (some (.int 0)) ∧ z = (SH, m3, lm))) :
    J G M_X10_planConflicts 0 [(0, .ref 63)] [] (SH, mm, lm) false o z false a b := by
  refine J_aload_n rfl (i := 0) rfl dX10_planConflicts_0 ?_
  refine J_iconst (v := 1) (by decide) dX10_planConflicts_1 ?_
  obtain ⟨v2, m3, hc1, hw⟩ := hw
  refine J_callV (as := [.int 1]) (k := 63) (st := []) cal_X10_isWrong cai_X10_isWrong gw_1663 ⟨by decide, by decide⟩ cnt_X10_isWrong sh_63 rfl rfl (Nat.le_of_ble_eq_true rfl) dX10_planConflicts_2 (Nat.zero_add _).symm (Nat.zero_add _).symm hc1 ?_
  refine J_if_eq (tgt := 10) dX10_planConflicts_5 (by decide) (fun hb4 => ?_) (fun hb4 => ?_)
  · replace hw := hw.1 hb4
    exact hw
  · replace hw := hw.2 hb4
    refine J_iconst (v := 0) (by decide) dX10_planConflicts_8 ?_
    exact J_fini (ty := .int) rfl rfl dX10_planConflicts_9 hw
set_option maxRecDepth 20000 in
theorem bX10_planConflicts_10 {G : Gx} {mm : Nat → Nat → Int32} {lm : Nat → Int64}  {o : Ou} {z : Wd} {a b : Nat} (hw : ∃ (v2 : Int32), Ct G M_X10_goal [.ref 63] (SH, mm, lm) false (.inl (some (.int v2))) (SH, mm, lm) false 0 0 ∧ ∃ (m6 : Nat → Nat → Int32), Ct G M_X10_layOut [.ref 63, .int v2] (SH, mm, lm) false (.inl none) (SH, m6, lm) false 0 0 ∧ J G M_X10_planConflicts 22 [(0, .ref 63), (1, .int 0), (2, .int 0)] [] (SH, m6, lm) false o z false a b) :
    J G M_X10_planConflicts 10 [(0, .ref 63)] [] (SH, mm, lm) false o z false a b := by
  refine J_aload_n rfl (i := 0) rfl dX10_planConflicts_10 ?_
  refine J_aload_n rfl (i := 0) rfl dX10_planConflicts_11 ?_
  obtain ⟨v2, hc1, hw⟩ := hw
  refine J_callV (as := []) (k := 63) (st := [.ref 63]) cal_X10_goal cai_X10_goal gw_1794 ⟨by decide, by decide⟩ cnt_X10_goal sh_63 rfl rfl (Nat.le_of_ble_eq_true rfl) dX10_planConflicts_12 (Nat.zero_add _).symm (Nat.zero_add _).symm hc1 ?_
  obtain ⟨m6, hc4, hw⟩ := hw
  refine J_callV (as := [.int v2]) (k := 63) (st := []) cal_X10_layOut cai_X10_layOut gw_1798 ⟨by decide, by decide⟩ cnt_X10_layOut sh_63 rfl rfl (Nat.le_of_ble_eq_true rfl) dX10_planConflicts_15 (Nat.zero_add _).symm (Nat.zero_add _).symm hc4 ?_
  refine J_iconst (v := 0) (by decide) dX10_planConflicts_18 ?_
  refine J_istore_n [(1, .int 0), (0, .ref 63)] rfl (i := 1) (by decide) rfl dX10_planConflicts_19 ?_
  refine J_iconst (v := 0) (by decide) dX10_planConflicts_20 ?_
  refine J_istore_n [(2, .int 0), (1, .int 0), (0, .ref 63)] rfl (i := 2) (by decide) rfl dX10_planConflicts_21 ?_
  exact J_sub [2, 1, 0] rfl hw
set_option maxRecDepth 20000 in
theorem bX10_planConflicts_22 {G : Gx} {mm : Nat → Nat → Int32} {lm : Nat → Int64} {x1 : Int32} {x2 : Int32} {o : Ou} {z : Wd} {a b : Nat} (hw : (((mm 63 8) ≤ x2) → o = .inl (some (.int x1)) ∧ z = (SH, mm, lm)) ∧ ((¬ (mm 63 8) ≤ x2) → J G M_X10_planConflicts 32 [(0, .ref 63), (1, .int x1), (2, .int x2), (3, .int 0)] [] (SH, mm, lm) false o z false a b)) :
    J G M_X10_planConflicts 22 [(0, .ref 63), (1, .int x1), (2, .int x2)] [] (SH, mm, lm) false o z false a b := by
  refine J_iload_n rfl (i := 2) rfl dX10_planConflicts_22 ?_
  refine J_aload_n rfl (i := 0) rfl dX10_planConflicts_23 ?_
  refine J_geti kls_10 (q := 63) (k := 8) sh_63 (by decide) rfl gw_1441 dX10_planConflicts_24 ?_
  refine J_icmp_ge (tgt := 66) dX10_planConflicts_27 (by decide) (fun hb1 => ?_) (fun hb1 => ?_)
  · replace hw := hw.1 hb1
    refine J_iload_n rfl (i := 1) rfl dX10_planConflicts_66 ?_
    exact J_fini (ty := .int) rfl rfl dX10_planConflicts_67 hw
  · replace hw := hw.2 hb1
    refine J_iconst (v := 0) (by decide) dX10_planConflicts_30 ?_
    refine J_istore_n [(3, .int 0), (0, .ref 63), (1, .int x1), (2, .int x2)] rfl (i := 3) (by decide) rfl dX10_planConflicts_31 ?_
    exact J_sub [1, 2, 3, 0] rfl hw
set_option maxRecDepth 20000 in
theorem bX10_planConflicts_32 {G : Gx} {mm : Nat → Nat → Int32} {lm : Nat → Int64} {x1 : Int32} {x2 : Int32} {x3 : Int32} {o : Ou} {z : Wd} {a b : Nat} (hw : ((x2 ≤ x3) → J G M_X10_planConflicts 22 [(0, .ref 63), (1, .int x1), (2, .int (x2 + 1))] [] (SH, mm, lm) false o z false a b) ∧ ((¬ x2 ≤ x3) → ∃ (v2 : Int32), Ct G M_X10_areClear [.ref 63, .int x2, .int x3] (SH, mm, lm) false (.inl (some (.int v2))) (SH, mm, lm) false 0 0 ∧ ((v2 = 0) → J G M_X10_planConflicts 32 [(0, .ref 63), (1, .int (x1 + 1)), (2, .int x2), (3, .int (x3 + 1))] [] (SH, mm, lm) false o z false a b) ∧ ((¬ v2 = 0) → J G M_X10_planConflicts 32 [(0, .ref 63), (1, .int (x1 + 0)), (2, .int x2), (3, .int (x3 + 1))] [] (SH, mm, lm) false o z false a b))) :
    J G M_X10_planConflicts 32 [(0, .ref 63), (1, .int x1), (2, .int x2), (3, .int x3)] [] (SH, mm, lm) false o z false a b := by
  refine J_iload_n rfl (i := 3) rfl dX10_planConflicts_32 ?_
  refine J_iload_n rfl (i := 2) rfl dX10_planConflicts_33 ?_
  refine J_icmp_ge (tgt := 60) dX10_planConflicts_34 (by decide) (fun hb5 => ?_) (fun hb5 => ?_)
  · replace hw := hw.1 hb5
    refine J_iinc [(2, .int (x2 + 1)), (0, .ref 63), (1, .int x1), (3, .int x3)] (i := 2) (v := (x2 + 1)) rfl rfl (by decide) rfl dX10_planConflicts_60 ?_
    refine J_goto (tgt := 22) dX10_planConflicts_63 (by decide) ?_
    exact J_sub [1, 2, 0] rfl hw
  · replace hw := hw.2 hb5
    refine J_iload_n rfl (i := 1) rfl dX10_planConflicts_37 ?_
    refine J_aload_n rfl (i := 0) rfl dX10_planConflicts_38 ?_
    refine J_iload_n rfl (i := 2) rfl dX10_planConflicts_39 ?_
    refine J_iload_n rfl (i := 3) rfl dX10_planConflicts_40 ?_
    obtain ⟨v2, hc1, hw⟩ := hw
    refine J_callV (as := [.int x2, .int x3]) (k := 63) (st := [.int x1]) cal_X10_areClear cai_X10_areClear gw_1802 ⟨by decide, by decide⟩ cnt_X10_areClear sh_63 rfl rfl (Nat.le_of_ble_eq_true rfl) dX10_planConflicts_41 (Nat.zero_add _).symm (Nat.zero_add _).symm hc1 ?_
    refine J_if_eq (tgt := 51) dX10_planConflicts_44 (by decide) (fun hb4 => ?_) (fun hb4 => ?_)
    · replace hw := hw.1 hb4
      refine J_iconst (v := 1) (by decide) dX10_planConflicts_51 ?_
      refine J_iadd dX10_planConflicts_52 ?_
      refine J_istore_n [(1, .int (x1 + 1)), (0, .ref 63), (2, .int x2), (3, .int x3)] rfl (i := 1) (by decide) rfl dX10_planConflicts_53 ?_
      refine J_iinc [(3, .int (x3 + 1)), (1, .int (x1 + 1)), (0, .ref 63), (2, .int x2)] (i := 3) (v := (x3 + 1)) rfl rfl (by decide) rfl dX10_planConflicts_54 ?_
      refine J_goto (tgt := 32) dX10_planConflicts_57 (by decide) ?_
      exact J_sub [2, 1, 3, 0] rfl hw
    · replace hw := hw.2 hb4
      refine J_iconst (v := 0) (by decide) dX10_planConflicts_47 ?_
      refine J_goto (tgt := 52) dX10_planConflicts_48 (by decide) ?_
      refine J_iadd dX10_planConflicts_52 ?_
      refine J_istore_n [(1, .int (x1 + 0)), (0, .ref 63), (2, .int x2), (3, .int x3)] rfl (i := 1) (by decide) rfl dX10_planConflicts_53 ?_
      refine J_iinc [(3, .int (x3 + 1)), (1, .int (x1 + 0)), (0, .ref 63), (2, .int x2)] (i := 3) (v := (x3 + 1)) rfl rfl (by decide) rfl dX10_planConflicts_54 ?_
      refine J_goto (tgt := 32) dX10_planConflicts_57 (by decide) ?_
      exact J_sub [2, 1, 3, 0] rfl hw
theorem dX10_planUnbalanced_0 : decode cX10_planUnbalanced 0 = .ok (.aload_n 0, 1) := by decide +kernel
theorem dX10_planUnbalanced_1 : decode cX10_planUnbalanced 1 = .ok (.iconst 1, 1) := by decide +kernel
theorem dX10_planUnbalanced_2 : decode cX10_planUnbalanced 2 = .ok (.invokevirtual 221, 3) := by decide +kernel
theorem dX10_planUnbalanced_5 : decode cX10_planUnbalanced 5 = .ok (.ifCond .eq 5, 3) := by decide +kernel
theorem dX10_planUnbalanced_8 : decode cX10_planUnbalanced 8 = .ok (.iconst 0, 1) := by decide +kernel
theorem dX10_planUnbalanced_9 : decode cX10_planUnbalanced 9 = .ok (.ireturn, 1) := by decide +kernel
theorem dX10_planUnbalanced_10 : decode cX10_planUnbalanced 10 = .ok (.aload_n 0, 1) := by decide +kernel
theorem dX10_planUnbalanced_11 : decode cX10_planUnbalanced 11 = .ok (.aload_n 0, 1) := by decide +kernel
theorem dX10_planUnbalanced_12 : decode cX10_planUnbalanced 12 = .ok (.invokevirtual 301, 3) := by decide +kernel
theorem dX10_planUnbalanced_15 : decode cX10_planUnbalanced 15 = .ok (.invokevirtual 292, 3) := by decide +kernel
theorem dX10_planUnbalanced_18 : decode cX10_planUnbalanced 18 = .ok (.iconst 0, 1) := by decide +kernel
theorem dX10_planUnbalanced_19 : decode cX10_planUnbalanced 19 = .ok (.istore_n 1, 1) := by decide +kernel
theorem dX10_planUnbalanced_20 : decode cX10_planUnbalanced 20 = .ok (.iconst 0, 1) := by decide +kernel
theorem dX10_planUnbalanced_21 : decode cX10_planUnbalanced 21 = .ok (.istore_n 2, 1) := by decide +kernel
theorem dX10_planUnbalanced_22 : decode cX10_planUnbalanced 22 = .ok (.iload_n 2, 1) := by decide +kernel
theorem dX10_planUnbalanced_23 : decode cX10_planUnbalanced 23 = .ok (.aload_n 0, 1) := by decide +kernel
theorem dX10_planUnbalanced_24 : decode cX10_planUnbalanced 24 = .ok (.getfield 209, 3) := by decide +kernel
theorem dX10_planUnbalanced_27 : decode cX10_planUnbalanced 27 = .ok (.if_icmp .ge 32, 3) := by decide +kernel
theorem dX10_planUnbalanced_30 : decode cX10_planUnbalanced 30 = .ok (.iload_n 1, 1) := by decide +kernel
theorem dX10_planUnbalanced_31 : decode cX10_planUnbalanced 31 = .ok (.aload_n 0, 1) := by decide +kernel
theorem dX10_planUnbalanced_32 : decode cX10_planUnbalanced 32 = .ok (.iload_n 2, 1) := by decide +kernel
theorem dX10_planUnbalanced_33 : decode cX10_planUnbalanced 33 = .ok (.aload_n 0, 1) := by decide +kernel
theorem dX10_planUnbalanced_34 : decode cX10_planUnbalanced 34 = .ok (.iload_n 2, 1) := by decide +kernel
theorem dX10_planUnbalanced_35 : decode cX10_planUnbalanced 35 = .ok (.invokevirtual 298, 3) := by decide +kernel
theorem dX10_planUnbalanced_38 : decode cX10_planUnbalanced 38 = .ok (.invokevirtual 254, 3) := by decide +kernel
theorem dX10_planUnbalanced_41 : decode cX10_planUnbalanced 41 = .ok (.ifCond .eq 7, 3) := by decide +kernel
theorem dX10_planUnbalanced_44 : decode cX10_planUnbalanced 44 = .ok (.iconst 0, 1) := by decide +kernel
theorem dX10_planUnbalanced_45 : decode cX10_planUnbalanced 45 = .ok (.goto 6, 3) := by decide +kernel
theorem dX10_planUnbalanced_48 : decode cX10_planUnbalanced 48 = .ok (.iconst 1, 1) := by decide +kernel
theorem dX10_planUnbalanced_49 : decode cX10_planUnbalanced 49 = .ok (.iload_n 2, 1) := by decide +kernel
theorem dX10_planUnbalanced_50 : decode cX10_planUnbalanced 50 = .ok (.ishl, 1) := by decide +kernel
theorem dX10_planUnbalanced_51 : decode cX10_planUnbalanced 51 = .ok (.ior, 1) := by decide +kernel
theorem dX10_planUnbalanced_52 : decode cX10_planUnbalanced 52 = .ok (.istore_n 1, 1) := by decide +kernel
theorem dX10_planUnbalanced_53 : decode cX10_planUnbalanced 53 = .ok (.iinc 2 1, 3) := by decide +kernel
theorem dX10_planUnbalanced_56 : decode cX10_planUnbalanced 56 = .ok (.goto (-34), 3) := by decide +kernel
theorem dX10_planUnbalanced_59 : decode cX10_planUnbalanced 59 = .ok (.iload_n 1, 1) := by decide +kernel
theorem dX10_planUnbalanced_60 : decode cX10_planUnbalanced 60 = .ok (.ireturn, 1) := by decide +kernel
set_option maxRecDepth 20000 in
theorem bX10_planUnbalanced_0 {G : Gx} {mm : Nat → Nat → Int32} {lm : Nat → Int64}  {o : Ou} {z : Wd} {a b : Nat} (hw : ∃ (v2 : Int32) (m3 : Nat → Nat → Int32), Ct G M_X10_isWrong [.ref 63, .int 1] (SH, mm, lm) false (.inl (some (.int v2))) (SH, m3, lm) false 0 0 ∧ ((v2 = 0) → J G M_X10_planUnbalanced 10 [(0, .ref 63)] [] (SH, m3, lm) false o z false a b) ∧ ((¬ v2 = 0) → o = .inl (some (.int 0)) ∧ z = (SH, m3, lm))) :
    J G M_X10_planUnbalanced 0 [(0, .ref 63)] [] (SH, mm, lm) false o z false a b := by
  refine J_aload_n rfl (i := 0) rfl dX10_planUnbalanced_0 ?_
  refine J_iconst (v := 1) (by decide) dX10_planUnbalanced_1 ?_
  obtain ⟨v2, m3, hc1, hw⟩ := hw
  refine J_callV (as := [.int 1]) (k := 63) (st := []) cal_X10_isWrong cai_X10_isWrong gw_1663 ⟨by decide, by decide⟩ cnt_X10_isWrong sh_63 rfl rfl (Nat.le_of_ble_eq_true rfl) dX10_planUnbalanced_2 (Nat.zero_add _).symm (Nat.zero_add _).symm hc1 ?_
  refine J_if_eq (tgt := 10) dX10_planUnbalanced_5 (by decide) (fun hb4 => ?_) (fun hb4 => ?_)
  · replace hw := hw.1 hb4
    exact hw
  · replace hw := hw.2 hb4
    refine J_iconst (v := 0) (by decide) dX10_planUnbalanced_8 ?_
    exact J_fini (ty := .int) rfl rfl dX10_planUnbalanced_9 hw
set_option maxRecDepth 20000 in
theorem bX10_planUnbalanced_10 {G : Gx} {mm : Nat → Nat → Int32} {lm : Nat → Int64}  {o : Ou} {z : Wd} {a b : Nat} (hw : ∃ (v2 : Int32), Ct G M_X10_goal [.ref 63] (SH, mm, lm) false (.inl (some (.int v2))) (SH, mm, lm) false 0 0 ∧ ∃ (m6 : Nat → Nat → Int32), Ct G M_X10_layOut [.ref 63, .int v2] (SH, mm, lm) false (.inl none) (SH, m6, lm) false 0 0 ∧ J G M_X10_planUnbalanced 22 [(0, .ref 63), (1, .int 0), (2, .int 0)] [] (SH, m6, lm) false o z false a b) :
    J G M_X10_planUnbalanced 10 [(0, .ref 63)] [] (SH, mm, lm) false o z false a b := by
  refine J_aload_n rfl (i := 0) rfl dX10_planUnbalanced_10 ?_
  refine J_aload_n rfl (i := 0) rfl dX10_planUnbalanced_11 ?_
  obtain ⟨v2, hc1, hw⟩ := hw
  refine J_callV (as := []) (k := 63) (st := [.ref 63]) cal_X10_goal cai_X10_goal gw_1794 ⟨by decide, by decide⟩ cnt_X10_goal sh_63 rfl rfl (Nat.le_of_ble_eq_true rfl) dX10_planUnbalanced_12 (Nat.zero_add _).symm (Nat.zero_add _).symm hc1 ?_
  obtain ⟨m6, hc4, hw⟩ := hw
  refine J_callV (as := [.int v2]) (k := 63) (st := []) cal_X10_layOut cai_X10_layOut gw_1798 ⟨by decide, by decide⟩ cnt_X10_layOut sh_63 rfl rfl (Nat.le_of_ble_eq_true rfl) dX10_planUnbalanced_15 (Nat.zero_add _).symm (Nat.zero_add _).symm hc4 ?_
  refine J_iconst (v := 0) (by decide) dX10_planUnbalanced_18 ?_
  refine J_istore_n [(1, .int 0), (0, .ref 63)] rfl (i := 1) (by decide) rfl dX10_planUnbalanced_19 ?_
  refine J_iconst (v := 0) (by decide) dX10_planUnbalanced_20 ?_
  refine J_istore_n [(2, .int 0), (1, .int 0), (0, .ref 63)] rfl (i := 2) (by decide) rfl dX10_planUnbalanced_21 ?_
  exact J_sub [2, 1, 0] rfl hw
set_option maxRecDepth 20000 in
theorem bX10_planUnbalanced_22 {G : Gx} {mm : Nat → Nat → Int32} {lm : Nat → Int64} {x1 : Int32} {x2 : Int32} {o : Ou} {z : Wd} {a b : Nat} (hw : (((mm 63 5) ≤ x2) → o = .inl (some (.int x1)) ∧ z = (SH, mm, lm)) ∧ ((¬ (mm 63 5) ≤ x2) → ∃ (v2 : Int32), Ct G M_X10_torqueLaid [.ref 63, .int x2] (SH, mm, lm) false (.inl (some (.int v2))) (SH, mm, lm) false 0 0 ∧ ∃ (v5 : Int32), Ct G M_X10_isBalanced [.ref 63, .int x2, .int v2] (SH, mm, lm) false (.inl (some (.int v5))) (SH, mm, lm) false 0 0 ∧ ((v5 = 0) → J G M_X10_planUnbalanced 22 [(0, .ref 63), (1, .int (x1 ||| (1 <<< (x2 &&& 31)))), (2, .int (x2 + 1))] [] (SH, mm, lm) false o z false a b) ∧ ((¬ v5 = 0) → J G M_X10_planUnbalanced 22 [(0, .ref 63), (1, .int (x1 ||| 0)), (2, .int (x2 + 1))] [] (SH, mm, lm) false o z false a b))) :
    J G M_X10_planUnbalanced 22 [(0, .ref 63), (1, .int x1), (2, .int x2)] [] (SH, mm, lm) false o z false a b := by
  refine J_iload_n rfl (i := 2) rfl dX10_planUnbalanced_22 ?_
  refine J_aload_n rfl (i := 0) rfl dX10_planUnbalanced_23 ?_
  refine J_geti kls_10 (q := 63) (k := 5) sh_63 (by decide) rfl gw_1438 dX10_planUnbalanced_24 ?_
  refine J_icmp_ge (tgt := 59) dX10_planUnbalanced_27 (by decide) (fun hb8 => ?_) (fun hb8 => ?_)
  · replace hw := hw.1 hb8
    refine J_iload_n rfl (i := 1) rfl dX10_planUnbalanced_59 ?_
    exact J_fini (ty := .int) rfl rfl dX10_planUnbalanced_60 hw
  · replace hw := hw.2 hb8
    refine J_iload_n rfl (i := 1) rfl dX10_planUnbalanced_30 ?_
    refine J_aload_n rfl (i := 0) rfl dX10_planUnbalanced_31 ?_
    refine J_iload_n rfl (i := 2) rfl dX10_planUnbalanced_32 ?_
    refine J_aload_n rfl (i := 0) rfl dX10_planUnbalanced_33 ?_
    refine J_iload_n rfl (i := 2) rfl dX10_planUnbalanced_34 ?_
    obtain ⟨v2, hc1, hw⟩ := hw
    refine J_callV (as := [.int x2]) (k := 63) (st := [.int x2, .ref 63, .int x1]) cal_X10_torqueLaid cai_X10_torqueLaid gw_1814 ⟨by decide, by decide⟩ cnt_X10_torqueLaid sh_63 rfl rfl (Nat.le_of_ble_eq_true rfl) dX10_planUnbalanced_35 (Nat.zero_add _).symm (Nat.zero_add _).symm hc1 ?_
    obtain ⟨v5, hc4, hw⟩ := hw
    refine J_callV (as := [.int x2, .int v2]) (k := 63) (st := [.int x1]) cal_X10_isBalanced cai_X10_isBalanced gw_1703 ⟨by decide, by decide⟩ cnt_X10_isBalanced sh_63 rfl rfl (Nat.le_of_ble_eq_true rfl) dX10_planUnbalanced_38 (Nat.zero_add _).symm (Nat.zero_add _).symm hc4 ?_
    refine J_if_eq (tgt := 48) dX10_planUnbalanced_41 (by decide) (fun hb7 => ?_) (fun hb7 => ?_)
    · replace hw := hw.1 hb7
      refine J_iconst (v := 1) (by decide) dX10_planUnbalanced_48 ?_
      refine J_iload_n rfl (i := 2) rfl dX10_planUnbalanced_49 ?_
      refine J_ishl dX10_planUnbalanced_50 ?_
      refine J_ior dX10_planUnbalanced_51 ?_
      refine J_istore_n [(1, .int (x1 ||| (1 <<< (x2 &&& 31)))), (0, .ref 63), (2, .int x2)] rfl (i := 1) (by decide) rfl dX10_planUnbalanced_52 ?_
      refine J_iinc [(2, .int (x2 + 1)), (1, .int (x1 ||| (1 <<< (x2 &&& 31)))), (0, .ref 63)] (i := 2) (v := (x2 + 1)) rfl rfl (by decide) rfl dX10_planUnbalanced_53 ?_
      refine J_goto (tgt := 22) dX10_planUnbalanced_56 (by decide) ?_
      exact J_sub [2, 1, 0] rfl hw
    · replace hw := hw.2 hb7
      refine J_iconst (v := 0) (by decide) dX10_planUnbalanced_44 ?_
      refine J_goto (tgt := 51) dX10_planUnbalanced_45 (by decide) ?_
      refine J_ior dX10_planUnbalanced_51 ?_
      refine J_istore_n [(1, .int (x1 ||| 0)), (0, .ref 63), (2, .int x2)] rfl (i := 1) (by decide) rfl dX10_planUnbalanced_52 ?_
      refine J_iinc [(2, .int (x2 + 1)), (1, .int (x1 ||| 0)), (0, .ref 63)] (i := 2) (v := (x2 + 1)) rfl rfl (by decide) rfl dX10_planUnbalanced_53 ?_
      refine J_goto (tgt := 22) dX10_planUnbalanced_56 (by decide) ?_
      exact J_sub [2, 1, 0] rfl hw
theorem dX10_powerOf_0 : decode cX10_powerOf 0 = .ok (.iconst 1, 1) := by decide +kernel
theorem dX10_powerOf_1 : decode cX10_powerOf 1 = .ok (.istore_n 2, 1) := by decide +kernel
theorem dX10_powerOf_2 : decode cX10_powerOf 2 = .ok (.iconst 0, 1) := by decide +kernel
theorem dX10_powerOf_3 : decode cX10_powerOf 3 = .ok (.istore_n 3, 1) := by decide +kernel
theorem dX10_powerOf_4 : decode cX10_powerOf 4 = .ok (.iload_n 3, 1) := by decide +kernel
theorem dX10_powerOf_5 : decode cX10_powerOf 5 = .ok (.iload_n 1, 1) := by decide +kernel
theorem dX10_powerOf_6 : decode cX10_powerOf 6 = .ok (.if_icmp .ge 13, 3) := by decide +kernel
theorem dX10_powerOf_9 : decode cX10_powerOf 9 = .ok (.iload_n 2, 1) := by decide +kernel
theorem dX10_powerOf_10 : decode cX10_powerOf 10 = .ok (.iconst 3, 1) := by decide +kernel
theorem dX10_powerOf_11 : decode cX10_powerOf 11 = .ok (.imul, 1) := by decide +kernel
theorem dX10_powerOf_12 : decode cX10_powerOf 12 = .ok (.istore_n 2, 1) := by decide +kernel
theorem dX10_powerOf_13 : decode cX10_powerOf 13 = .ok (.iinc 3 1, 3) := by decide +kernel
theorem dX10_powerOf_16 : decode cX10_powerOf 16 = .ok (.goto (-12), 3) := by decide +kernel
theorem dX10_powerOf_19 : decode cX10_powerOf 19 = .ok (.iload_n 2, 1) := by decide +kernel
theorem dX10_powerOf_20 : decode cX10_powerOf 20 = .ok (.ireturn, 1) := by decide +kernel
set_option maxRecDepth 20000 in
theorem bX10_powerOf_0 {G : Gx} {mm : Nat → Nat → Int32} {lm : Nat → Int64} {x1 : Int32} {o : Ou} {z : Wd} {a b : Nat} (hw : J G M_X10_powerOf 4 [(1, .int x1), (2, .int 1), (3, .int 0)] [] (SH, mm, lm) false o z false a b) :
    J G M_X10_powerOf 0 [(0, .ref 63), (1, .int x1)] [] (SH, mm, lm) false o z false a b := by
  refine J_iconst (v := 1) (by decide) dX10_powerOf_0 ?_
  refine J_istore_n [(2, .int 1), (0, .ref 63), (1, .int x1)] rfl (i := 2) (by decide) rfl dX10_powerOf_1 ?_
  refine J_iconst (v := 0) (by decide) dX10_powerOf_2 ?_
  refine J_istore_n [(3, .int 0), (2, .int 1), (0, .ref 63), (1, .int x1)] rfl (i := 3) (by decide) rfl dX10_powerOf_3 ?_
  exact J_sub [3, 1, 0] rfl hw
set_option maxRecDepth 20000 in
theorem bX10_powerOf_4 {G : Gx} {mm : Nat → Nat → Int32} {lm : Nat → Int64} {x1 : Int32} {x2 : Int32} {x3 : Int32} {o : Ou} {z : Wd} {a b : Nat} (hw : ((x1 ≤ x3) → o = .inl (some (.int x2)) ∧ z = (SH, mm, lm)) ∧ ((¬ x1 ≤ x3) → J G M_X10_powerOf 4 [(1, .int x1), (2, .int (x2 * 3)), (3, .int (x3 + 1))] [] (SH, mm, lm) false o z false a b)) :
    J G M_X10_powerOf 4 [(1, .int x1), (2, .int x2), (3, .int x3)] [] (SH, mm, lm) false o z false a b := by
  refine J_iload_n rfl (i := 3) rfl dX10_powerOf_4 ?_
  refine J_iload_n rfl (i := 1) rfl dX10_powerOf_5 ?_
  refine J_icmp_ge (tgt := 19) dX10_powerOf_6 (by decide) (fun hb1 => ?_) (fun hb1 => ?_)
  · replace hw := hw.1 hb1
    refine J_iload_n rfl (i := 2) rfl dX10_powerOf_19 ?_
    exact J_fini (ty := .int) rfl rfl dX10_powerOf_20 hw
  · replace hw := hw.2 hb1
    refine J_iload_n rfl (i := 2) rfl dX10_powerOf_9 ?_
    refine J_iconst (v := 3) (by decide) dX10_powerOf_10 ?_
    refine J_imul dX10_powerOf_11 ?_
    refine J_istore_n [(2, .int (x2 * 3)), (1, .int x1), (3, .int x3)] rfl (i := 2) (by decide) rfl dX10_powerOf_12 ?_
    refine J_iinc [(3, .int (x3 + 1)), (2, .int (x2 * 3)), (1, .int x1)] (i := 3) (v := (x3 + 1)) rfl rfl (by decide) rfl dX10_powerOf_13 ?_
    refine J_goto (tgt := 4) dX10_powerOf_16 (by decide) ?_
    exact J_sub [2, 1, 0] rfl hw
theorem dX10_present_0 : decode cX10_present 0 = .ok (.iconst 0, 1) := by decide +kernel
theorem dX10_present_1 : decode cX10_present 1 = .ok (.istore_n 1, 1) := by decide +kernel
theorem dX10_present_2 : decode cX10_present 2 = .ok (.iconst 0, 1) := by decide +kernel
theorem dX10_present_3 : decode cX10_present 3 = .ok (.istore_n 2, 1) := by decide +kernel
theorem dX10_present_4 : decode cX10_present 4 = .ok (.iload_n 2, 1) := by decide +kernel
theorem dX10_present_5 : decode cX10_present 5 = .ok (.aload_n 0, 1) := by decide +kernel
theorem dX10_present_6 : decode cX10_present 6 = .ok (.getfield 206, 3) := by decide +kernel
theorem dX10_present_9 : decode cX10_present 9 = .ok (.if_icmp .ge 29, 3) := by decide +kernel
theorem dX10_present_12 : decode cX10_present 12 = .ok (.iload_n 1, 1) := by decide +kernel
theorem dX10_present_13 : decode cX10_present 13 = .ok (.aload_n 0, 1) := by decide +kernel
theorem dX10_present_14 : decode cX10_present 14 = .ok (.iload_n 2, 1) := by decide +kernel
theorem dX10_present_15 : decode cX10_present 15 = .ok (.invokevirtual 244, 3) := by decide +kernel
theorem dX10_present_18 : decode cX10_present 18 = .ok (.ifCond .eq 11, 3) := by decide +kernel
theorem dX10_present_21 : decode cX10_present 21 = .ok (.aload_n 0, 1) := by decide +kernel
theorem dX10_present_22 : decode cX10_present 22 = .ok (.iload_n 2, 1) := by decide +kernel
theorem dX10_present_23 : decode cX10_present 23 = .ok (.invokevirtual 304, 3) := by decide +kernel
theorem dX10_present_26 : decode cX10_present 26 = .ok (.goto 4, 3) := by decide +kernel
theorem dX10_present_29 : decode cX10_present 29 = .ok (.iconst 0, 1) := by decide +kernel
theorem dX10_present_30 : decode cX10_present 30 = .ok (.iadd, 1) := by decide +kernel
theorem dX10_present_31 : decode cX10_present 31 = .ok (.istore_n 1, 1) := by decide +kernel
theorem dX10_present_32 : decode cX10_present 32 = .ok (.iinc 2 1, 3) := by decide +kernel
theorem dX10_present_35 : decode cX10_present 35 = .ok (.goto (-31), 3) := by decide +kernel
theorem dX10_present_38 : decode cX10_present 38 = .ok (.iload_n 1, 1) := by decide +kernel
theorem dX10_present_39 : decode cX10_present 39 = .ok (.ireturn, 1) := by decide +kernel
set_option maxRecDepth 20000 in
theorem bX10_present_0 {G : Gx} {mm : Nat → Nat → Int32} {lm : Nat → Int64}  {o : Ou} {z : Wd} {a b : Nat} (hw : J G M_X10_present 4 [(0, .ref 63), (1, .int 0), (2, .int 0)] [] (SH, mm, lm) false o z false a b) :
    J G M_X10_present 0 [(0, .ref 63)] [] (SH, mm, lm) false o z false a b := by
  refine J_iconst (v := 0) (by decide) dX10_present_0 ?_
  refine J_istore_n [(1, .int 0), (0, .ref 63)] rfl (i := 1) (by decide) rfl dX10_present_1 ?_
  refine J_iconst (v := 0) (by decide) dX10_present_2 ?_
  refine J_istore_n [(2, .int 0), (1, .int 0), (0, .ref 63)] rfl (i := 2) (by decide) rfl dX10_present_3 ?_
  exact J_sub [2, 1, 0] rfl hw
set_option maxRecDepth 20000 in
theorem bX10_present_4 {G : Gx} {mm : Nat → Nat → Int32} {lm : Nat → Int64} {x1 : Int32} {x2 : Int32} {o : Ou} {z : Wd} {a b : Nat} (hw : (((mm 63 8) ≤ x2) → o = .inl (some (.int x1)) ∧ z = (SH, mm, lm)) ∧ ((¬ (mm 63 8) ≤ x2) → ∃ (v2 : Int32), Ct G M_X10_hangs [.ref 63, .int x2] (SH, mm, lm) false (.inl (some (.int v2))) (SH, mm, lm) false 0 0 ∧ ((v2 = 0) → J G M_X10_present 4 [(0, .ref 63), (1, .int (x1 + 0)), (2, .int (x2 + 1))] [] (SH, mm, lm) false o z false a b) ∧ ((¬ v2 = 0) → ∃ (v5 : Int32), Ct G M_X10_powerOf [.ref 63, .int x2] (SH, mm, lm) false (.inl (some (.int v5))) (SH, mm, lm) false 0 0 ∧ J G M_X10_present 4 [(0, .ref 63), (1, .int (x1 + v5)), (2, .int (x2 + 1))] [] (SH, mm, lm) false o z false a b))) :
    J G M_X10_present 4 [(0, .ref 63), (1, .int x1), (2, .int x2)] [] (SH, mm, lm) false o z false a b := by
  refine J_iload_n rfl (i := 2) rfl dX10_present_4 ?_
  refine J_aload_n rfl (i := 0) rfl dX10_present_5 ?_
  refine J_geti kls_10 (q := 63) (k := 8) sh_63 (by decide) rfl gw_1441 dX10_present_6 ?_
  refine J_icmp_ge (tgt := 38) dX10_present_9 (by decide) (fun hb8 => ?_) (fun hb8 => ?_)
  · replace hw := hw.1 hb8
    refine J_iload_n rfl (i := 1) rfl dX10_present_38 ?_
    exact J_fini (ty := .int) rfl rfl dX10_present_39 hw
  · replace hw := hw.2 hb8
    refine J_iload_n rfl (i := 1) rfl dX10_present_12 ?_
    refine J_aload_n rfl (i := 0) rfl dX10_present_13 ?_
    refine J_iload_n rfl (i := 2) rfl dX10_present_14 ?_
    obtain ⟨v2, hc1, hw⟩ := hw
    refine J_callV (as := [.int x2]) (k := 63) (st := [.int x1]) cal_X10_hangs cai_X10_hangs gw_1684 ⟨by decide, by decide⟩ cnt_X10_hangs sh_63 rfl rfl (Nat.le_of_ble_eq_true rfl) dX10_present_15 (Nat.zero_add _).symm (Nat.zero_add _).symm hc1 ?_
    refine J_if_eq (tgt := 29) dX10_present_18 (by decide) (fun hb7 => ?_) (fun hb7 => ?_)
    · replace hw := hw.1 hb7
      refine J_iconst (v := 0) (by decide) dX10_present_29 ?_
      refine J_iadd dX10_present_30 ?_
      refine J_istore_n [(1, .int (x1 + 0)), (0, .ref 63), (2, .int x2)] rfl (i := 1) (by decide) rfl dX10_present_31 ?_
      refine J_iinc [(2, .int (x2 + 1)), (1, .int (x1 + 0)), (0, .ref 63)] (i := 2) (v := (x2 + 1)) rfl rfl (by decide) rfl dX10_present_32 ?_
      refine J_goto (tgt := 4) dX10_present_35 (by decide) ?_
      exact J_sub [2, 1, 0] rfl hw
    · replace hw := hw.2 hb7
      refine J_aload_n rfl (i := 0) rfl dX10_present_21 ?_
      refine J_iload_n rfl (i := 2) rfl dX10_present_22 ?_
      obtain ⟨v5, hc4, hw⟩ := hw
      refine J_callV (as := [.int x2]) (k := 63) (st := [.int x1]) cal_X10_powerOf cai_X10_powerOf gw_1826 ⟨by decide, by decide⟩ cnt_X10_powerOf sh_63 rfl rfl (Nat.le_of_ble_eq_true rfl) dX10_present_23 (Nat.zero_add _).symm (Nat.zero_add _).symm hc4 ?_
      refine J_goto (tgt := 30) dX10_present_26 (by decide) ?_
      refine J_iadd dX10_present_30 ?_
      refine J_istore_n [(1, .int (x1 + v5)), (0, .ref 63), (2, .int x2)] rfl (i := 1) (by decide) rfl dX10_present_31 ?_
      refine J_iinc [(2, .int (x2 + 1)), (1, .int (x1 + v5)), (0, .ref 63)] (i := 2) (v := (x2 + 1)) rfl rfl (by decide) rfl dX10_present_32 ?_
      refine J_goto (tgt := 4) dX10_present_35 (by decide) ?_
      exact J_sub [2, 1, 0] rfl hw
theorem dX10_digitOf_0 : decode cX10_digitOf 0 = .ok (.iload_n 0, 1) := by decide +kernel
theorem dX10_digitOf_1 : decode cX10_digitOf 1 = .ok (.iload_n 1, 1) := by decide +kernel
theorem dX10_digitOf_2 : decode cX10_digitOf 2 = .ok (.idiv, 1) := by decide +kernel
theorem dX10_digitOf_3 : decode cX10_digitOf 3 = .ok (.iconst 3, 1) := by decide +kernel
theorem dX10_digitOf_4 : decode cX10_digitOf 4 = .ok (.irem, 1) := by decide +kernel
theorem dX10_digitOf_5 : decode cX10_digitOf 5 = .ok (.ireturn, 1) := by decide +kernel
set_option maxRecDepth 20000 in
theorem bX10_digitOf_0 {G : Gx} {mm : Nat → Nat → Int32} {lm : Nat → Int64} {x0 : Int32} {x1 : Int32} {o : Ou} {z : Wd} {a b : Nat} (hw : ¬ x1 = 0 ∧ o = .inl (some (.int ((x0 / x1) - (x0 / x1) / 3 * 3))) ∧ z = (SH, mm, lm)) :
    J G M_X10_digitOf 0 [(0, .int x0), (1, .int x1)] [] (SH, mm, lm) false o z false a b := by
  refine J_iload_n rfl (i := 0) rfl dX10_digitOf_0 ?_
  refine J_iload_n rfl (i := 1) rfl dX10_digitOf_1 ?_
  obtain ⟨hz1, hw⟩ := hw
  refine J_idiv hz1 dX10_digitOf_2 ?_
  refine J_iconst (v := 3) (by decide) dX10_digitOf_3 ?_
  refine J_irem (by decide) dX10_digitOf_4 ?_
  exact J_fini (ty := .int) rfl rfl dX10_digitOf_5 hw
theorem dX10_findWays_0 : decode cX10_findWays 0 = .ok (.aload_n 0, 1) := by decide +kernel
theorem dX10_findWays_1 : decode cX10_findWays 1 = .ok (.aload_n 0, 1) := by decide +kernel
theorem dX10_findWays_2 : decode cX10_findWays 2 = .ok (.getfield 206, 3) := by decide +kernel
theorem dX10_findWays_5 : decode cX10_findWays 5 = .ok (.invokevirtual 304, 3) := by decide +kernel
theorem dX10_findWays_8 : decode cX10_findWays 8 = .ok (.istore_n 1, 1) := by decide +kernel
theorem dX10_findWays_9 : decode cX10_findWays 9 = .ok (.iconst 0, 1) := by decide +kernel
theorem dX10_findWays_10 : decode cX10_findWays 10 = .ok (.istore_n 2, 1) := by decide +kernel
theorem dX10_findWays_11 : decode cX10_findWays 11 = .ok (.iconst 0, 1) := by decide +kernel
theorem dX10_findWays_12 : decode cX10_findWays 12 = .ok (.istore_n 3, 1) := by decide +kernel
theorem dX10_findWays_13 : decode cX10_findWays 13 = .ok (.iload_n 3, 1) := by decide +kernel
theorem dX10_findWays_14 : decode cX10_findWays 14 = .ok (.iload_n 1, 1) := by decide +kernel
theorem dX10_findWays_15 : decode cX10_findWays 15 = .ok (.if_icmp .ge 110, 3) := by decide +kernel
theorem dX10_findWays_18 : decode cX10_findWays 18 = .ok (.aload_n 0, 1) := by decide +kernel
theorem dX10_findWays_19 : decode cX10_findWays 19 = .ok (.getfield 59, 3) := by decide +kernel
theorem dX10_findWays_22 : decode cX10_findWays 22 = .ok (.iload_n 3, 1) := by decide +kernel
theorem dX10_findWays_23 : decode cX10_findWays 23 = .ok (.aload_n 0, 1) := by decide +kernel
theorem dX10_findWays_24 : decode cX10_findWays 24 = .ok (.iload_n 3, 1) := by decide +kernel
theorem dX10_findWays_25 : decode cX10_findWays 25 = .ok (.invokevirtual 307, 3) := by decide +kernel
theorem dX10_findWays_28 : decode cX10_findWays 28 = .ok (.ifCond .eq 9, 3) := by decide +kernel
theorem dX10_findWays_31 : decode cX10_findWays 31 = .ok (.ldc_w 276, 3) := by decide +kernel
theorem dX10_findWays_34 : decode cX10_findWays 34 = .ok (.goto 4, 3) := by decide +kernel
theorem dX10_findWays_37 : decode cX10_findWays 37 = .ok (.iconst (-1), 1) := by decide +kernel
theorem dX10_findWays_38 : decode cX10_findWays 38 = .ok (.iastore, 1) := by decide +kernel
theorem dX10_findWays_39 : decode cX10_findWays 39 = .ok (.aload_n 0, 1) := by decide +kernel
theorem dX10_findWays_40 : decode cX10_findWays 40 = .ok (.getfield 59, 3) := by decide +kernel
theorem dX10_findWays_43 : decode cX10_findWays 43 = .ok (.iload_n 3, 1) := by decide +kernel
theorem dX10_findWays_44 : decode cX10_findWays 44 = .ok (.iaload, 1) := by decide +kernel
theorem dX10_findWays_45 : decode cX10_findWays 45 = .ok (.ldc_w 276, 3) := by decide +kernel
theorem dX10_findWays_48 : decode cX10_findWays 48 = .ok (.if_icmp .ne 7, 3) := by decide +kernel
theorem dX10_findWays_51 : decode cX10_findWays 51 = .ok (.iconst 1, 1) := by decide +kernel
theorem dX10_findWays_52 : decode cX10_findWays 52 = .ok (.goto 4, 3) := by decide +kernel
theorem dX10_findWays_55 : decode cX10_findWays 55 = .ok (.iconst 0, 1) := by decide +kernel
theorem dX10_findWays_56 : decode cX10_findWays 56 = .ok (.istore 4, 2) := by decide +kernel
theorem dX10_findWays_58 : decode cX10_findWays 58 = .ok (.iconst 0, 1) := by decide +kernel
theorem dX10_findWays_59 : decode cX10_findWays 59 = .ok (.istore 5, 2) := by decide +kernel
theorem dX10_findWays_61 : decode cX10_findWays 61 = .ok (.iload 5, 2) := by decide +kernel
theorem dX10_findWays_63 : decode cX10_findWays 63 = .ok (.aload_n 0, 1) := by decide +kernel
theorem dX10_findWays_64 : decode cX10_findWays 64 = .ok (.getfield 206, 3) := by decide +kernel
theorem dX10_findWays_67 : decode cX10_findWays 67 = .ok (.if_icmp .ge 30, 3) := by decide +kernel
theorem dX10_findWays_70 : decode cX10_findWays 70 = .ok (.iload 4, 2) := by decide +kernel
theorem dX10_findWays_72 : decode cX10_findWays 72 = .ok (.ifCond .eq 16, 3) := by decide +kernel
theorem dX10_findWays_75 : decode cX10_findWays 75 = .ok (.aload_n 0, 1) := by decide +kernel
theorem dX10_findWays_76 : decode cX10_findWays 76 = .ok (.iload 5, 2) := by decide +kernel
theorem dX10_findWays_78 : decode cX10_findWays 78 = .ok (.invokevirtual 310, 3) := by decide +kernel
theorem dX10_findWays_81 : decode cX10_findWays 81 = .ok (.ifCond .eq 7, 3) := by decide +kernel
theorem dX10_findWays_84 : decode cX10_findWays 84 = .ok (.iconst 1, 1) := by decide +kernel
theorem dX10_findWays_85 : decode cX10_findWays 85 = .ok (.goto 4, 3) := by decide +kernel
theorem dX10_findWays_88 : decode cX10_findWays 88 = .ok (.iconst 0, 1) := by decide +kernel
theorem dX10_findWays_89 : decode cX10_findWays 89 = .ok (.istore 4, 2) := by decide +kernel
theorem dX10_findWays_91 : decode cX10_findWays 91 = .ok (.iinc 5 1, 3) := by decide +kernel
theorem dX10_findWays_94 : decode cX10_findWays 94 = .ok (.goto (-33), 3) := by decide +kernel
theorem dX10_findWays_97 : decode cX10_findWays 97 = .ok (.iload 4, 2) := by decide +kernel
theorem dX10_findWays_99 : decode cX10_findWays 99 = .ok (.ifCond .eq 20, 3) := by decide +kernel
theorem dX10_findWays_102 : decode cX10_findWays 102 = .ok (.aload_n 0, 1) := by decide +kernel
theorem dX10_findWays_103 : decode cX10_findWays 103 = .ok (.getfield 59, 3) := by decide +kernel
theorem dX10_findWays_106 : decode cX10_findWays 106 = .ok (.iload_n 3, 1) := by decide +kernel
theorem dX10_findWays_107 : decode cX10_findWays 107 = .ok (.iconst 0, 1) := by decide +kernel
theorem dX10_findWays_108 : decode cX10_findWays 108 = .ok (.iastore, 1) := by decide +kernel
theorem dX10_findWays_109 : decode cX10_findWays 109 = .ok (.aload_n 0, 1) := by decide +kernel
theorem dX10_findWays_110 : decode cX10_findWays 110 = .ok (.getfield 62, 3) := by decide +kernel
theorem dX10_findWays_113 : decode cX10_findWays 113 = .ok (.iload_n 2, 1) := by decide +kernel
theorem dX10_findWays_114 : decode cX10_findWays 114 = .ok (.iload_n 3, 1) := by decide +kernel
theorem dX10_findWays_115 : decode cX10_findWays 115 = .ok (.iastore, 1) := by decide +kernel
theorem dX10_findWays_116 : decode cX10_findWays 116 = .ok (.iinc 2 1, 3) := by decide +kernel
theorem dX10_findWays_119 : decode cX10_findWays 119 = .ok (.iinc 3 1, 3) := by decide +kernel
theorem dX10_findWays_122 : decode cX10_findWays 122 = .ok (.goto (-109), 3) := by decide +kernel
theorem dX10_findWays_125 : decode cX10_findWays 125 = .ok (.iconst 0, 1) := by decide +kernel
theorem dX10_findWays_126 : decode cX10_findWays 126 = .ok (.istore_n 3, 1) := by decide +kernel
theorem dX10_findWays_127 : decode cX10_findWays 127 = .ok (.iload_n 3, 1) := by decide +kernel
theorem dX10_findWays_128 : decode cX10_findWays 128 = .ok (.iload_n 2, 1) := by decide +kernel
theorem dX10_findWays_129 : decode cX10_findWays 129 = .ok (.if_icmp .ge 92, 3) := by decide +kernel
theorem dX10_findWays_132 : decode cX10_findWays 132 = .ok (.aload_n 0, 1) := by decide +kernel
theorem dX10_findWays_133 : decode cX10_findWays 133 = .ok (.getfield 62, 3) := by decide +kernel
theorem dX10_findWays_136 : decode cX10_findWays 136 = .ok (.iload_n 3, 1) := by decide +kernel
theorem dX10_findWays_137 : decode cX10_findWays 137 = .ok (.iaload, 1) := by decide +kernel
theorem dX10_findWays_138 : decode cX10_findWays 138 = .ok (.istore 4, 2) := by decide +kernel
theorem dX10_findWays_140 : decode cX10_findWays 140 = .ok (.iconst 0, 1) := by decide +kernel
theorem dX10_findWays_141 : decode cX10_findWays 141 = .ok (.istore 5, 2) := by decide +kernel
theorem dX10_findWays_143 : decode cX10_findWays 143 = .ok (.iload 5, 2) := by decide +kernel
theorem dX10_findWays_145 : decode cX10_findWays 145 = .ok (.iconst 3, 1) := by decide +kernel
theorem dX10_findWays_146 : decode cX10_findWays 146 = .ok (.aload_n 0, 1) := by decide +kernel
theorem dX10_findWays_147 : decode cX10_findWays 147 = .ok (.getfield 206, 3) := by decide +kernel
theorem dX10_findWays_150 : decode cX10_findWays 150 = .ok (.imul, 1) := by decide +kernel
theorem dX10_findWays_151 : decode cX10_findWays 151 = .ok (.if_icmp .ge 64, 3) := by decide +kernel
theorem dX10_findWays_154 : decode cX10_findWays 154 = .ok (.aload_n 0, 1) := by decide +kernel
theorem dX10_findWays_155 : decode cX10_findWays 155 = .ok (.iload 4, 2) := by decide +kernel
theorem dX10_findWays_157 : decode cX10_findWays 157 = .ok (.iload 5, 2) := by decide +kernel
theorem dX10_findWays_159 : decode cX10_findWays 159 = .ok (.invokevirtual 313, 3) := by decide +kernel
theorem dX10_findWays_162 : decode cX10_findWays 162 = .ok (.istore 6, 2) := by decide +kernel
theorem dX10_findWays_164 : decode cX10_findWays 164 = .ok (.iload 6, 2) := by decide +kernel
theorem dX10_findWays_166 : decode cX10_findWays 166 = .ok (.ifCond .lt 43, 3) := by decide +kernel
theorem dX10_findWays_169 : decode cX10_findWays 169 = .ok (.aload_n 0, 1) := by decide +kernel
theorem dX10_findWays_170 : decode cX10_findWays 170 = .ok (.getfield 59, 3) := by decide +kernel
theorem dX10_findWays_173 : decode cX10_findWays 173 = .ok (.iload 6, 2) := by decide +kernel
theorem dX10_findWays_175 : decode cX10_findWays 175 = .ok (.iaload, 1) := by decide +kernel
theorem dX10_findWays_176 : decode cX10_findWays 176 = .ok (.ldc_w 276, 3) := by decide +kernel
theorem dX10_findWays_179 : decode cX10_findWays 179 = .ok (.if_icmp .ne 30, 3) := by decide +kernel
theorem dX10_findWays_182 : decode cX10_findWays 182 = .ok (.aload_n 0, 1) := by decide +kernel
theorem dX10_findWays_183 : decode cX10_findWays 183 = .ok (.getfield 59, 3) := by decide +kernel
theorem dX10_findWays_186 : decode cX10_findWays 186 = .ok (.iload 6, 2) := by decide +kernel
theorem dX10_findWays_188 : decode cX10_findWays 188 = .ok (.aload_n 0, 1) := by decide +kernel
theorem dX10_findWays_189 : decode cX10_findWays 189 = .ok (.getfield 59, 3) := by decide +kernel
theorem dX10_findWays_192 : decode cX10_findWays 192 = .ok (.iload 4, 2) := by decide +kernel
theorem dX10_findWays_194 : decode cX10_findWays 194 = .ok (.iaload, 1) := by decide +kernel
theorem dX10_findWays_195 : decode cX10_findWays 195 = .ok (.iconst 1, 1) := by decide +kernel
theorem dX10_findWays_196 : decode cX10_findWays 196 = .ok (.iadd, 1) := by decide +kernel
theorem dX10_findWays_197 : decode cX10_findWays 197 = .ok (.iastore, 1) := by decide +kernel
theorem dX10_findWays_198 : decode cX10_findWays 198 = .ok (.aload_n 0, 1) := by decide +kernel
theorem dX10_findWays_199 : decode cX10_findWays 199 = .ok (.getfield 62, 3) := by decide +kernel
theorem dX10_findWays_202 : decode cX10_findWays 202 = .ok (.iload_n 2, 1) := by decide +kernel
theorem dX10_findWays_203 : decode cX10_findWays 203 = .ok (.iload 6, 2) := by decide +kernel
theorem dX10_findWays_205 : decode cX10_findWays 205 = .ok (.iastore, 1) := by decide +kernel
theorem dX10_findWays_206 : decode cX10_findWays 206 = .ok (.iinc 2 1, 3) := by decide +kernel
theorem dX10_findWays_209 : decode cX10_findWays 209 = .ok (.iinc 5 1, 3) := by decide +kernel
theorem dX10_findWays_212 : decode cX10_findWays 212 = .ok (.goto (-69), 3) := by decide +kernel
theorem dX10_findWays_215 : decode cX10_findWays 215 = .ok (.iinc 3 1, 3) := by decide +kernel
theorem dX10_findWays_218 : decode cX10_findWays 218 = .ok (.goto (-91), 3) := by decide +kernel
theorem dX10_findWays_221 : decode cX10_findWays 221 = .ok (.return_, 1) := by decide +kernel
set_option maxRecDepth 20000 in
theorem bX10_findWays_0 {G : Gx} {mm : Nat → Nat → Int32} {lm : Nat → Int64}  {o : Ou} {z : Wd} {a b : Nat} (hw : ∃ (v2 : Int32), Ct G M_X10_powerOf [.ref 63, .int (mm 63 8)] (SH, mm, lm) false (.inl (some (.int v2))) (SH, mm, lm) false 0 0 ∧ J G M_X10_findWays 13 [(0, .ref 63), (1, .int v2), (2, .int 0), (3, .int 0)] [] (SH, mm, lm) false o z false a b) :
    J G M_X10_findWays 0 [(0, .ref 63)] [] (SH, mm, lm) false o z false a b := by
  refine J_aload_n rfl (i := 0) rfl dX10_findWays_0 ?_
  refine J_aload_n rfl (i := 0) rfl dX10_findWays_1 ?_
  refine J_geti kls_10 (q := 63) (k := 8) sh_63 (by decide) rfl gw_1441 dX10_findWays_2 ?_
  obtain ⟨v2, hc1, hw⟩ := hw
  refine J_callV (as := [.int (mm 63 8)]) (k := 63) (st := []) cal_X10_powerOf cai_X10_powerOf gw_1826 ⟨by decide, by decide⟩ cnt_X10_powerOf sh_63 rfl rfl (Nat.le_of_ble_eq_true rfl) dX10_findWays_5 (Nat.zero_add _).symm (Nat.zero_add _).symm hc1 ?_
  refine J_istore_n [(1, .int v2), (0, .ref 63)] rfl (i := 1) (by decide) rfl dX10_findWays_8 ?_
  refine J_iconst (v := 0) (by decide) dX10_findWays_9 ?_
  refine J_istore_n [(2, .int 0), (1, .int v2), (0, .ref 63)] rfl (i := 2) (by decide) rfl dX10_findWays_10 ?_
  refine J_iconst (v := 0) (by decide) dX10_findWays_11 ?_
  refine J_istore_n [(3, .int 0), (2, .int 0), (1, .int v2), (0, .ref 63)] rfl (i := 3) (by decide) rfl dX10_findWays_12 ?_
  exact J_sub [3, 2, 1, 0] rfl hw
set_option maxRecDepth 20000 in
theorem bX10_findWays_13 {G : Gx} {mm : Nat → Nat → Int32} {lm : Nat → Int64} {x1 : Int32} {x2 : Int32} {x3 : Int32} {o : Ou} {z : Wd} {a b : Nat} (hw : ((x1 ≤ x3) → J G M_X10_findWays 127 [(0, .ref 63), (2, .int x2), (3, .int 0)] [] (SH, mm, lm) false o z false a b) ∧ ((¬ x1 ≤ x3) → ∃ (v2 : Int32) (m3 : Nat → Nat → Int32), Ct G M_X10_canBe [.ref 63, .int x3] (SH, mm, lm) false (.inl (some (.int v2))) (SH, m3, lm) false 0 0 ∧ ((v2 = 0) → ∃ j4 : Nat, x3 = nI j4 ∧ j4 < 6561 ∧ ∃ j5 : Nat, x3 = nI j5 ∧ j5 < 6561 ∧ ((¬ ((mset m3 79 j4 (-1)) 79 j5) = 1000000) → J G M_X10_findWays 61 [(0, .ref 63), (1, .int x1), (2, .int x2), (3, .int x3), (4, .int 0), (5, .int 0)] [] (SH, (mset m3 79 j4 (-1)), lm) false o z false a b) ∧ ((((mset m3 79 j4 (-1)) 79 j5) = 1000000) → J G M_X10_findWays 61 [(0, .ref 63), (1, .int x1), (2, .int x2), (3, .int x3), (4, .int 1), (5, .int 0)] [] (SH, (mset m3 79 j4 (-1)), lm) false o z false a b)) ∧ ((¬ v2 = 0) → ∃ j7 : Nat, x3 = nI j7 ∧ j7 < 6561 ∧ ∃ j8 : Nat, x3 = nI j8 ∧ j8 < 6561 ∧ ((¬ ((mset m3 79 j7 1000000) 79 j8) = 1000000) → J G M_X10_findWays 61 [(0, .ref 63), (1, .int x1), (2, .int x2), (3, .int x3), (4, .int 0), (5, .int 0)] [] (SH, (mset m3 79 j7 1000000), lm) false o z false a b) ∧ ((((mset m3 79 j7 1000000) 79 j8) = 1000000) → J G M_X10_findWays 61 [(0, .ref 63), (1, .int x1), (2, .int x2), (3, .int x3), (4, .int 1), (5, .int 0)] [] (SH, (mset m3 79 j7 1000000), lm) false o z false a b)))) :
    J G M_X10_findWays 13 [(0, .ref 63), (1, .int x1), (2, .int x2), (3, .int x3)] [] (SH, mm, lm) false o z false a b := by
  refine J_iload_n rfl (i := 3) rfl dX10_findWays_13 ?_
  refine J_iload_n rfl (i := 1) rfl dX10_findWays_14 ?_
  refine J_icmp_ge (tgt := 125) dX10_findWays_15 (by decide) (fun hb11 => ?_) (fun hb11 => ?_)
  · replace hw := hw.1 hb11
    refine J_iconst (v := 0) (by decide) dX10_findWays_125 ?_
    refine J_istore_n [(3, .int 0), (0, .ref 63), (1, .int x1), (2, .int x2)] rfl (i := 3) (by decide) rfl dX10_findWays_126 ?_
    exact J_sub [1, 3, 0] rfl hw
  · replace hw := hw.2 hb11
    refine J_aload_n rfl (i := 0) rfl dX10_findWays_18 ?_
    refine J_getr kls_10 (q := 63) (k := 35) sh_63 (by decide) rfl gw_1468 dX10_findWays_19 ?_
    refine J_iload_n rfl (i := 3) rfl dX10_findWays_22 ?_
    refine J_aload_n rfl (i := 0) rfl dX10_findWays_23 ?_
    refine J_iload_n rfl (i := 3) rfl dX10_findWays_24 ?_
    obtain ⟨v2, m3, hc1, hw⟩ := hw
    refine J_callV (as := [.int x3]) (k := 63) (st := [.int x3, .ref 79]) cal_X10_canBe cai_X10_canBe gw_1830 ⟨by decide, by decide⟩ cnt_X10_canBe sh_63 rfl rfl (Nat.le_of_ble_eq_true rfl) dX10_findWays_25 (Nat.zero_add _).symm (Nat.zero_add _).symm hc1 ?_
    refine J_if_eq (tgt := 37) dX10_findWays_28 (by decide) (fun hb10 => ?_) (fun hb10 => ?_)
    · replace hw := hw.1 hb10
      refine J_iconst (v := (-1)) (by decide) dX10_findWays_37 ?_
      obtain ⟨j4, ej4, hj4, hw⟩ := hw
      refine J_iast sh_79 ej4 hj4 (by decide) dX10_findWays_38 ?_
      refine J_aload_n rfl (i := 0) rfl dX10_findWays_39 ?_
      refine J_getr kls_10 (q := 63) (k := 35) sh_63 (by decide) rfl gw_1468 dX10_findWays_40 ?_
      refine J_iload_n rfl (i := 3) rfl dX10_findWays_43 ?_
      obtain ⟨j5, ej5, hj5, hw⟩ := hw
      refine J_iald sh_79 ej5 hj5 (by decide) dX10_findWays_44 ?_
      refine J_ldcw gw_1763 dX10_findWays_45 ?_
      refine J_icmp_ne (tgt := 55) dX10_findWays_48 (by decide) (fun hb6 => ?_) (fun hb6 => ?_)
      · replace hw := hw.1 hb6
        refine J_iconst (v := 0) (by decide) dX10_findWays_55 ?_
        refine J_istore [(4, .int 0), (0, .ref 63), (1, .int x1), (2, .int x2), (3, .int x3)] (i := 4) (by decide) rfl dX10_findWays_56 ?_
        refine J_iconst (v := 0) (by decide) dX10_findWays_58 ?_
        refine J_istore [(5, .int 0), (4, .int 0), (0, .ref 63), (1, .int x1), (2, .int x2), (3, .int x3)] (i := 5) (by decide) rfl dX10_findWays_59 ?_
        exact J_sub [2, 3, 4, 5, 1, 0] rfl hw
      · replace hw := hw.2 hb6
        refine J_iconst (v := 1) (by decide) dX10_findWays_51 ?_
        refine J_goto (tgt := 56) dX10_findWays_52 (by decide) ?_
        refine J_istore [(4, .int 1), (0, .ref 63), (1, .int x1), (2, .int x2), (3, .int x3)] (i := 4) (by decide) rfl dX10_findWays_56 ?_
        refine J_iconst (v := 0) (by decide) dX10_findWays_58 ?_
        refine J_istore [(5, .int 0), (4, .int 1), (0, .ref 63), (1, .int x1), (2, .int x2), (3, .int x3)] (i := 5) (by decide) rfl dX10_findWays_59 ?_
        exact J_sub [2, 3, 4, 5, 1, 0] rfl hw
    · replace hw := hw.2 hb10
      refine J_ldcw gw_1763 dX10_findWays_31 ?_
      refine J_goto (tgt := 38) dX10_findWays_34 (by decide) ?_
      obtain ⟨j7, ej7, hj7, hw⟩ := hw
      refine J_iast sh_79 ej7 hj7 (by decide) dX10_findWays_38 ?_
      refine J_aload_n rfl (i := 0) rfl dX10_findWays_39 ?_
      refine J_getr kls_10 (q := 63) (k := 35) sh_63 (by decide) rfl gw_1468 dX10_findWays_40 ?_
      refine J_iload_n rfl (i := 3) rfl dX10_findWays_43 ?_
      obtain ⟨j8, ej8, hj8, hw⟩ := hw
      refine J_iald sh_79 ej8 hj8 (by decide) dX10_findWays_44 ?_
      refine J_ldcw gw_1763 dX10_findWays_45 ?_
      refine J_icmp_ne (tgt := 55) dX10_findWays_48 (by decide) (fun hb9 => ?_) (fun hb9 => ?_)
      · replace hw := hw.1 hb9
        refine J_iconst (v := 0) (by decide) dX10_findWays_55 ?_
        refine J_istore [(4, .int 0), (0, .ref 63), (1, .int x1), (2, .int x2), (3, .int x3)] (i := 4) (by decide) rfl dX10_findWays_56 ?_
        refine J_iconst (v := 0) (by decide) dX10_findWays_58 ?_
        refine J_istore [(5, .int 0), (4, .int 0), (0, .ref 63), (1, .int x1), (2, .int x2), (3, .int x3)] (i := 5) (by decide) rfl dX10_findWays_59 ?_
        exact J_sub [2, 3, 4, 5, 1, 0] rfl hw
      · replace hw := hw.2 hb9
        refine J_iconst (v := 1) (by decide) dX10_findWays_51 ?_
        refine J_goto (tgt := 56) dX10_findWays_52 (by decide) ?_
        refine J_istore [(4, .int 1), (0, .ref 63), (1, .int x1), (2, .int x2), (3, .int x3)] (i := 4) (by decide) rfl dX10_findWays_56 ?_
        refine J_iconst (v := 0) (by decide) dX10_findWays_58 ?_
        refine J_istore [(5, .int 0), (4, .int 1), (0, .ref 63), (1, .int x1), (2, .int x2), (3, .int x3)] (i := 5) (by decide) rfl dX10_findWays_59 ?_
        exact J_sub [2, 3, 4, 5, 1, 0] rfl hw
set_option maxRecDepth 20000 in
theorem bX10_findWays_61 {G : Gx} {mm : Nat → Nat → Int32} {lm : Nat → Int64} {x1 : Int32} {x2 : Int32} {x3 : Int32} {x4 : Int32} {x5 : Int32} {o : Ou} {z : Wd} {a b : Nat} (hw : (((mm 63 8) ≤ x5) → ((x4 = 0) → J G M_X10_findWays 13 [(0, .ref 63), (1, .int x1), (2, .int x2), (3, .int (x3 + 1))] [] (SH, mm, lm) false o z false a b) ∧ ((¬ x4 = 0) → ∃ j1 : Nat, x3 = nI j1 ∧ j1 < 6561 ∧ ∃ j2 : Nat, x2 = nI j2 ∧ j2 < 6561 ∧ J G M_X10_findWays 13 [(0, .ref 63), (1, .int x1), (2, .int (x2 + 1)), (3, .int (x3 + 1))] [] (SH, (mset (mset mm 79 j1 0) 80 j2 x3), lm) false o z false a b)) ∧ ((¬ (mm 63 8) ≤ x5) → ((x4 = 0) → J G M_X10_findWays 61 [(0, .ref 63), (1, .int x1), (2, .int x2), (3, .int x3), (4, .int 0), (5, .int (x5 + 1))] [] (SH, mm, lm) false o z false a b) ∧ ((¬ x4 = 0) → ∃ (v5 : Int32), Ct G M_X10_isAtGoal [.ref 63, .int x5] (SH, mm, lm) false (.inl (some (.int v5))) (SH, mm, lm) false 0 0 ∧ ((v5 = 0) → J G M_X10_findWays 61 [(0, .ref 63), (1, .int x1), (2, .int x2), (3, .int x3), (4, .int 0), (5, .int (x5 + 1))] [] (SH, mm, lm) false o z false a b) ∧ ((¬ v5 = 0) → J G M_X10_findWays 61 [(0, .ref 63), (1, .int x1), (2, .int x2), (3, .int x3), (4, .int 1), (5, .int (x5 + 1))] [] (SH, mm, lm) false o z false a b)))) :
    J G M_X10_findWays 61 [(0, .ref 63), (1, .int x1), (2, .int x2), (3, .int x3), (4, .int x4), (5, .int x5)] [] (SH, mm, lm) false o z false a b := by
  refine J_iload (i := 5) rfl dX10_findWays_61 ?_
  refine J_aload_n rfl (i := 0) rfl dX10_findWays_63 ?_
  refine J_geti kls_10 (q := 63) (k := 8) sh_63 (by decide) rfl gw_1441 dX10_findWays_64 ?_
  refine J_icmp_ge (tgt := 97) dX10_findWays_67 (by decide) (fun hb9 => ?_) (fun hb9 => ?_)
  · replace hw := hw.1 hb9
    refine J_iload (i := 4) rfl dX10_findWays_97 ?_
    refine J_if_eq (tgt := 119) dX10_findWays_99 (by decide) (fun hb3 => ?_) (fun hb3 => ?_)
    · replace hw := hw.1 hb3
      refine J_iinc [(3, .int (x3 + 1)), (0, .ref 63), (1, .int x1), (2, .int x2), (4, .int x4), (5, .int x5)] (i := 3) (v := (x3 + 1)) rfl rfl (by decide) rfl dX10_findWays_119 ?_
      refine J_goto (tgt := 13) dX10_findWays_122 (by decide) ?_
      exact J_sub [1, 2, 3, 0] rfl hw
    · replace hw := hw.2 hb3
      refine J_aload_n rfl (i := 0) rfl dX10_findWays_102 ?_
      refine J_getr kls_10 (q := 63) (k := 35) sh_63 (by decide) rfl gw_1468 dX10_findWays_103 ?_
      refine J_iload_n rfl (i := 3) rfl dX10_findWays_106 ?_
      refine J_iconst (v := 0) (by decide) dX10_findWays_107 ?_
      obtain ⟨j1, ej1, hj1, hw⟩ := hw
      refine J_iast sh_79 ej1 hj1 (by decide) dX10_findWays_108 ?_
      refine J_aload_n rfl (i := 0) rfl dX10_findWays_109 ?_
      refine J_getr kls_10 (q := 63) (k := 36) sh_63 (by decide) rfl gw_1469 dX10_findWays_110 ?_
      refine J_iload_n rfl (i := 2) rfl dX10_findWays_113 ?_
      refine J_iload_n rfl (i := 3) rfl dX10_findWays_114 ?_
      obtain ⟨j2, ej2, hj2, hw⟩ := hw
      refine J_iast sh_80 ej2 hj2 (by decide) dX10_findWays_115 ?_
      refine J_iinc [(2, .int (x2 + 1)), (0, .ref 63), (1, .int x1), (3, .int x3), (4, .int x4), (5, .int x5)] (i := 2) (v := (x2 + 1)) rfl rfl (by decide) rfl dX10_findWays_116 ?_
      refine J_iinc [(3, .int (x3 + 1)), (2, .int (x2 + 1)), (0, .ref 63), (1, .int x1), (4, .int x4), (5, .int x5)] (i := 3) (v := (x3 + 1)) rfl rfl (by decide) rfl dX10_findWays_119 ?_
      refine J_goto (tgt := 13) dX10_findWays_122 (by decide) ?_
      exact J_sub [2, 3, 1, 0] rfl hw
  · replace hw := hw.2 hb9
    refine J_iload (i := 4) rfl dX10_findWays_70 ?_
    refine J_if_eq (tgt := 88) dX10_findWays_72 (by decide) (fun hb8 => ?_) (fun hb8 => ?_)
    · replace hw := hw.1 hb8
      refine J_iconst (v := 0) (by decide) dX10_findWays_88 ?_
      refine J_istore [(4, .int 0), (0, .ref 63), (1, .int x1), (2, .int x2), (3, .int x3), (5, .int x5)] (i := 4) (by decide) rfl dX10_findWays_89 ?_
      refine J_iinc [(5, .int (x5 + 1)), (4, .int 0), (0, .ref 63), (1, .int x1), (2, .int x2), (3, .int x3)] (i := 5) (v := (x5 + 1)) rfl rfl (by decide) rfl dX10_findWays_91 ?_
      refine J_goto (tgt := 61) dX10_findWays_94 (by decide) ?_
      exact J_sub [2, 3, 4, 5, 1, 0] rfl hw
    · replace hw := hw.2 hb8
      refine J_aload_n rfl (i := 0) rfl dX10_findWays_75 ?_
      refine J_iload (i := 5) rfl dX10_findWays_76 ?_
      obtain ⟨v5, hc4, hw⟩ := hw
      refine J_callV (as := [.int x5]) (k := 63) (st := []) cal_X10_isAtGoal cai_X10_isAtGoal gw_1834 ⟨by decide, by decide⟩ cnt_X10_isAtGoal sh_63 rfl rfl (Nat.le_of_ble_eq_true rfl) dX10_findWays_78 (Nat.zero_add _).symm (Nat.zero_add _).symm hc4 ?_
      refine J_if_eq (tgt := 88) dX10_findWays_81 (by decide) (fun hb7 => ?_) (fun hb7 => ?_)
      · replace hw := hw.1 hb7
        refine J_iconst (v := 0) (by decide) dX10_findWays_88 ?_
        refine J_istore [(4, .int 0), (0, .ref 63), (1, .int x1), (2, .int x2), (3, .int x3), (5, .int x5)] (i := 4) (by decide) rfl dX10_findWays_89 ?_
        refine J_iinc [(5, .int (x5 + 1)), (4, .int 0), (0, .ref 63), (1, .int x1), (2, .int x2), (3, .int x3)] (i := 5) (v := (x5 + 1)) rfl rfl (by decide) rfl dX10_findWays_91 ?_
        refine J_goto (tgt := 61) dX10_findWays_94 (by decide) ?_
        exact J_sub [2, 3, 4, 5, 1, 0] rfl hw
      · replace hw := hw.2 hb7
        refine J_iconst (v := 1) (by decide) dX10_findWays_84 ?_
        refine J_goto (tgt := 89) dX10_findWays_85 (by decide) ?_
        refine J_istore [(4, .int 1), (0, .ref 63), (1, .int x1), (2, .int x2), (3, .int x3), (5, .int x5)] (i := 4) (by decide) rfl dX10_findWays_89 ?_
        refine J_iinc [(5, .int (x5 + 1)), (4, .int 1), (0, .ref 63), (1, .int x1), (2, .int x2), (3, .int x3)] (i := 5) (v := (x5 + 1)) rfl rfl (by decide) rfl dX10_findWays_91 ?_
        refine J_goto (tgt := 61) dX10_findWays_94 (by decide) ?_
        exact J_sub [2, 3, 4, 5, 1, 0] rfl hw
set_option maxRecDepth 20000 in
theorem bX10_findWays_127 {G : Gx} {mm : Nat → Nat → Int32} {lm : Nat → Int64} {x2 : Int32} {x3 : Int32} {o : Ou} {z : Wd} {a b : Nat} (hw : ((x2 ≤ x3) → o = .inl none ∧ z = (SH, mm, lm)) ∧ ((¬ x2 ≤ x3) → ∃ j1 : Nat, x3 = nI j1 ∧ j1 < 6561 ∧ J G M_X10_findWays 143 [(0, .ref 63), (2, .int x2), (3, .int x3), (4, .int (mm 80 j1)), (5, .int 0)] [] (SH, mm, lm) false o z false a b)) :
    J G M_X10_findWays 127 [(0, .ref 63), (2, .int x2), (3, .int x3)] [] (SH, mm, lm) false o z false a b := by
  refine J_iload_n rfl (i := 3) rfl dX10_findWays_127 ?_
  refine J_iload_n rfl (i := 2) rfl dX10_findWays_128 ?_
  refine J_icmp_ge (tgt := 221) dX10_findWays_129 (by decide) (fun hb2 => ?_) (fun hb2 => ?_)
  · replace hw := hw.1 hb2
    exact J_finv rfl dX10_findWays_221 hw
  · replace hw := hw.2 hb2
    refine J_aload_n rfl (i := 0) rfl dX10_findWays_132 ?_
    refine J_getr kls_10 (q := 63) (k := 36) sh_63 (by decide) rfl gw_1469 dX10_findWays_133 ?_
    refine J_iload_n rfl (i := 3) rfl dX10_findWays_136 ?_
    obtain ⟨j1, ej1, hj1, hw⟩ := hw
    refine J_iald sh_80 ej1 hj1 (by decide) dX10_findWays_137 ?_
    refine J_istore [(4, .int (mm 80 j1)), (0, .ref 63), (2, .int x2), (3, .int x3)] (i := 4) (by decide) rfl dX10_findWays_138 ?_
    refine J_iconst (v := 0) (by decide) dX10_findWays_140 ?_
    refine J_istore [(5, .int 0), (4, .int (mm 80 j1)), (0, .ref 63), (2, .int x2), (3, .int x3)] (i := 5) (by decide) rfl dX10_findWays_141 ?_
    exact J_sub [2, 3, 4, 1, 0] rfl hw
set_option maxRecDepth 20000 in
theorem bX10_findWays_143 {G : Gx} {mm : Nat → Nat → Int32} {lm : Nat → Int64} {x2 : Int32} {x3 : Int32} {x4 : Int32} {x5 : Int32} {o : Ou} {z : Wd} {a b : Nat} (hw : (((3 * (mm 63 8)) ≤ x5) → J G M_X10_findWays 127 [(0, .ref 63), (2, .int x2), (3, .int (x3 + 1))] [] (SH, mm, lm) false o z false a b) ∧ ((¬ (3 * (mm 63 8)) ≤ x5) → ∃ (v2 : Int32), Ct G M_X10_after [.ref 63, .int x4, .int x5] (SH, mm, lm) false (.inl (some (.int v2))) (SH, mm, lm) false 0 0 ∧ ((v2 < 0) → J G M_X10_findWays 143 [(0, .ref 63), (2, .int x2), (3, .int x3), (4, .int x4), (5, .int (x5 + 1))] [] (SH, mm, lm) false o z false a b) ∧ ((¬ v2 < 0) → ∃ j4 : Nat, v2 = nI j4 ∧ j4 < 6561 ∧ ((¬ (mm 79 j4) = 1000000) → J G M_X10_findWays 143 [(0, .ref 63), (2, .int x2), (3, .int x3), (4, .int x4), (5, .int (x5 + 1))] [] (SH, mm, lm) false o z false a b) ∧ (((mm 79 j4) = 1000000) → ∃ j5 : Nat, x4 = nI j5 ∧ j5 < 6561 ∧ ∃ j6 : Nat, v2 = nI j6 ∧ j6 < 6561 ∧ ∃ j7 : Nat, x2 = nI j7 ∧ j7 < 6561 ∧ J G M_X10_findWays 143 [(0, .ref 63), (2, .int (x2 + 1)), (3, .int x3), (4, .int x4), (5, .int (x5 + 1))] [] (SH, (mset (mset mm 79 j6 ((mm 79 j5) + 1)) 80 j7 v2), lm) false o z false a b)))) :
    J G M_X10_findWays 143 [(0, .ref 63), (2, .int x2), (3, .int x3), (4, .int x4), (5, .int x5)] [] (SH, mm, lm) false o z false a b := by
  refine J_iload (i := 5) rfl dX10_findWays_143 ?_
  refine J_iconst (v := 3) (by decide) dX10_findWays_145 ?_
  refine J_aload_n rfl (i := 0) rfl dX10_findWays_146 ?_
  refine J_geti kls_10 (q := 63) (k := 8) sh_63 (by decide) rfl gw_1441 dX10_findWays_147 ?_
  refine J_imul dX10_findWays_150 ?_
  refine J_icmp_ge (tgt := 215) dX10_findWays_151 (by decide) (fun hb10 => ?_) (fun hb10 => ?_)
  · replace hw := hw.1 hb10
    refine J_iinc [(3, .int (x3 + 1)), (0, .ref 63), (2, .int x2), (4, .int x4), (5, .int x5)] (i := 3) (v := (x3 + 1)) rfl rfl (by decide) rfl dX10_findWays_215 ?_
    refine J_goto (tgt := 127) dX10_findWays_218 (by decide) ?_
    exact J_sub [1, 2, 0] rfl hw
  · replace hw := hw.2 hb10
    refine J_aload_n rfl (i := 0) rfl dX10_findWays_154 ?_
    refine J_iload (i := 4) rfl dX10_findWays_155 ?_
    refine J_iload (i := 5) rfl dX10_findWays_157 ?_
    obtain ⟨v2, hc1, hw⟩ := hw
    refine J_callV (as := [.int x4, .int x5]) (k := 63) (st := []) cal_X10_after cai_X10_after gw_1838 ⟨by decide, by decide⟩ cnt_X10_after sh_63 rfl rfl (Nat.le_of_ble_eq_true rfl) dX10_findWays_159 (Nat.zero_add _).symm (Nat.zero_add _).symm hc1 ?_
    refine J_istore [(6, .int v2), (0, .ref 63), (2, .int x2), (3, .int x3), (4, .int x4), (5, .int x5)] (i := 6) (by decide) rfl dX10_findWays_162 ?_
    refine J_iload (i := 6) rfl dX10_findWays_164 ?_
    refine J_if_lt (tgt := 209) dX10_findWays_166 (by decide) (fun hb9 => ?_) (fun hb9 => ?_)
    · replace hw := hw.1 hb9
      refine J_iinc [(5, .int (x5 + 1)), (6, .int v2), (0, .ref 63), (2, .int x2), (3, .int x3), (4, .int x4)] (i := 5) (v := (x5 + 1)) rfl rfl (by decide) rfl dX10_findWays_209 ?_
      refine J_goto (tgt := 143) dX10_findWays_212 (by decide) ?_
      exact J_sub [2, 3, 4, 5, 0] rfl hw
    · replace hw := hw.2 hb9
      refine J_aload_n rfl (i := 0) rfl dX10_findWays_169 ?_
      refine J_getr kls_10 (q := 63) (k := 35) sh_63 (by decide) rfl gw_1468 dX10_findWays_170 ?_
      refine J_iload (i := 6) rfl dX10_findWays_173 ?_
      obtain ⟨j4, ej4, hj4, hw⟩ := hw
      refine J_iald sh_79 ej4 hj4 (by decide) dX10_findWays_175 ?_
      refine J_ldcw gw_1763 dX10_findWays_176 ?_
      refine J_icmp_ne (tgt := 209) dX10_findWays_179 (by decide) (fun hb8 => ?_) (fun hb8 => ?_)
      · replace hw := hw.1 hb8
        refine J_iinc [(5, .int (x5 + 1)), (6, .int v2), (0, .ref 63), (2, .int x2), (3, .int x3), (4, .int x4)] (i := 5) (v := (x5 + 1)) rfl rfl (by decide) rfl dX10_findWays_209 ?_
        refine J_goto (tgt := 143) dX10_findWays_212 (by decide) ?_
        exact J_sub [2, 3, 4, 5, 0] rfl hw
      · replace hw := hw.2 hb8
        refine J_aload_n rfl (i := 0) rfl dX10_findWays_182 ?_
        refine J_getr kls_10 (q := 63) (k := 35) sh_63 (by decide) rfl gw_1468 dX10_findWays_183 ?_
        refine J_iload (i := 6) rfl dX10_findWays_186 ?_
        refine J_aload_n rfl (i := 0) rfl dX10_findWays_188 ?_
        refine J_getr kls_10 (q := 63) (k := 35) sh_63 (by decide) rfl gw_1468 dX10_findWays_189 ?_
        refine J_iload (i := 4) rfl dX10_findWays_192 ?_
        obtain ⟨j5, ej5, hj5, hw⟩ := hw
        refine J_iald sh_79 ej5 hj5 (by decide) dX10_findWays_194 ?_
        refine J_iconst (v := 1) (by decide) dX10_findWays_195 ?_
        refine J_iadd dX10_findWays_196 ?_
        obtain ⟨j6, ej6, hj6, hw⟩ := hw
        refine J_iast sh_79 ej6 hj6 (by decide) dX10_findWays_197 ?_
        refine J_aload_n rfl (i := 0) rfl dX10_findWays_198 ?_
        refine J_getr kls_10 (q := 63) (k := 36) sh_63 (by decide) rfl gw_1469 dX10_findWays_199 ?_
        refine J_iload_n rfl (i := 2) rfl dX10_findWays_202 ?_
        refine J_iload (i := 6) rfl dX10_findWays_203 ?_
        obtain ⟨j7, ej7, hj7, hw⟩ := hw
        refine J_iast sh_80 ej7 hj7 (by decide) dX10_findWays_205 ?_
        refine J_iinc [(2, .int (x2 + 1)), (6, .int v2), (0, .ref 63), (3, .int x3), (4, .int x4), (5, .int x5)] (i := 2) (v := (x2 + 1)) rfl rfl (by decide) rfl dX10_findWays_206 ?_
        refine J_iinc [(5, .int (x5 + 1)), (2, .int (x2 + 1)), (6, .int v2), (0, .ref 63), (3, .int x3), (4, .int x4)] (i := 5) (v := (x5 + 1)) rfl rfl (by decide) rfl dX10_findWays_209 ?_
        refine J_goto (tgt := 143) dX10_findWays_212 (by decide) ?_
        exact J_sub [3, 1, 4, 5, 0] rfl hw
theorem dX10_after_0 : decode cX10_after 0 = .ok (.aload_n 0, 1) := by decide +kernel
theorem dX10_after_1 : decode cX10_after 1 = .ok (.iload_n 2, 1) := by decide +kernel
theorem dX10_after_2 : decode cX10_after 2 = .ok (.iconst 3, 1) := by decide +kernel
theorem dX10_after_3 : decode cX10_after 3 = .ok (.idiv, 1) := by decide +kernel
theorem dX10_after_4 : decode cX10_after 4 = .ok (.invokevirtual 304, 3) := by decide +kernel
theorem dX10_after_7 : decode cX10_after 7 = .ok (.istore_n 3, 1) := by decide +kernel
theorem dX10_after_8 : decode cX10_after 8 = .ok (.iload_n 1, 1) := by decide +kernel
theorem dX10_after_9 : decode cX10_after 9 = .ok (.iload_n 3, 1) := by decide +kernel
theorem dX10_after_10 : decode cX10_after 10 = .ok (.invokestatic 316, 3) := by decide +kernel
theorem dX10_after_13 : decode cX10_after 13 = .ok (.istore 4, 2) := by decide +kernel
theorem dX10_after_15 : decode cX10_after 15 = .ok (.iload_n 2, 1) := by decide +kernel
theorem dX10_after_16 : decode cX10_after 16 = .ok (.iconst 3, 1) := by decide +kernel
theorem dX10_after_17 : decode cX10_after 17 = .ok (.irem, 1) := by decide +kernel
theorem dX10_after_18 : decode cX10_after 18 = .ok (.istore 5, 2) := by decide +kernel
theorem dX10_after_20 : decode cX10_after 20 = .ok (.iload 4, 2) := by decide +kernel
theorem dX10_after_22 : decode cX10_after 22 = .ok (.ifCond .ne 7, 3) := by decide +kernel
theorem dX10_after_25 : decode cX10_after 25 = .ok (.iconst 1, 1) := by decide +kernel
theorem dX10_after_26 : decode cX10_after 26 = .ok (.goto 4, 3) := by decide +kernel
theorem dX10_after_29 : decode cX10_after 29 = .ok (.iconst 0, 1) := by decide +kernel
theorem dX10_after_30 : decode cX10_after 30 = .ok (.iload 5, 2) := by decide +kernel
theorem dX10_after_32 : decode cX10_after 32 = .ok (.ifCond .ne 7, 3) := by decide +kernel
theorem dX10_after_35 : decode cX10_after 35 = .ok (.iconst 1, 1) := by decide +kernel
theorem dX10_after_36 : decode cX10_after 36 = .ok (.goto 4, 3) := by decide +kernel
theorem dX10_after_39 : decode cX10_after 39 = .ok (.iconst 0, 1) := by decide +kernel
theorem dX10_after_40 : decode cX10_after 40 = .ok (.if_icmp .ne 7, 3) := by decide +kernel
theorem dX10_after_43 : decode cX10_after 43 = .ok (.iconst (-1), 1) := by decide +kernel
theorem dX10_after_44 : decode cX10_after 44 = .ok (.goto 12, 3) := by decide +kernel
theorem dX10_after_47 : decode cX10_after 47 = .ok (.iload_n 1, 1) := by decide +kernel
theorem dX10_after_48 : decode cX10_after 48 = .ok (.iload_n 3, 1) := by decide +kernel
theorem dX10_after_49 : decode cX10_after 49 = .ok (.iload 5, 2) := by decide +kernel
theorem dX10_after_51 : decode cX10_after 51 = .ok (.iload 4, 2) := by decide +kernel
theorem dX10_after_53 : decode cX10_after 53 = .ok (.isub, 1) := by decide +kernel
theorem dX10_after_54 : decode cX10_after 54 = .ok (.imul, 1) := by decide +kernel
theorem dX10_after_55 : decode cX10_after 55 = .ok (.iadd, 1) := by decide +kernel
theorem dX10_after_56 : decode cX10_after 56 = .ok (.ireturn, 1) := by decide +kernel
set_option maxRecDepth 20000 in
theorem bX10_after_0 {G : Gx} {mm : Nat → Nat → Int32} {lm : Nat → Int64} {x1 : Int32} {x2 : Int32} {o : Ou} {z : Wd} {a b : Nat} (hw : ∃ (v2 : Int32), Ct G M_X10_powerOf [.ref 63, .int (x2 / 3)] (SH, mm, lm) false (.inl (some (.int v2))) (SH, mm, lm) false 0 0 ∧ ∃ (v5 : Int32), Ct G M_X10_digitOf [.int x1, .int v2] (SH, mm, lm) false (.inl (some (.int v5))) (SH, mm, lm) false 0 0 ∧ ((¬ v5 = 0) → ((¬ (x2 - x2 / 3 * 3) = 0) → o = .inl (some (.int (-1))) ∧ z = (SH, mm, lm)) ∧ (((x2 - x2 / 3 * 3) = 0) → o = .inl (some (.int (x1 + (v2 * ((x2 - x2 / 3 * 3) - v5))))) ∧ z = (SH, mm, lm))) ∧ ((v5 = 0) → ((¬ (x2 - x2 / 3 * 3) = 0) → o = .inl (some (.int (x1 + (v2 * ((x2 - x2 / 3 * 3) - v5))))) ∧ z = (SH, mm, lm)) ∧ (((x2 - x2 / 3 * 3) = 0) → o = .inl (some (.int (-1))) ∧ z = (SH, mm, lm)))) :
    J G M_X10_after 0 [(0, .ref 63), (1, .int x1), (2, .int x2)] [] (SH, mm, lm) false o z false a b := by
  refine J_aload_n rfl (i := 0) rfl dX10_after_0 ?_
  refine J_iload_n rfl (i := 2) rfl dX10_after_1 ?_
  refine J_iconst (v := 3) (by decide) dX10_after_2 ?_
  refine J_idiv (by decide) dX10_after_3 ?_
  obtain ⟨v2, hc1, hw⟩ := hw
  refine J_callV (as := [.int (x2 / 3)]) (k := 63) (st := []) cal_X10_powerOf cai_X10_powerOf gw_1826 ⟨by decide, by decide⟩ cnt_X10_powerOf sh_63 rfl rfl (Nat.le_of_ble_eq_true rfl) dX10_after_4 (Nat.zero_add _).symm (Nat.zero_add _).symm hc1 ?_
  refine J_istore_n [(3, .int v2), (0, .ref 63), (1, .int x1), (2, .int x2)] rfl (i := 3) (by decide) rfl dX10_after_7 ?_
  refine J_iload_n rfl (i := 1) rfl dX10_after_8 ?_
  refine J_iload_n rfl (i := 3) rfl dX10_after_9 ?_
  obtain ⟨v5, hc4, hw⟩ := hw
  refine J_callS (as := [.int x1, .int v2]) (st := []) cal_X10_digitOf cas_X10_digitOf gw_1842 ⟨by decide, by decide⟩ cnt_X10_digitOf rfl (Nat.le_of_ble_eq_true rfl) dX10_after_10 (Nat.zero_add _).symm (Nat.zero_add _).symm hc4 ?_
  refine J_istore [(4, .int v5), (3, .int v2), (0, .ref 63), (1, .int x1), (2, .int x2)] (i := 4) (by decide) rfl dX10_after_13 ?_
  refine J_iload_n rfl (i := 2) rfl dX10_after_15 ?_
  refine J_iconst (v := 3) (by decide) dX10_after_16 ?_
  refine J_irem (by decide) dX10_after_17 ?_
  refine J_istore [(5, .int (x2 - x2 / 3 * 3)), (4, .int v5), (3, .int v2), (0, .ref 63), (1, .int x1), (2, .int x2)] (i := 5) (by decide) rfl dX10_after_18 ?_
  refine J_iload (i := 4) rfl dX10_after_20 ?_
  refine J_if_ne (tgt := 29) dX10_after_22 (by decide) (fun hb13 => ?_) (fun hb13 => ?_)
  · replace hw := hw.1 hb13
    refine J_iconst (v := 0) (by decide) dX10_after_29 ?_
    refine J_iload (i := 5) rfl dX10_after_30 ?_
    refine J_if_ne (tgt := 39) dX10_after_32 (by decide) (fun hb9 => ?_) (fun hb9 => ?_)
    · replace hw := hw.1 hb9
      refine J_iconst (v := 0) (by decide) dX10_after_39 ?_
      refine J_icmp_ne (tgt := 47) dX10_after_40 (by decide) (fun hb7 => absurd hb7 (by decide)) (fun _ => ?_)
      refine J_iconst (v := (-1)) (by decide) dX10_after_43 ?_
      refine J_goto (tgt := 56) dX10_after_44 (by decide) ?_
      exact J_fini (ty := .int) rfl rfl dX10_after_56 hw
    · replace hw := hw.2 hb9
      refine J_iconst (v := 1) (by decide) dX10_after_35 ?_
      refine J_goto (tgt := 40) dX10_after_36 (by decide) ?_
      refine J_icmp_ne (tgt := 47) dX10_after_40 (by decide) (fun _ => ?_) (fun hb8 => absurd hb8 (by decide))
      refine J_iload_n rfl (i := 1) rfl dX10_after_47 ?_
      refine J_iload_n rfl (i := 3) rfl dX10_after_48 ?_
      refine J_iload (i := 5) rfl dX10_after_49 ?_
      refine J_iload (i := 4) rfl dX10_after_51 ?_
      refine J_isub dX10_after_53 ?_
      refine J_imul dX10_after_54 ?_
      refine J_iadd dX10_after_55 ?_
      exact J_fini (ty := .int) rfl rfl dX10_after_56 hw
  · replace hw := hw.2 hb13
    refine J_iconst (v := 1) (by decide) dX10_after_25 ?_
    refine J_goto (tgt := 30) dX10_after_26 (by decide) ?_
    refine J_iload (i := 5) rfl dX10_after_30 ?_
    refine J_if_ne (tgt := 39) dX10_after_32 (by decide) (fun hb12 => ?_) (fun hb12 => ?_)
    · replace hw := hw.1 hb12
      refine J_iconst (v := 0) (by decide) dX10_after_39 ?_
      refine J_icmp_ne (tgt := 47) dX10_after_40 (by decide) (fun _ => ?_) (fun hb10 => absurd hb10 (by decide))
      refine J_iload_n rfl (i := 1) rfl dX10_after_47 ?_
      refine J_iload_n rfl (i := 3) rfl dX10_after_48 ?_
      refine J_iload (i := 5) rfl dX10_after_49 ?_
      refine J_iload (i := 4) rfl dX10_after_51 ?_
      refine J_isub dX10_after_53 ?_
      refine J_imul dX10_after_54 ?_
      refine J_iadd dX10_after_55 ?_
      exact J_fini (ty := .int) rfl rfl dX10_after_56 hw
    · replace hw := hw.2 hb12
      refine J_iconst (v := 1) (by decide) dX10_after_35 ?_
      refine J_goto (tgt := 40) dX10_after_36 (by decide) ?_
      refine J_icmp_ne (tgt := 47) dX10_after_40 (by decide) (fun hb11 => absurd hb11 (by decide)) (fun _ => ?_)
      refine J_iconst (v := (-1)) (by decide) dX10_after_43 ?_
      refine J_goto (tgt := 56) dX10_after_44 (by decide) ?_
      exact J_fini (ty := .int) rfl rfl dX10_after_56 hw
theorem dX10_stepsToPlan_0 : decode cX10_stepsToPlan 0 = .ok (.aload_n 0, 1) := by decide +kernel
theorem dX10_stepsToPlan_1 : decode cX10_stepsToPlan 1 = .ok (.iconst 1, 1) := by decide +kernel
theorem dX10_stepsToPlan_2 : decode cX10_stepsToPlan 2 = .ok (.invokevirtual 221, 3) := by decide +kernel
theorem dX10_stepsToPlan_5 : decode cX10_stepsToPlan 5 = .ok (.ifCond .eq 5, 3) := by decide +kernel
theorem dX10_stepsToPlan_8 : decode cX10_stepsToPlan 8 = .ok (.iconst 0, 1) := by decide +kernel
theorem dX10_stepsToPlan_9 : decode cX10_stepsToPlan 9 = .ok (.ireturn, 1) := by decide +kernel
theorem dX10_stepsToPlan_10 : decode cX10_stepsToPlan 10 = .ok (.aload_n 0, 1) := by decide +kernel
theorem dX10_stepsToPlan_11 : decode cX10_stepsToPlan 11 = .ok (.invokevirtual 319, 3) := by decide +kernel
theorem dX10_stepsToPlan_14 : decode cX10_stepsToPlan 14 = .ok (.aload_n 0, 1) := by decide +kernel
theorem dX10_stepsToPlan_15 : decode cX10_stepsToPlan 15 = .ok (.getfield 59, 3) := by decide +kernel
theorem dX10_stepsToPlan_18 : decode cX10_stepsToPlan 18 = .ok (.aload_n 0, 1) := by decide +kernel
theorem dX10_stepsToPlan_19 : decode cX10_stepsToPlan 19 = .ok (.invokevirtual 322, 3) := by decide +kernel
theorem dX10_stepsToPlan_22 : decode cX10_stepsToPlan 22 = .ok (.iaload, 1) := by decide +kernel
theorem dX10_stepsToPlan_23 : decode cX10_stepsToPlan 23 = .ok (.istore_n 1, 1) := by decide +kernel
theorem dX10_stepsToPlan_24 : decode cX10_stepsToPlan 24 = .ok (.iload_n 1, 1) := by decide +kernel
theorem dX10_stepsToPlan_25 : decode cX10_stepsToPlan 25 = .ok (.ldc_w 276, 3) := by decide +kernel
theorem dX10_stepsToPlan_28 : decode cX10_stepsToPlan 28 = .ok (.if_icmp .ne 8, 3) := by decide +kernel
theorem dX10_stepsToPlan_31 : decode cX10_stepsToPlan 31 = .ok (.bipush (-2), 2) := by decide +kernel
theorem dX10_stepsToPlan_33 : decode cX10_stepsToPlan 33 = .ok (.goto 4, 3) := by decide +kernel
theorem dX10_stepsToPlan_36 : decode cX10_stepsToPlan 36 = .ok (.iload_n 1, 1) := by decide +kernel
theorem dX10_stepsToPlan_37 : decode cX10_stepsToPlan 37 = .ok (.ireturn, 1) := by decide +kernel
set_option maxRecDepth 20000 in
theorem bX10_stepsToPlan_0 {G : Gx} {mm : Nat → Nat → Int32} {lm : Nat → Int64}  {o : Ou} {z : Wd} {a b : Nat} (hw : ∃ (v2 : Int32) (m3 : Nat → Nat → Int32), Ct G M_X10_isWrong [.ref 63, .int 1] (SH, mm, lm) false (.inl (some (.int v2))) (SH, m3, lm) false 0 0 ∧ ((v2 = 0) → J G M_X10_stepsToPlan 10 [(0, .ref 63)] [] (SH, m3, lm) false o z false a b) ∧ ((¬ v2 = 0) → o = .inl (some (.int 0)) ∧ z = (SH, m3, lm))) :
    J G M_X10_stepsToPlan 0 [(0, .ref 63)] [] (SH, mm, lm) false o z false a b := by
  refine J_aload_n rfl (i := 0) rfl dX10_stepsToPlan_0 ?_
  refine J_iconst (v := 1) (by decide) dX10_stepsToPlan_1 ?_
  obtain ⟨v2, m3, hc1, hw⟩ := hw
  refine J_callV (as := [.int 1]) (k := 63) (st := []) cal_X10_isWrong cai_X10_isWrong gw_1663 ⟨by decide, by decide⟩ cnt_X10_isWrong sh_63 rfl rfl (Nat.le_of_ble_eq_true rfl) dX10_stepsToPlan_2 (Nat.zero_add _).symm (Nat.zero_add _).symm hc1 ?_
  refine J_if_eq (tgt := 10) dX10_stepsToPlan_5 (by decide) (fun hb4 => ?_) (fun hb4 => ?_)
  · replace hw := hw.1 hb4
    exact hw
  · replace hw := hw.2 hb4
    refine J_iconst (v := 0) (by decide) dX10_stepsToPlan_8 ?_
    exact J_fini (ty := .int) rfl rfl dX10_stepsToPlan_9 hw
set_option maxRecDepth 20000 in
theorem bX10_stepsToPlan_10 {G : Gx} {mm : Nat → Nat → Int32} {lm : Nat → Int64}  {o : Ou} {z : Wd} {a b : Nat} (hw : ∃ (m3 : Nat → Nat → Int32), Ct G M_X10_findWays [.ref 63] (SH, mm, lm) false (.inl none) (SH, m3, lm) false 0 0 ∧ ∃ (v5 : Int32), Ct G M_X10_present [.ref 63] (SH, m3, lm) false (.inl (some (.int v5))) (SH, m3, lm) false 0 0 ∧ ∃ j7 : Nat, v5 = nI j7 ∧ j7 < 6561 ∧ ((¬ (m3 79 j7) = 1000000) → o = .inl (some (.int (m3 79 j7))) ∧ z = (SH, m3, lm)) ∧ (((m3 79 j7) = 1000000) → o = .inl (some (.int (-2))) ∧ z = (SH, m3, lm))) :
    J G M_X10_stepsToPlan 10 [(0, .ref 63)] [] (SH, mm, lm) false o z false a b := by
  refine J_aload_n rfl (i := 0) rfl dX10_stepsToPlan_10 ?_
  obtain ⟨m3, hc1, hw⟩ := hw
  refine J_callV (as := []) (k := 63) (st := []) cal_X10_findWays cai_X10_findWays gw_1822 ⟨by decide, by decide⟩ cnt_X10_findWays sh_63 rfl rfl (Nat.le_of_ble_eq_true rfl) dX10_stepsToPlan_11 (Nat.zero_add _).symm (Nat.zero_add _).symm hc1 ?_
  refine J_aload_n rfl (i := 0) rfl dX10_stepsToPlan_14 ?_
  refine J_getr kls_10 (q := 63) (k := 35) sh_63 (by decide) rfl gw_1468 dX10_stepsToPlan_15 ?_
  refine J_aload_n rfl (i := 0) rfl dX10_stepsToPlan_18 ?_
  obtain ⟨v5, hc4, hw⟩ := hw
  refine J_callV (as := []) (k := 63) (st := [.ref 79]) cal_X10_present cai_X10_present gw_1845 ⟨by decide, by decide⟩ cnt_X10_present sh_63 rfl rfl (Nat.le_of_ble_eq_true rfl) dX10_stepsToPlan_19 (Nat.zero_add _).symm (Nat.zero_add _).symm hc4 ?_
  obtain ⟨j7, ej7, hj7, hw⟩ := hw
  refine J_iald sh_79 ej7 hj7 (by decide) dX10_stepsToPlan_22 ?_
  refine J_istore_n [(1, .int (m3 79 j7)), (0, .ref 63)] rfl (i := 1) (by decide) rfl dX10_stepsToPlan_23 ?_
  refine J_iload_n rfl (i := 1) rfl dX10_stepsToPlan_24 ?_
  refine J_ldcw gw_1763 dX10_stepsToPlan_25 ?_
  refine J_icmp_ne (tgt := 36) dX10_stepsToPlan_28 (by decide) (fun hb8 => ?_) (fun hb8 => ?_)
  · replace hw := hw.1 hb8
    refine J_iload_n rfl (i := 1) rfl dX10_stepsToPlan_36 ?_
    exact J_fini (ty := .int) rfl rfl dX10_stepsToPlan_37 hw
  · replace hw := hw.2 hb8
    refine J_bipush (v := (-2)) (by decide) dX10_stepsToPlan_31 ?_
    refine J_goto (tgt := 37) dX10_stepsToPlan_33 (by decide) ?_
    exact J_fini (ty := .int) rfl rfl dX10_stepsToPlan_37 hw
theorem dX10_planStep_0 : decode cX10_planStep 0 = .ok (.aload_n 0, 1) := by decide +kernel
theorem dX10_planStep_1 : decode cX10_planStep 1 = .ok (.iload_n 1, 1) := by decide +kernel
theorem dX10_planStep_2 : decode cX10_planStep 2 = .ok (.ifCond .lt 7, 3) := by decide +kernel
theorem dX10_planStep_5 : decode cX10_planStep 5 = .ok (.iconst 1, 1) := by decide +kernel
theorem dX10_planStep_6 : decode cX10_planStep 6 = .ok (.goto 4, 3) := by decide +kernel
theorem dX10_planStep_9 : decode cX10_planStep 9 = .ok (.iconst 0, 1) := by decide +kernel
theorem dX10_planStep_10 : decode cX10_planStep 10 = .ok (.invokevirtual 221, 3) := by decide +kernel
theorem dX10_planStep_13 : decode cX10_planStep 13 = .ok (.ifCond .eq 5, 3) := by decide +kernel
theorem dX10_planStep_16 : decode cX10_planStep 16 = .ok (.iconst 0, 1) := by decide +kernel
theorem dX10_planStep_17 : decode cX10_planStep 17 = .ok (.ireturn, 1) := by decide +kernel
theorem dX10_planStep_18 : decode cX10_planStep 18 = .ok (.aload_n 0, 1) := by decide +kernel
theorem dX10_planStep_19 : decode cX10_planStep 19 = .ok (.invokevirtual 319, 3) := by decide +kernel
theorem dX10_planStep_22 : decode cX10_planStep 22 = .ok (.aload_n 0, 1) := by decide +kernel
theorem dX10_planStep_23 : decode cX10_planStep 23 = .ok (.invokevirtual 322, 3) := by decide +kernel
theorem dX10_planStep_26 : decode cX10_planStep 26 = .ok (.istore_n 2, 1) := by decide +kernel
theorem dX10_planStep_27 : decode cX10_planStep 27 = .ok (.aload_n 0, 1) := by decide +kernel
theorem dX10_planStep_28 : decode cX10_planStep 28 = .ok (.getfield 59, 3) := by decide +kernel
theorem dX10_planStep_31 : decode cX10_planStep 31 = .ok (.iload_n 2, 1) := by decide +kernel
theorem dX10_planStep_32 : decode cX10_planStep 32 = .ok (.iaload, 1) := by decide +kernel
theorem dX10_planStep_33 : decode cX10_planStep 33 = .ok (.ldc_w 276, 3) := by decide +kernel
theorem dX10_planStep_36 : decode cX10_planStep 36 = .ok (.if_icmp .ne 6, 3) := by decide +kernel
theorem dX10_planStep_39 : decode cX10_planStep 39 = .ok (.bipush (-2), 2) := by decide +kernel
theorem dX10_planStep_41 : decode cX10_planStep 41 = .ok (.ireturn, 1) := by decide +kernel
theorem dX10_planStep_42 : decode cX10_planStep 42 = .ok (.iload_n 1, 1) := by decide +kernel
theorem dX10_planStep_43 : decode cX10_planStep 43 = .ok (.aload_n 0, 1) := by decide +kernel
theorem dX10_planStep_44 : decode cX10_planStep 44 = .ok (.getfield 59, 3) := by decide +kernel
theorem dX10_planStep_47 : decode cX10_planStep 47 = .ok (.iload_n 2, 1) := by decide +kernel
theorem dX10_planStep_48 : decode cX10_planStep 48 = .ok (.iaload, 1) := by decide +kernel
theorem dX10_planStep_49 : decode cX10_planStep 49 = .ok (.if_icmp .lt 6, 3) := by decide +kernel
theorem dX10_planStep_52 : decode cX10_planStep 52 = .ok (.bipush (-3), 2) := by decide +kernel
theorem dX10_planStep_54 : decode cX10_planStep 54 = .ok (.ireturn, 1) := by decide +kernel
theorem dX10_planStep_55 : decode cX10_planStep 55 = .ok (.iload_n 1, 1) := by decide +kernel
theorem dX10_planStep_56 : decode cX10_planStep 56 = .ok (.istore_n 3, 1) := by decide +kernel
theorem dX10_planStep_57 : decode cX10_planStep 57 = .ok (.iconst 0, 1) := by decide +kernel
theorem dX10_planStep_58 : decode cX10_planStep 58 = .ok (.istore 4, 2) := by decide +kernel
theorem dX10_planStep_60 : decode cX10_planStep 60 = .ok (.aload_n 0, 1) := by decide +kernel
theorem dX10_planStep_61 : decode cX10_planStep 61 = .ok (.iload_n 2, 1) := by decide +kernel
theorem dX10_planStep_62 : decode cX10_planStep 62 = .ok (.iload 4, 2) := by decide +kernel
theorem dX10_planStep_64 : decode cX10_planStep 64 = .ok (.invokevirtual 313, 3) := by decide +kernel
theorem dX10_planStep_67 : decode cX10_planStep 67 = .ok (.ifCond .lt 26, 3) := by decide +kernel
theorem dX10_planStep_70 : decode cX10_planStep 70 = .ok (.aload_n 0, 1) := by decide +kernel
theorem dX10_planStep_71 : decode cX10_planStep 71 = .ok (.getfield 59, 3) := by decide +kernel
theorem dX10_planStep_74 : decode cX10_planStep 74 = .ok (.aload_n 0, 1) := by decide +kernel
theorem dX10_planStep_75 : decode cX10_planStep 75 = .ok (.iload_n 2, 1) := by decide +kernel
theorem dX10_planStep_76 : decode cX10_planStep 76 = .ok (.iload 4, 2) := by decide +kernel
theorem dX10_planStep_78 : decode cX10_planStep 78 = .ok (.invokevirtual 313, 3) := by decide +kernel
theorem dX10_planStep_81 : decode cX10_planStep 81 = .ok (.iaload, 1) := by decide +kernel
theorem dX10_planStep_82 : decode cX10_planStep 82 = .ok (.aload_n 0, 1) := by decide +kernel
theorem dX10_planStep_83 : decode cX10_planStep 83 = .ok (.getfield 59, 3) := by decide +kernel
theorem dX10_planStep_86 : decode cX10_planStep 86 = .ok (.iload_n 2, 1) := by decide +kernel
theorem dX10_planStep_87 : decode cX10_planStep 87 = .ok (.iaload, 1) := by decide +kernel
theorem dX10_planStep_88 : decode cX10_planStep 88 = .ok (.iconst 1, 1) := by decide +kernel
theorem dX10_planStep_89 : decode cX10_planStep 89 = .ok (.isub, 1) := by decide +kernel
theorem dX10_planStep_90 : decode cX10_planStep 90 = .ok (.if_icmp .eq 9, 3) := by decide +kernel
theorem dX10_planStep_93 : decode cX10_planStep 93 = .ok (.iinc 4 1, 3) := by decide +kernel
theorem dX10_planStep_96 : decode cX10_planStep 96 = .ok (.goto (-36), 3) := by decide +kernel
theorem dX10_planStep_99 : decode cX10_planStep 99 = .ok (.iload_n 3, 1) := by decide +kernel
theorem dX10_planStep_100 : decode cX10_planStep 100 = .ok (.ifCond .ne 6, 3) := by decide +kernel
theorem dX10_planStep_103 : decode cX10_planStep 103 = .ok (.iload 4, 2) := by decide +kernel
theorem dX10_planStep_105 : decode cX10_planStep 105 = .ok (.ireturn, 1) := by decide +kernel
theorem dX10_planStep_106 : decode cX10_planStep 106 = .ok (.aload_n 0, 1) := by decide +kernel
theorem dX10_planStep_107 : decode cX10_planStep 107 = .ok (.iload_n 2, 1) := by decide +kernel
theorem dX10_planStep_108 : decode cX10_planStep 108 = .ok (.iload 4, 2) := by decide +kernel
theorem dX10_planStep_110 : decode cX10_planStep 110 = .ok (.invokevirtual 313, 3) := by decide +kernel
theorem dX10_planStep_113 : decode cX10_planStep 113 = .ok (.istore_n 2, 1) := by decide +kernel
theorem dX10_planStep_114 : decode cX10_planStep 114 = .ok (.iinc 3 (-1), 3) := by decide +kernel
theorem dX10_planStep_117 : decode cX10_planStep 117 = .ok (.goto (-60), 3) := by decide +kernel
set_option maxRecDepth 20000 in
theorem bX10_planStep_0 {G : Gx} {mm : Nat → Nat → Int32} {lm : Nat → Int64} {x1 : Int32} {o : Ou} {z : Wd} {a b : Nat} (hw : ((x1 < 0) → ∃ (v2 : Int32) (m3 : Nat → Nat → Int32), Ct G M_X10_isWrong [.ref 63, .int 0] (SH, mm, lm) false (.inl (some (.int v2))) (SH, m3, lm) false 0 0 ∧ ((v2 = 0) → J G M_X10_planStep 18 [(0, .ref 63), (1, .int x1)] [] (SH, m3, lm) false o z false a b) ∧ ((¬ v2 = 0) → o = .inl (some (.int 0)) ∧ z = (SH, m3, lm))) ∧ ((¬ x1 < 0) → ∃ (v6 : Int32) (m7 : Nat → Nat → Int32), Ct G M_X10_isWrong [.ref 63, .int 1] (SH, mm, lm) false (.inl (some (.int v6))) (SH, m7, lm) false 0 0 ∧ ((v6 = 0) → J G M_X10_planStep 18 [(0, .ref 63), (1, .int x1)] [] (SH, m7, lm) false o z false a b) ∧ ((¬ v6 = 0) → o = .inl (some (.int 0)) ∧ z = (SH, m7, lm)))) :
    J G M_X10_planStep 0 [(0, .ref 63), (1, .int x1)] [] (SH, mm, lm) false o z false a b := by
  refine J_aload_n rfl (i := 0) rfl dX10_planStep_0 ?_
  refine J_iload_n rfl (i := 1) rfl dX10_planStep_1 ?_
  refine J_if_lt (tgt := 9) dX10_planStep_2 (by decide) (fun hb9 => ?_) (fun hb9 => ?_)
  · replace hw := hw.1 hb9
    refine J_iconst (v := 0) (by decide) dX10_planStep_9 ?_
    obtain ⟨v2, m3, hc1, hw⟩ := hw
    refine J_callV (as := [.int 0]) (k := 63) (st := []) cal_X10_isWrong cai_X10_isWrong gw_1663 ⟨by decide, by decide⟩ cnt_X10_isWrong sh_63 rfl rfl (Nat.le_of_ble_eq_true rfl) dX10_planStep_10 (Nat.zero_add _).symm (Nat.zero_add _).symm hc1 ?_
    refine J_if_eq (tgt := 18) dX10_planStep_13 (by decide) (fun hb4 => ?_) (fun hb4 => ?_)
    · replace hw := hw.1 hb4
      exact hw
    · replace hw := hw.2 hb4
      refine J_iconst (v := 0) (by decide) dX10_planStep_16 ?_
      exact J_fini (ty := .int) rfl rfl dX10_planStep_17 hw
  · replace hw := hw.2 hb9
    refine J_iconst (v := 1) (by decide) dX10_planStep_5 ?_
    refine J_goto (tgt := 10) dX10_planStep_6 (by decide) ?_
    obtain ⟨v6, m7, hc5, hw⟩ := hw
    refine J_callV (as := [.int 1]) (k := 63) (st := []) cal_X10_isWrong cai_X10_isWrong gw_1663 ⟨by decide, by decide⟩ cnt_X10_isWrong sh_63 rfl rfl (Nat.le_of_ble_eq_true rfl) dX10_planStep_10 (Nat.zero_add _).symm (Nat.zero_add _).symm hc5 ?_
    refine J_if_eq (tgt := 18) dX10_planStep_13 (by decide) (fun hb8 => ?_) (fun hb8 => ?_)
    · replace hw := hw.1 hb8
      exact hw
    · replace hw := hw.2 hb8
      refine J_iconst (v := 0) (by decide) dX10_planStep_16 ?_
      exact J_fini (ty := .int) rfl rfl dX10_planStep_17 hw
set_option maxRecDepth 20000 in
theorem bX10_planStep_18 {G : Gx} {mm : Nat → Nat → Int32} {lm : Nat → Int64} {x1 : Int32} {o : Ou} {z : Wd} {a b : Nat} (hw : ∃ (m3 : Nat → Nat → Int32), Ct G M_X10_findWays [.ref 63] (SH, mm, lm) false (.inl none) (SH, m3, lm) false 0 0 ∧ ∃ (v5 : Int32), Ct G M_X10_present [.ref 63] (SH, m3, lm) false (.inl (some (.int v5))) (SH, m3, lm) false 0 0 ∧ ∃ j7 : Nat, v5 = nI j7 ∧ j7 < 6561 ∧ ((¬ (m3 79 j7) = 1000000) → ∃ j8 : Nat, v5 = nI j8 ∧ j8 < 6561 ∧ ((x1 < (m3 79 j8)) → J G M_X10_planStep 57 [(0, .ref 63), (2, .int v5), (3, .int x1)] [] (SH, m3, lm) false o z false a b) ∧ ((¬ x1 < (m3 79 j8)) → o = .inl (some (.int (-3))) ∧ z = (SH, m3, lm))) ∧ (((m3 79 j7) = 1000000) → o = .inl (some (.int (-2))) ∧ z = (SH, m3, lm))) :
    J G M_X10_planStep 18 [(0, .ref 63), (1, .int x1)] [] (SH, mm, lm) false o z false a b := by
  refine J_aload_n rfl (i := 0) rfl dX10_planStep_18 ?_
  obtain ⟨m3, hc1, hw⟩ := hw
  refine J_callV (as := []) (k := 63) (st := []) cal_X10_findWays cai_X10_findWays gw_1822 ⟨by decide, by decide⟩ cnt_X10_findWays sh_63 rfl rfl (Nat.le_of_ble_eq_true rfl) dX10_planStep_19 (Nat.zero_add _).symm (Nat.zero_add _).symm hc1 ?_
  refine J_aload_n rfl (i := 0) rfl dX10_planStep_22 ?_
  obtain ⟨v5, hc4, hw⟩ := hw
  refine J_callV (as := []) (k := 63) (st := []) cal_X10_present cai_X10_present gw_1845 ⟨by decide, by decide⟩ cnt_X10_present sh_63 rfl rfl (Nat.le_of_ble_eq_true rfl) dX10_planStep_23 (Nat.zero_add _).symm (Nat.zero_add _).symm hc4 ?_
  refine J_istore_n [(2, .int v5), (0, .ref 63), (1, .int x1)] rfl (i := 2) (by decide) rfl dX10_planStep_26 ?_
  refine J_aload_n rfl (i := 0) rfl dX10_planStep_27 ?_
  refine J_getr kls_10 (q := 63) (k := 35) sh_63 (by decide) rfl gw_1468 dX10_planStep_28 ?_
  refine J_iload_n rfl (i := 2) rfl dX10_planStep_31 ?_
  obtain ⟨j7, ej7, hj7, hw⟩ := hw
  refine J_iald sh_79 ej7 hj7 (by decide) dX10_planStep_32 ?_
  refine J_ldcw gw_1763 dX10_planStep_33 ?_
  refine J_icmp_ne (tgt := 42) dX10_planStep_36 (by decide) (fun hb10 => ?_) (fun hb10 => ?_)
  · replace hw := hw.1 hb10
    refine J_iload_n rfl (i := 1) rfl dX10_planStep_42 ?_
    refine J_aload_n rfl (i := 0) rfl dX10_planStep_43 ?_
    refine J_getr kls_10 (q := 63) (k := 35) sh_63 (by decide) rfl gw_1468 dX10_planStep_44 ?_
    refine J_iload_n rfl (i := 2) rfl dX10_planStep_47 ?_
    obtain ⟨j8, ej8, hj8, hw⟩ := hw
    refine J_iald sh_79 ej8 hj8 (by decide) dX10_planStep_48 ?_
    refine J_icmp_lt (tgt := 55) dX10_planStep_49 (by decide) (fun hb9 => ?_) (fun hb9 => ?_)
    · replace hw := hw.1 hb9
      refine J_iload_n rfl (i := 1) rfl dX10_planStep_55 ?_
      refine J_istore_n [(3, .int x1), (2, .int v5), (0, .ref 63), (1, .int x1)] rfl (i := 3) (by decide) rfl dX10_planStep_56 ?_
      exact J_sub [2, 1, 0] rfl hw
    · replace hw := hw.2 hb9
      refine J_bipush (v := (-3)) (by decide) dX10_planStep_52 ?_
      exact J_fini (ty := .int) rfl rfl dX10_planStep_54 hw
  · replace hw := hw.2 hb10
    refine J_bipush (v := (-2)) (by decide) dX10_planStep_39 ?_
    exact J_fini (ty := .int) rfl rfl dX10_planStep_41 hw
set_option maxRecDepth 20000 in
theorem bX10_planStep_57 {G : Gx} {mm : Nat → Nat → Int32} {lm : Nat → Int64} {x2 : Int32} {x3 : Int32} {o : Ou} {z : Wd} {a b : Nat} (hw : J G M_X10_planStep 60 [(0, .ref 63), (2, .int x2), (3, .int x3), (4, .int 0)] [] (SH, mm, lm) false o z false a b) :
    J G M_X10_planStep 57 [(0, .ref 63), (2, .int x2), (3, .int x3)] [] (SH, mm, lm) false o z false a b := by
  refine J_iconst (v := 0) (by decide) dX10_planStep_57 ?_
  refine J_istore [(4, .int 0), (0, .ref 63), (2, .int x2), (3, .int x3)] (i := 4) (by decide) rfl dX10_planStep_58 ?_
  exact J_sub [1, 2, 3, 0] rfl hw
set_option maxRecDepth 20000 in
theorem bX10_planStep_60 {G : Gx} {mm : Nat → Nat → Int32} {lm : Nat → Int64} {x2 : Int32} {x3 : Int32} {x4 : Int32} {o : Ou} {z : Wd} {a b : Nat} (hw : ∃ (v2 : Int32), Ct G M_X10_after [.ref 63, .int x2, .int x4] (SH, mm, lm) false (.inl (some (.int v2))) (SH, mm, lm) false 0 0 ∧ ((v2 < 0) → J G M_X10_planStep 60 [(0, .ref 63), (2, .int x2), (3, .int x3), (4, .int (x4 + 1))] [] (SH, mm, lm) false o z false a b) ∧ ((¬ v2 < 0) → ∃ (v5 : Int32), Ct G M_X10_after [.ref 63, .int x2, .int x4] (SH, mm, lm) false (.inl (some (.int v5))) (SH, mm, lm) false 0 0 ∧ ∃ j7 : Nat, v5 = nI j7 ∧ j7 < 6561 ∧ ∃ j8 : Nat, x2 = nI j8 ∧ j8 < 6561 ∧ (((mm 79 j7) = ((mm 79 j8) - 1)) → ((¬ x3 = 0) → ∃ (v10 : Int32), Ct G M_X10_after [.ref 63, .int x2, .int x4] (SH, mm, lm) false (.inl (some (.int v10))) (SH, mm, lm) false 0 0 ∧ J G M_X10_planStep 57 [(0, .ref 63), (2, .int v10), (3, .int (x3 + (-1)))] [] (SH, mm, lm) false o z false a b) ∧ ((x3 = 0) → o = .inl (some (.int x4)) ∧ z = (SH, mm, lm))) ∧ ((¬ (mm 79 j7) = ((mm 79 j8) - 1)) → J G M_X10_planStep 60 [(0, .ref 63), (2, .int x2), (3, .int x3), (4, .int (x4 + 1))] [] (SH, mm, lm) false o z false a b))) :
    J G M_X10_planStep 60 [(0, .ref 63), (2, .int x2), (3, .int x3), (4, .int x4)] [] (SH, mm, lm) false o z false a b := by
  refine J_aload_n rfl (i := 0) rfl dX10_planStep_60 ?_
  refine J_iload_n rfl (i := 2) rfl dX10_planStep_61 ?_
  refine J_iload (i := 4) rfl dX10_planStep_62 ?_
  obtain ⟨v2, hc1, hw⟩ := hw
  refine J_callV (as := [.int x2, .int x4]) (k := 63) (st := []) cal_X10_after cai_X10_after gw_1838 ⟨by decide, by decide⟩ cnt_X10_after sh_63 rfl rfl (Nat.le_of_ble_eq_true rfl) dX10_planStep_64 (Nat.zero_add _).symm (Nat.zero_add _).symm hc1 ?_
  refine J_if_lt (tgt := 93) dX10_planStep_67 (by decide) (fun hb14 => ?_) (fun hb14 => ?_)
  · replace hw := hw.1 hb14
    refine J_iinc [(4, .int (x4 + 1)), (0, .ref 63), (2, .int x2), (3, .int x3)] (i := 4) (v := (x4 + 1)) rfl rfl (by decide) rfl dX10_planStep_93 ?_
    refine J_goto (tgt := 60) dX10_planStep_96 (by decide) ?_
    exact J_sub [1, 2, 3, 0] rfl hw
  · replace hw := hw.2 hb14
    refine J_aload_n rfl (i := 0) rfl dX10_planStep_70 ?_
    refine J_getr kls_10 (q := 63) (k := 35) sh_63 (by decide) rfl gw_1468 dX10_planStep_71 ?_
    refine J_aload_n rfl (i := 0) rfl dX10_planStep_74 ?_
    refine J_iload_n rfl (i := 2) rfl dX10_planStep_75 ?_
    refine J_iload (i := 4) rfl dX10_planStep_76 ?_
    obtain ⟨v5, hc4, hw⟩ := hw
    refine J_callV (as := [.int x2, .int x4]) (k := 63) (st := [.ref 79]) cal_X10_after cai_X10_after gw_1838 ⟨by decide, by decide⟩ cnt_X10_after sh_63 rfl rfl (Nat.le_of_ble_eq_true rfl) dX10_planStep_78 (Nat.zero_add _).symm (Nat.zero_add _).symm hc4 ?_
    obtain ⟨j7, ej7, hj7, hw⟩ := hw
    refine J_iald sh_79 ej7 hj7 (by decide) dX10_planStep_81 ?_
    refine J_aload_n rfl (i := 0) rfl dX10_planStep_82 ?_
    refine J_getr kls_10 (q := 63) (k := 35) sh_63 (by decide) rfl gw_1468 dX10_planStep_83 ?_
    refine J_iload_n rfl (i := 2) rfl dX10_planStep_86 ?_
    obtain ⟨j8, ej8, hj8, hw⟩ := hw
    refine J_iald sh_79 ej8 hj8 (by decide) dX10_planStep_87 ?_
    refine J_iconst (v := 1) (by decide) dX10_planStep_88 ?_
    refine J_isub dX10_planStep_89 ?_
    refine J_icmp_eq (tgt := 99) dX10_planStep_90 (by decide) (fun hb13 => ?_) (fun hb13 => ?_)
    · replace hw := hw.1 hb13
      refine J_iload_n rfl (i := 3) rfl dX10_planStep_99 ?_
      refine J_if_ne (tgt := 106) dX10_planStep_100 (by decide) (fun hb12 => ?_) (fun hb12 => ?_)
      · replace hw := hw.1 hb12
        refine J_aload_n rfl (i := 0) rfl dX10_planStep_106 ?_
        refine J_iload_n rfl (i := 2) rfl dX10_planStep_107 ?_
        refine J_iload (i := 4) rfl dX10_planStep_108 ?_
        obtain ⟨v10, hc9, hw⟩ := hw
        refine J_callV (as := [.int x2, .int x4]) (k := 63) (st := []) cal_X10_after cai_X10_after gw_1838 ⟨by decide, by decide⟩ cnt_X10_after sh_63 rfl rfl (Nat.le_of_ble_eq_true rfl) dX10_planStep_110 (Nat.zero_add _).symm (Nat.zero_add _).symm hc9 ?_
        refine J_istore_n [(2, .int v10), (0, .ref 63), (3, .int x3), (4, .int x4)] rfl (i := 2) (by decide) rfl dX10_planStep_113 ?_
        refine J_iinc [(3, .int (x3 + (-1))), (2, .int v10), (0, .ref 63), (4, .int x4)] (i := 3) (v := (x3 + (-1))) rfl (congrArg (fun y => x3 + y) (by decide : Int32.ofInt (-1) = (-1))) (by decide) rfl dX10_planStep_114 ?_
        refine J_goto (tgt := 57) dX10_planStep_117 (by decide) ?_
        exact J_sub [2, 1, 0] rfl hw
      · replace hw := hw.2 hb12
        refine J_iload (i := 4) rfl dX10_planStep_103 ?_
        exact J_fini (ty := .int) rfl rfl dX10_planStep_105 hw
    · replace hw := hw.2 hb13
      refine J_iinc [(4, .int (x4 + 1)), (0, .ref 63), (2, .int x2), (3, .int x3)] (i := 4) (v := (x4 + 1)) rfl rfl (by decide) rfl dX10_planStep_93 ?_
      refine J_goto (tgt := 60) dX10_planStep_96 (by decide) ?_
      exact J_sub [1, 2, 3, 0] rfl hw
theorem dX10_swinging_0 : decode cX10_swinging 0 = .ok (.iconst 0, 1) := by decide +kernel
theorem dX10_swinging_1 : decode cX10_swinging 1 = .ok (.istore_n 1, 1) := by decide +kernel
theorem dX10_swinging_2 : decode cX10_swinging 2 = .ok (.iconst 0, 1) := by decide +kernel
theorem dX10_swinging_3 : decode cX10_swinging 3 = .ok (.istore_n 2, 1) := by decide +kernel
theorem dX10_swinging_4 : decode cX10_swinging 4 = .ok (.iload_n 2, 1) := by decide +kernel
theorem dX10_swinging_5 : decode cX10_swinging 5 = .ok (.aload_n 0, 1) := by decide +kernel
theorem dX10_swinging_6 : decode cX10_swinging 6 = .ok (.getfield 206, 3) := by decide +kernel
theorem dX10_swinging_9 : decode cX10_swinging 9 = .ok (.if_icmp .ge 25, 3) := by decide +kernel
theorem dX10_swinging_12 : decode cX10_swinging 12 = .ok (.iload_n 1, 1) := by decide +kernel
theorem dX10_swinging_13 : decode cX10_swinging 13 = .ok (.aload_n 0, 1) := by decide +kernel
theorem dX10_swinging_14 : decode cX10_swinging 14 = .ok (.iload_n 2, 1) := by decide +kernel
theorem dX10_swinging_15 : decode cX10_swinging 15 = .ok (.invokevirtual 325, 3) := by decide +kernel
theorem dX10_swinging_18 : decode cX10_swinging 18 = .ok (.ifCond .eq 7, 3) := by decide +kernel
theorem dX10_swinging_21 : decode cX10_swinging 21 = .ok (.iconst 1, 1) := by decide +kernel
theorem dX10_swinging_22 : decode cX10_swinging 22 = .ok (.goto 4, 3) := by decide +kernel
theorem dX10_swinging_25 : decode cX10_swinging 25 = .ok (.iconst 0, 1) := by decide +kernel
theorem dX10_swinging_26 : decode cX10_swinging 26 = .ok (.iadd, 1) := by decide +kernel
theorem dX10_swinging_27 : decode cX10_swinging 27 = .ok (.istore_n 1, 1) := by decide +kernel
theorem dX10_swinging_28 : decode cX10_swinging 28 = .ok (.iinc 2 1, 3) := by decide +kernel
theorem dX10_swinging_31 : decode cX10_swinging 31 = .ok (.goto (-27), 3) := by decide +kernel
theorem dX10_swinging_34 : decode cX10_swinging 34 = .ok (.iload_n 1, 1) := by decide +kernel
theorem dX10_swinging_35 : decode cX10_swinging 35 = .ok (.ireturn, 1) := by decide +kernel
set_option maxRecDepth 20000 in
theorem bX10_swinging_0 {G : Gx} {mm : Nat → Nat → Int32} {lm : Nat → Int64}  {o : Ou} {z : Wd} {a b : Nat} (hw : J G M_X10_swinging 4 [(0, .ref 63), (1, .int 0), (2, .int 0)] [] (SH, mm, lm) false o z false a b) :
    J G M_X10_swinging 0 [(0, .ref 63)] [] (SH, mm, lm) false o z false a b := by
  refine J_iconst (v := 0) (by decide) dX10_swinging_0 ?_
  refine J_istore_n [(1, .int 0), (0, .ref 63)] rfl (i := 1) (by decide) rfl dX10_swinging_1 ?_
  refine J_iconst (v := 0) (by decide) dX10_swinging_2 ?_
  refine J_istore_n [(2, .int 0), (1, .int 0), (0, .ref 63)] rfl (i := 2) (by decide) rfl dX10_swinging_3 ?_
  exact J_sub [2, 1, 0] rfl hw
set_option maxRecDepth 20000 in
theorem bX10_swinging_4 {G : Gx} {mm : Nat → Nat → Int32} {lm : Nat → Int64} {x1 : Int32} {x2 : Int32} {o : Ou} {z : Wd} {a b : Nat} (hw : (((mm 63 8) ≤ x2) → o = .inl (some (.int x1)) ∧ z = (SH, mm, lm)) ∧ ((¬ (mm 63 8) ≤ x2) → ∃ (v2 : Int32), Ct G M_X10_swings [.ref 63, .int x2] (SH, mm, lm) false (.inl (some (.int v2))) (SH, mm, lm) false 0 0 ∧ ((v2 = 0) → J G M_X10_swinging 4 [(0, .ref 63), (1, .int (x1 + 0)), (2, .int (x2 + 1))] [] (SH, mm, lm) false o z false a b) ∧ ((¬ v2 = 0) → J G M_X10_swinging 4 [(0, .ref 63), (1, .int (x1 + 1)), (2, .int (x2 + 1))] [] (SH, mm, lm) false o z false a b))) :
    J G M_X10_swinging 4 [(0, .ref 63), (1, .int x1), (2, .int x2)] [] (SH, mm, lm) false o z false a b := by
  refine J_iload_n rfl (i := 2) rfl dX10_swinging_4 ?_
  refine J_aload_n rfl (i := 0) rfl dX10_swinging_5 ?_
  refine J_geti kls_10 (q := 63) (k := 8) sh_63 (by decide) rfl gw_1441 dX10_swinging_6 ?_
  refine J_icmp_ge (tgt := 34) dX10_swinging_9 (by decide) (fun hb5 => ?_) (fun hb5 => ?_)
  · replace hw := hw.1 hb5
    refine J_iload_n rfl (i := 1) rfl dX10_swinging_34 ?_
    exact J_fini (ty := .int) rfl rfl dX10_swinging_35 hw
  · replace hw := hw.2 hb5
    refine J_iload_n rfl (i := 1) rfl dX10_swinging_12 ?_
    refine J_aload_n rfl (i := 0) rfl dX10_swinging_13 ?_
    refine J_iload_n rfl (i := 2) rfl dX10_swinging_14 ?_
    obtain ⟨v2, hc1, hw⟩ := hw
    refine J_callV (as := [.int x2]) (k := 63) (st := [.int x1]) cal_X10_swings cai_X10_swings gw_1862 ⟨by decide, by decide⟩ cnt_X10_swings sh_63 rfl rfl (Nat.le_of_ble_eq_true rfl) dX10_swinging_15 (Nat.zero_add _).symm (Nat.zero_add _).symm hc1 ?_
    refine J_if_eq (tgt := 25) dX10_swinging_18 (by decide) (fun hb4 => ?_) (fun hb4 => ?_)
    · replace hw := hw.1 hb4
      refine J_iconst (v := 0) (by decide) dX10_swinging_25 ?_
      refine J_iadd dX10_swinging_26 ?_
      refine J_istore_n [(1, .int (x1 + 0)), (0, .ref 63), (2, .int x2)] rfl (i := 1) (by decide) rfl dX10_swinging_27 ?_
      refine J_iinc [(2, .int (x2 + 1)), (1, .int (x1 + 0)), (0, .ref 63)] (i := 2) (v := (x2 + 1)) rfl rfl (by decide) rfl dX10_swinging_28 ?_
      refine J_goto (tgt := 4) dX10_swinging_31 (by decide) ?_
      exact J_sub [2, 1, 0] rfl hw
    · replace hw := hw.2 hb4
      refine J_iconst (v := 1) (by decide) dX10_swinging_21 ?_
      refine J_goto (tgt := 26) dX10_swinging_22 (by decide) ?_
      refine J_iadd dX10_swinging_26 ?_
      refine J_istore_n [(1, .int (x1 + 1)), (0, .ref 63), (2, .int x2)] rfl (i := 1) (by decide) rfl dX10_swinging_27 ?_
      refine J_iinc [(2, .int (x2 + 1)), (1, .int (x1 + 1)), (0, .ref 63)] (i := 2) (v := (x2 + 1)) rfl rfl (by decide) rfl dX10_swinging_28 ?_
      refine J_goto (tgt := 4) dX10_swinging_31 (by decide) ?_
      exact J_sub [2, 1, 0] rfl hw
theorem dX10_startSwing_0 : decode cX10_startSwing 0 = .ok (.aload_n 0, 1) := by decide +kernel
theorem dX10_startSwing_1 : decode cX10_startSwing 1 = .ok (.aload_n 0, 1) := by decide +kernel
theorem dX10_startSwing_2 : decode cX10_startSwing 2 = .ok (.iload_n 1, 1) := by decide +kernel
theorem dX10_startSwing_3 : decode cX10_startSwing 3 = .ok (.invokevirtual 235, 3) := by decide +kernel
theorem dX10_startSwing_6 : decode cX10_startSwing 6 = .ok (.ifCond .eq 31, 3) := by decide +kernel
theorem dX10_startSwing_9 : decode cX10_startSwing 9 = .ok (.iload_n 2, 1) := by decide +kernel
theorem dX10_startSwing_10 : decode cX10_startSwing 10 = .ok (.i2l, 1) := by decide +kernel
theorem dX10_startSwing_11 : decode cX10_startSwing 11 = .ok (.lconst 0, 1) := by decide +kernel
theorem dX10_startSwing_12 : decode cX10_startSwing 12 = .ok (.ldc2_w 328, 3) := by decide +kernel
theorem dX10_startSwing_15 : decode cX10_startSwing 15 = .ok (.invokestatic 91, 3) := by decide +kernel
theorem dX10_startSwing_18 : decode cX10_startSwing 18 = .ok (.ifCond .eq 19, 3) := by decide +kernel
theorem dX10_startSwing_21 : decode cX10_startSwing 21 = .ok (.iload_n 3, 1) := by decide +kernel
theorem dX10_startSwing_22 : decode cX10_startSwing 22 = .ok (.i2l, 1) := by decide +kernel
theorem dX10_startSwing_23 : decode cX10_startSwing 23 = .ok (.lconst 1, 1) := by decide +kernel
theorem dX10_startSwing_24 : decode cX10_startSwing 24 = .ok (.ldc2_w 227, 3) := by decide +kernel
theorem dX10_startSwing_27 : decode cX10_startSwing 27 = .ok (.invokestatic 91, 3) := by decide +kernel
theorem dX10_startSwing_30 : decode cX10_startSwing 30 = .ok (.ifCond .eq 7, 3) := by decide +kernel
theorem dX10_startSwing_33 : decode cX10_startSwing 33 = .ok (.iconst 1, 1) := by decide +kernel
theorem dX10_startSwing_34 : decode cX10_startSwing 34 = .ok (.goto 4, 3) := by decide +kernel
theorem dX10_startSwing_37 : decode cX10_startSwing 37 = .ok (.iconst 0, 1) := by decide +kernel
theorem dX10_startSwing_38 : decode cX10_startSwing 38 = .ok (.invokevirtual 221, 3) := by decide +kernel
theorem dX10_startSwing_41 : decode cX10_startSwing 41 = .ok (.ifCond .eq 5, 3) := by decide +kernel
theorem dX10_startSwing_44 : decode cX10_startSwing 44 = .ok (.iconst 0, 1) := by decide +kernel
theorem dX10_startSwing_45 : decode cX10_startSwing 45 = .ok (.ireturn, 1) := by decide +kernel
theorem dX10_startSwing_46 : decode cX10_startSwing 46 = .ok (.aload_n 0, 1) := by decide +kernel
theorem dX10_startSwing_47 : decode cX10_startSwing 47 = .ok (.iload_n 1, 1) := by decide +kernel
theorem dX10_startSwing_48 : decode cX10_startSwing 48 = .ok (.invokevirtual 244, 3) := by decide +kernel
theorem dX10_startSwing_51 : decode cX10_startSwing 51 = .ok (.ifCond .ne 6, 3) := by decide +kernel
theorem dX10_startSwing_54 : decode cX10_startSwing 54 = .ok (.bipush (-2), 2) := by decide +kernel
theorem dX10_startSwing_56 : decode cX10_startSwing 56 = .ok (.ireturn, 1) := by decide +kernel
theorem dX10_startSwing_57 : decode cX10_startSwing 57 = .ok (.aload_n 0, 1) := by decide +kernel
theorem dX10_startSwing_58 : decode cX10_startSwing 58 = .ok (.invokevirtual 257, 3) := by decide +kernel
theorem dX10_startSwing_61 : decode cX10_startSwing 61 = .ok (.aload_n 0, 1) := by decide +kernel
theorem dX10_startSwing_62 : decode cX10_startSwing 62 = .ok (.iload_n 1, 1) := by decide +kernel
theorem dX10_startSwing_63 : decode cX10_startSwing 63 = .ok (.iconst 4, 1) := by decide +kernel
theorem dX10_startSwing_64 : decode cX10_startSwing 64 = .ok (.iload_n 2, 1) := by decide +kernel
theorem dX10_startSwing_65 : decode cX10_startSwing 65 = .ok (.invokevirtual 260, 3) := by decide +kernel
theorem dX10_startSwing_68 : decode cX10_startSwing 68 = .ok (.aload_n 0, 1) := by decide +kernel
theorem dX10_startSwing_69 : decode cX10_startSwing 69 = .ok (.iload_n 1, 1) := by decide +kernel
theorem dX10_startSwing_70 : decode cX10_startSwing 70 = .ok (.iconst 5, 1) := by decide +kernel
theorem dX10_startSwing_71 : decode cX10_startSwing 71 = .ok (.iload_n 3, 1) := by decide +kernel
theorem dX10_startSwing_72 : decode cX10_startSwing 72 = .ok (.invokevirtual 260, 3) := by decide +kernel
theorem dX10_startSwing_75 : decode cX10_startSwing 75 = .ok (.aload_n 0, 1) := by decide +kernel
theorem dX10_startSwing_76 : decode cX10_startSwing 76 = .ok (.invokevirtual 330, 3) := by decide +kernel
theorem dX10_startSwing_79 : decode cX10_startSwing 79 = .ok (.ireturn, 1) := by decide +kernel
set_option maxRecDepth 20000 in
theorem bX10_startSwing_0 {G : Gx} {mm : Nat → Nat → Int32} {lm : Nat → Int64} {x1 : Int32} {x2 : Int32} {x3 : Int32} {o : Ou} {z : Wd} {a b : Nat} (hw : ∃ (v2 : Int32), Ct G M_X10_isBell [.ref 63, .int x1] (SH, mm, lm) false (.inl (some (.int v2))) (SH, mm, lm) false 0 0 ∧ ((v2 = 0) → ∃ (v5 : Int32) (m6 : Nat → Nat → Int32), Ct G M_X10_isWrong [.ref 63, .int 0] (SH, mm, lm) false (.inl (some (.int v5))) (SH, m6, lm) false 0 0 ∧ ((v5 = 0) → J G M_X10_startSwing 46 [(0, .ref 63), (1, .int x1), (2, .int x2), (3, .int x3)] [] (SH, m6, lm) false o z false a b) ∧ ((¬ v5 = 0) → o = .inl (some (.int 0)) ∧ z = (SH, m6, lm))) ∧ ((¬ v2 = 0) → ∃ (v9 : Int32), Ct G M_X10_isIn [.long (Int32.toInt64 x2), .long 0, .long 999] (SH, mm, lm) false (.inl (some (.int v9))) (SH, mm, lm) false 0 0 ∧ ((v9 = 0) → ∃ (v12 : Int32) (m13 : Nat → Nat → Int32), Ct G M_X10_isWrong [.ref 63, .int 0] (SH, mm, lm) false (.inl (some (.int v12))) (SH, m13, lm) false 0 0 ∧ ((v12 = 0) → J G M_X10_startSwing 46 [(0, .ref 63), (1, .int x1), (2, .int x2), (3, .int x3)] [] (SH, m13, lm) false o z false a b) ∧ ((¬ v12 = 0) → o = .inl (some (.int 0)) ∧ z = (SH, m13, lm))) ∧ ((¬ v9 = 0) → ∃ (v16 : Int32), Ct G M_X10_isIn [.long (Int32.toInt64 x3), .long 1, .long 15] (SH, mm, lm) false (.inl (some (.int v16))) (SH, mm, lm) false 0 0 ∧ ((v16 = 0) → ∃ (v19 : Int32) (m20 : Nat → Nat → Int32), Ct G M_X10_isWrong [.ref 63, .int 0] (SH, mm, lm) false (.inl (some (.int v19))) (SH, m20, lm) false 0 0 ∧ ((v19 = 0) → J G M_X10_startSwing 46 [(0, .ref 63), (1, .int x1), (2, .int x2), (3, .int x3)] [] (SH, m20, lm) false o z false a b) ∧ ((¬ v19 = 0) → o = .inl (some (.int 0)) ∧ z = (SH, m20, lm))) ∧ ((¬ v16 = 0) → ∃ (v23 : Int32) (m24 : Nat → Nat → Int32), Ct G M_X10_isWrong [.ref 63, .int 1] (SH, mm, lm) false (.inl (some (.int v23))) (SH, m24, lm) false 0 0 ∧ ((v23 = 0) → J G M_X10_startSwing 46 [(0, .ref 63), (1, .int x1), (2, .int x2), (3, .int x3)] [] (SH, m24, lm) false o z false a b) ∧ ((¬ v23 = 0) → o = .inl (some (.int 0)) ∧ z = (SH, m24, lm)))))) :
    J G M_X10_startSwing 0 [(0, .ref 63), (1, .int x1), (2, .int x2), (3, .int x3)] [] (SH, mm, lm) false o z false a b := by
  refine J_aload_n rfl (i := 0) rfl dX10_startSwing_0 ?_
  refine J_aload_n rfl (i := 0) rfl dX10_startSwing_1 ?_
  refine J_iload_n rfl (i := 1) rfl dX10_startSwing_2 ?_
  obtain ⟨v2, hc1, hw⟩ := hw
  refine J_callV (as := [.int x1]) (k := 63) (st := [.ref 63]) cal_X10_isBell cai_X10_isBell gw_1671 ⟨by decide, by decide⟩ cnt_X10_isBell sh_63 rfl rfl (Nat.le_of_ble_eq_true rfl) dX10_startSwing_3 (Nat.zero_add _).symm (Nat.zero_add _).symm hc1 ?_
  refine J_if_eq (tgt := 37) dX10_startSwing_6 (by decide) (fun hb28 => ?_) (fun hb28 => ?_)
  · replace hw := hw.1 hb28
    refine J_iconst (v := 0) (by decide) dX10_startSwing_37 ?_
    obtain ⟨v5, m6, hc4, hw⟩ := hw
    refine J_callV (as := [.int 0]) (k := 63) (st := []) cal_X10_isWrong cai_X10_isWrong gw_1663 ⟨by decide, by decide⟩ cnt_X10_isWrong sh_63 rfl rfl (Nat.le_of_ble_eq_true rfl) dX10_startSwing_38 (Nat.zero_add _).symm (Nat.zero_add _).symm hc4 ?_
    refine J_if_eq (tgt := 46) dX10_startSwing_41 (by decide) (fun hb7 => ?_) (fun hb7 => ?_)
    · replace hw := hw.1 hb7
      exact hw
    · replace hw := hw.2 hb7
      refine J_iconst (v := 0) (by decide) dX10_startSwing_44 ?_
      exact J_fini (ty := .int) rfl rfl dX10_startSwing_45 hw
  · replace hw := hw.2 hb28
    refine J_iload_n rfl (i := 2) rfl dX10_startSwing_9 ?_
    refine J_i2l dX10_startSwing_10 ?_
    refine J_lconst (v := 0) (by decide) dX10_startSwing_11 ?_
    refine J_ldc2 gw_1857 dX10_startSwing_12 ?_
    obtain ⟨v9, hc8, hw⟩ := hw
    refine J_callS (as := [.long (Int32.toInt64 x2), .long 0, .long 999]) (st := [.ref 63]) cal_X10_isIn cas_X10_isIn gw_1573 ⟨by decide, by decide⟩ cnt_X10_isIn rfl (Nat.le_of_ble_eq_true rfl) dX10_startSwing_15 (Nat.zero_add _).symm (Nat.zero_add _).symm hc8 ?_
    refine J_if_eq (tgt := 37) dX10_startSwing_18 (by decide) (fun hb27 => ?_) (fun hb27 => ?_)
    · replace hw := hw.1 hb27
      refine J_iconst (v := 0) (by decide) dX10_startSwing_37 ?_
      obtain ⟨v12, m13, hc11, hw⟩ := hw
      refine J_callV (as := [.int 0]) (k := 63) (st := []) cal_X10_isWrong cai_X10_isWrong gw_1663 ⟨by decide, by decide⟩ cnt_X10_isWrong sh_63 rfl rfl (Nat.le_of_ble_eq_true rfl) dX10_startSwing_38 (Nat.zero_add _).symm (Nat.zero_add _).symm hc11 ?_
      refine J_if_eq (tgt := 46) dX10_startSwing_41 (by decide) (fun hb14 => ?_) (fun hb14 => ?_)
      · replace hw := hw.1 hb14
        exact hw
      · replace hw := hw.2 hb14
        refine J_iconst (v := 0) (by decide) dX10_startSwing_44 ?_
        exact J_fini (ty := .int) rfl rfl dX10_startSwing_45 hw
    · replace hw := hw.2 hb27
      refine J_iload_n rfl (i := 3) rfl dX10_startSwing_21 ?_
      refine J_i2l dX10_startSwing_22 ?_
      refine J_lconst (v := 1) (by decide) dX10_startSwing_23 ?_
      refine J_ldc2 gw_1683 dX10_startSwing_24 ?_
      obtain ⟨v16, hc15, hw⟩ := hw
      refine J_callS (as := [.long (Int32.toInt64 x3), .long 1, .long 15]) (st := [.ref 63]) cal_X10_isIn cas_X10_isIn gw_1573 ⟨by decide, by decide⟩ cnt_X10_isIn rfl (Nat.le_of_ble_eq_true rfl) dX10_startSwing_27 (Nat.zero_add _).symm (Nat.zero_add _).symm hc15 ?_
      refine J_if_eq (tgt := 37) dX10_startSwing_30 (by decide) (fun hb26 => ?_) (fun hb26 => ?_)
      · replace hw := hw.1 hb26
        refine J_iconst (v := 0) (by decide) dX10_startSwing_37 ?_
        obtain ⟨v19, m20, hc18, hw⟩ := hw
        refine J_callV (as := [.int 0]) (k := 63) (st := []) cal_X10_isWrong cai_X10_isWrong gw_1663 ⟨by decide, by decide⟩ cnt_X10_isWrong sh_63 rfl rfl (Nat.le_of_ble_eq_true rfl) dX10_startSwing_38 (Nat.zero_add _).symm (Nat.zero_add _).symm hc18 ?_
        refine J_if_eq (tgt := 46) dX10_startSwing_41 (by decide) (fun hb21 => ?_) (fun hb21 => ?_)
        · replace hw := hw.1 hb21
          exact hw
        · replace hw := hw.2 hb21
          refine J_iconst (v := 0) (by decide) dX10_startSwing_44 ?_
          exact J_fini (ty := .int) rfl rfl dX10_startSwing_45 hw
      · replace hw := hw.2 hb26
        refine J_iconst (v := 1) (by decide) dX10_startSwing_33 ?_
        refine J_goto (tgt := 38) dX10_startSwing_34 (by decide) ?_
        obtain ⟨v23, m24, hc22, hw⟩ := hw
        refine J_callV (as := [.int 1]) (k := 63) (st := []) cal_X10_isWrong cai_X10_isWrong gw_1663 ⟨by decide, by decide⟩ cnt_X10_isWrong sh_63 rfl rfl (Nat.le_of_ble_eq_true rfl) dX10_startSwing_38 (Nat.zero_add _).symm (Nat.zero_add _).symm hc22 ?_
        refine J_if_eq (tgt := 46) dX10_startSwing_41 (by decide) (fun hb25 => ?_) (fun hb25 => ?_)
        · replace hw := hw.1 hb25
          exact hw
        · replace hw := hw.2 hb25
          refine J_iconst (v := 0) (by decide) dX10_startSwing_44 ?_
          exact J_fini (ty := .int) rfl rfl dX10_startSwing_45 hw
set_option maxRecDepth 20000 in
theorem bX10_startSwing_46 {G : Gx} {mm : Nat → Nat → Int32} {lm : Nat → Int64} {x1 : Int32} {x2 : Int32} {x3 : Int32} {o : Ou} {z : Wd} {a b : Nat} (hw : ∃ (v2 : Int32), Ct G M_X10_hangs [.ref 63, .int x1] (SH, mm, lm) false (.inl (some (.int v2))) (SH, mm, lm) false 0 0 ∧ ((¬ v2 = 0) → ∃ (m6 : Nat → Nat → Int32), Ct G M_X10_remember [.ref 63] (SH, mm, lm) false (.inl none) (SH, m6, lm) false 0 0 ∧ ∃ (m9 : Nat → Nat → Int32), Ct G M_X10_set [.ref 63, .int x1, .int 4, .int x2] (SH, m6, lm) false (.inl none) (SH, m9, lm) false 0 0 ∧ ∃ (m12 : Nat → Nat → Int32), Ct G M_X10_set [.ref 63, .int x1, .int 5, .int x3] (SH, m9, lm) false (.inl none) (SH, m12, lm) false 0 0 ∧ ∃ (v14 : Int32), Ct G M_X10_swinging [.ref 63] (SH, m12, lm) false (.inl (some (.int v14))) (SH, m12, lm) false 0 0 ∧ o = .inl (some (.int v14)) ∧ z = (SH, m12, lm)) ∧ ((v2 = 0) → o = .inl (some (.int (-2))) ∧ z = (SH, mm, lm))) :
    J G M_X10_startSwing 46 [(0, .ref 63), (1, .int x1), (2, .int x2), (3, .int x3)] [] (SH, mm, lm) false o z false a b := by
  refine J_aload_n rfl (i := 0) rfl dX10_startSwing_46 ?_
  refine J_iload_n rfl (i := 1) rfl dX10_startSwing_47 ?_
  obtain ⟨v2, hc1, hw⟩ := hw
  refine J_callV (as := [.int x1]) (k := 63) (st := []) cal_X10_hangs cai_X10_hangs gw_1684 ⟨by decide, by decide⟩ cnt_X10_hangs sh_63 rfl rfl (Nat.le_of_ble_eq_true rfl) dX10_startSwing_48 (Nat.zero_add _).symm (Nat.zero_add _).symm hc1 ?_
  refine J_if_ne (tgt := 57) dX10_startSwing_51 (by decide) (fun hb16 => ?_) (fun hb16 => ?_)
  · replace hw := hw.1 hb16
    refine J_aload_n rfl (i := 0) rfl dX10_startSwing_57 ?_
    obtain ⟨m6, hc4, hw⟩ := hw
    refine J_callV (as := []) (k := 63) (st := []) cal_X10_remember cai_X10_remember gw_1707 ⟨by decide, by decide⟩ cnt_X10_remember sh_63 rfl rfl (Nat.le_of_ble_eq_true rfl) dX10_startSwing_58 (Nat.zero_add _).symm (Nat.zero_add _).symm hc4 ?_
    refine J_aload_n rfl (i := 0) rfl dX10_startSwing_61 ?_
    refine J_iload_n rfl (i := 1) rfl dX10_startSwing_62 ?_
    refine J_iconst (v := 4) (by decide) dX10_startSwing_63 ?_
    refine J_iload_n rfl (i := 2) rfl dX10_startSwing_64 ?_
    obtain ⟨m9, hc7, hw⟩ := hw
    refine J_callV (as := [.int x1, .int 4, .int x2]) (k := 63) (st := []) cal_X10_set cai_X10_set gw_1711 ⟨by decide, by decide⟩ cnt_X10_set sh_63 rfl rfl (Nat.le_of_ble_eq_true rfl) dX10_startSwing_65 (Nat.zero_add _).symm (Nat.zero_add _).symm hc7 ?_
    refine J_aload_n rfl (i := 0) rfl dX10_startSwing_68 ?_
    refine J_iload_n rfl (i := 1) rfl dX10_startSwing_69 ?_
    refine J_iconst (v := 5) (by decide) dX10_startSwing_70 ?_
    refine J_iload_n rfl (i := 3) rfl dX10_startSwing_71 ?_
    obtain ⟨m12, hc10, hw⟩ := hw
    refine J_callV (as := [.int x1, .int 5, .int x3]) (k := 63) (st := []) cal_X10_set cai_X10_set gw_1711 ⟨by decide, by decide⟩ cnt_X10_set sh_63 rfl rfl (Nat.le_of_ble_eq_true rfl) dX10_startSwing_72 (Nat.zero_add _).symm (Nat.zero_add _).symm hc10 ?_
    refine J_aload_n rfl (i := 0) rfl dX10_startSwing_75 ?_
    obtain ⟨v14, hc13, hw⟩ := hw
    refine J_callV (as := []) (k := 63) (st := []) cal_X10_swinging cai_X10_swinging gw_1858 ⟨by decide, by decide⟩ cnt_X10_swinging sh_63 rfl rfl (Nat.le_of_ble_eq_true rfl) dX10_startSwing_76 (Nat.zero_add _).symm (Nat.zero_add _).symm hc13 ?_
    exact J_fini (ty := .int) rfl rfl dX10_startSwing_79 hw
  · replace hw := hw.2 hb16
    refine J_bipush (v := (-2)) (by decide) dX10_startSwing_54 ?_
    exact J_fini (ty := .int) rfl rfl dX10_startSwing_56 hw
theorem dX10_stopSwing_0 : decode cX10_stopSwing 0 = .ok (.aload_n 0, 1) := by decide +kernel
theorem dX10_stopSwing_1 : decode cX10_stopSwing 1 = .ok (.aload_n 0, 1) := by decide +kernel
theorem dX10_stopSwing_2 : decode cX10_stopSwing 2 = .ok (.iload_n 1, 1) := by decide +kernel
theorem dX10_stopSwing_3 : decode cX10_stopSwing 3 = .ok (.invokevirtual 235, 3) := by decide +kernel
theorem dX10_stopSwing_6 : decode cX10_stopSwing 6 = .ok (.invokevirtual 221, 3) := by decide +kernel
theorem dX10_stopSwing_9 : decode cX10_stopSwing 9 = .ok (.ifCond .eq 5, 3) := by decide +kernel
theorem dX10_stopSwing_12 : decode cX10_stopSwing 12 = .ok (.iconst 0, 1) := by decide +kernel
theorem dX10_stopSwing_13 : decode cX10_stopSwing 13 = .ok (.ireturn, 1) := by decide +kernel
theorem dX10_stopSwing_14 : decode cX10_stopSwing 14 = .ok (.aload_n 0, 1) := by decide +kernel
theorem dX10_stopSwing_15 : decode cX10_stopSwing 15 = .ok (.iload_n 1, 1) := by decide +kernel
theorem dX10_stopSwing_16 : decode cX10_stopSwing 16 = .ok (.invokevirtual 325, 3) := by decide +kernel
theorem dX10_stopSwing_19 : decode cX10_stopSwing 19 = .ok (.ifCond .ne 6, 3) := by decide +kernel
theorem dX10_stopSwing_22 : decode cX10_stopSwing 22 = .ok (.bipush (-2), 2) := by decide +kernel
theorem dX10_stopSwing_24 : decode cX10_stopSwing 24 = .ok (.ireturn, 1) := by decide +kernel
theorem dX10_stopSwing_25 : decode cX10_stopSwing 25 = .ok (.aload_n 0, 1) := by decide +kernel
theorem dX10_stopSwing_26 : decode cX10_stopSwing 26 = .ok (.invokevirtual 257, 3) := by decide +kernel
theorem dX10_stopSwing_29 : decode cX10_stopSwing 29 = .ok (.aload_n 0, 1) := by decide +kernel
theorem dX10_stopSwing_30 : decode cX10_stopSwing 30 = .ok (.iload_n 1, 1) := by decide +kernel
theorem dX10_stopSwing_31 : decode cX10_stopSwing 31 = .ok (.iconst 5, 1) := by decide +kernel
theorem dX10_stopSwing_32 : decode cX10_stopSwing 32 = .ok (.iconst (-1), 1) := by decide +kernel
theorem dX10_stopSwing_33 : decode cX10_stopSwing 33 = .ok (.invokevirtual 260, 3) := by decide +kernel
theorem dX10_stopSwing_36 : decode cX10_stopSwing 36 = .ok (.aload_n 0, 1) := by decide +kernel
theorem dX10_stopSwing_37 : decode cX10_stopSwing 37 = .ok (.invokevirtual 330, 3) := by decide +kernel
theorem dX10_stopSwing_40 : decode cX10_stopSwing 40 = .ok (.ireturn, 1) := by decide +kernel
set_option maxRecDepth 20000 in
theorem bX10_stopSwing_0 {G : Gx} {mm : Nat → Nat → Int32} {lm : Nat → Int64} {x1 : Int32} {o : Ou} {z : Wd} {a b : Nat} (hw : ∃ (v2 : Int32), Ct G M_X10_isBell [.ref 63, .int x1] (SH, mm, lm) false (.inl (some (.int v2))) (SH, mm, lm) false 0 0 ∧ ∃ (v5 : Int32) (m6 : Nat → Nat → Int32), Ct G M_X10_isWrong [.ref 63, .int v2] (SH, mm, lm) false (.inl (some (.int v5))) (SH, m6, lm) false 0 0 ∧ ((v5 = 0) → J G M_X10_stopSwing 14 [(0, .ref 63), (1, .int x1)] [] (SH, m6, lm) false o z false a b) ∧ ((¬ v5 = 0) → o = .inl (some (.int 0)) ∧ z = (SH, m6, lm))) :
    J G M_X10_stopSwing 0 [(0, .ref 63), (1, .int x1)] [] (SH, mm, lm) false o z false a b := by
  refine J_aload_n rfl (i := 0) rfl dX10_stopSwing_0 ?_
  refine J_aload_n rfl (i := 0) rfl dX10_stopSwing_1 ?_
  refine J_iload_n rfl (i := 1) rfl dX10_stopSwing_2 ?_
  obtain ⟨v2, hc1, hw⟩ := hw
  refine J_callV (as := [.int x1]) (k := 63) (st := [.ref 63]) cal_X10_isBell cai_X10_isBell gw_1671 ⟨by decide, by decide⟩ cnt_X10_isBell sh_63 rfl rfl (Nat.le_of_ble_eq_true rfl) dX10_stopSwing_3 (Nat.zero_add _).symm (Nat.zero_add _).symm hc1 ?_
  obtain ⟨v5, m6, hc4, hw⟩ := hw
  refine J_callV (as := [.int v2]) (k := 63) (st := []) cal_X10_isWrong cai_X10_isWrong gw_1663 ⟨by decide, by decide⟩ cnt_X10_isWrong sh_63 rfl rfl (Nat.le_of_ble_eq_true rfl) dX10_stopSwing_6 (Nat.zero_add _).symm (Nat.zero_add _).symm hc4 ?_
  refine J_if_eq (tgt := 14) dX10_stopSwing_9 (by decide) (fun hb7 => ?_) (fun hb7 => ?_)
  · replace hw := hw.1 hb7
    exact hw
  · replace hw := hw.2 hb7
    refine J_iconst (v := 0) (by decide) dX10_stopSwing_12 ?_
    exact J_fini (ty := .int) rfl rfl dX10_stopSwing_13 hw
set_option maxRecDepth 20000 in
theorem bX10_stopSwing_14 {G : Gx} {mm : Nat → Nat → Int32} {lm : Nat → Int64} {x1 : Int32} {o : Ou} {z : Wd} {a b : Nat} (hw : ∃ (v2 : Int32), Ct G M_X10_swings [.ref 63, .int x1] (SH, mm, lm) false (.inl (some (.int v2))) (SH, mm, lm) false 0 0 ∧ ((¬ v2 = 0) → ∃ (m6 : Nat → Nat → Int32), Ct G M_X10_remember [.ref 63] (SH, mm, lm) false (.inl none) (SH, m6, lm) false 0 0 ∧ ∃ (m9 : Nat → Nat → Int32), Ct G M_X10_set [.ref 63, .int x1, .int 5, .int (-1)] (SH, m6, lm) false (.inl none) (SH, m9, lm) false 0 0 ∧ ∃ (v11 : Int32), Ct G M_X10_swinging [.ref 63] (SH, m9, lm) false (.inl (some (.int v11))) (SH, m9, lm) false 0 0 ∧ o = .inl (some (.int v11)) ∧ z = (SH, m9, lm)) ∧ ((v2 = 0) → o = .inl (some (.int (-2))) ∧ z = (SH, mm, lm))) :
    J G M_X10_stopSwing 14 [(0, .ref 63), (1, .int x1)] [] (SH, mm, lm) false o z false a b := by
  refine J_aload_n rfl (i := 0) rfl dX10_stopSwing_14 ?_
  refine J_iload_n rfl (i := 1) rfl dX10_stopSwing_15 ?_
  obtain ⟨v2, hc1, hw⟩ := hw
  refine J_callV (as := [.int x1]) (k := 63) (st := []) cal_X10_swings cai_X10_swings gw_1862 ⟨by decide, by decide⟩ cnt_X10_swings sh_63 rfl rfl (Nat.le_of_ble_eq_true rfl) dX10_stopSwing_16 (Nat.zero_add _).symm (Nat.zero_add _).symm hc1 ?_
  refine J_if_ne (tgt := 25) dX10_stopSwing_19 (by decide) (fun hb13 => ?_) (fun hb13 => ?_)
  · replace hw := hw.1 hb13
    refine J_aload_n rfl (i := 0) rfl dX10_stopSwing_25 ?_
    obtain ⟨m6, hc4, hw⟩ := hw
    refine J_callV (as := []) (k := 63) (st := []) cal_X10_remember cai_X10_remember gw_1707 ⟨by decide, by decide⟩ cnt_X10_remember sh_63 rfl rfl (Nat.le_of_ble_eq_true rfl) dX10_stopSwing_26 (Nat.zero_add _).symm (Nat.zero_add _).symm hc4 ?_
    refine J_aload_n rfl (i := 0) rfl dX10_stopSwing_29 ?_
    refine J_iload_n rfl (i := 1) rfl dX10_stopSwing_30 ?_
    refine J_iconst (v := 5) (by decide) dX10_stopSwing_31 ?_
    refine J_iconst (v := (-1)) (by decide) dX10_stopSwing_32 ?_
    obtain ⟨m9, hc7, hw⟩ := hw
    refine J_callV (as := [.int x1, .int 5, .int (-1)]) (k := 63) (st := []) cal_X10_set cai_X10_set gw_1711 ⟨by decide, by decide⟩ cnt_X10_set sh_63 rfl rfl (Nat.le_of_ble_eq_true rfl) dX10_stopSwing_33 (Nat.zero_add _).symm (Nat.zero_add _).symm hc7 ?_
    refine J_aload_n rfl (i := 0) rfl dX10_stopSwing_36 ?_
    obtain ⟨v11, hc10, hw⟩ := hw
    refine J_callV (as := []) (k := 63) (st := []) cal_X10_swinging cai_X10_swinging gw_1858 ⟨by decide, by decide⟩ cnt_X10_swinging sh_63 rfl rfl (Nat.le_of_ble_eq_true rfl) dX10_stopSwing_37 (Nat.zero_add _).symm (Nat.zero_add _).symm hc10 ?_
    exact J_fini (ty := .int) rfl rfl dX10_stopSwing_40 hw
  · replace hw := hw.2 hb13
    refine J_bipush (v := (-2)) (by decide) dX10_stopSwing_22 ?_
    exact J_fini (ty := .int) rfl rfl dX10_stopSwing_24 hw
theorem dX10_offsetBy_0 : decode cX10_offsetBy 0 = .ok (.iload 4, 2) := by decide +kernel
theorem dX10_offsetBy_2 : decode cX10_offsetBy 2 = .ok (.iload_n 2, 1) := by decide +kernel
theorem dX10_offsetBy_3 : decode cX10_offsetBy 3 = .ok (.if_icmp .ge 5, 3) := by decide +kernel
theorem dX10_offsetBy_6 : decode cX10_offsetBy 6 = .ok (.iconst 0, 1) := by decide +kernel
theorem dX10_offsetBy_7 : decode cX10_offsetBy 7 = .ok (.ireturn, 1) := by decide +kernel
theorem dX10_offsetBy_8 : decode cX10_offsetBy 8 = .ok (.aload_n 0, 1) := by decide +kernel
theorem dX10_offsetBy_9 : decode cX10_offsetBy 9 = .ok (.getfield 28, 3) := by decide +kernel
theorem dX10_offsetBy_12 : decode cX10_offsetBy 12 = .ok (.iload_n 1, 1) := by decide +kernel
theorem dX10_offsetBy_13 : decode cX10_offsetBy 13 = .ok (.iaload, 1) := by decide +kernel
theorem dX10_offsetBy_14 : decode cX10_offsetBy 14 = .ok (.istore 5, 2) := by decide +kernel
theorem dX10_offsetBy_16 : decode cX10_offsetBy 16 = .ok (.iconst 4, 1) := by decide +kernel
theorem dX10_offsetBy_17 : decode cX10_offsetBy 17 = .ok (.iload 4, 2) := by decide +kernel
theorem dX10_offsetBy_19 : decode cX10_offsetBy 19 = .ok (.iload_n 2, 1) := by decide +kernel
theorem dX10_offsetBy_20 : decode cX10_offsetBy 20 = .ok (.isub, 1) := by decide +kernel
theorem dX10_offsetBy_21 : decode cX10_offsetBy 21 = .ok (.iload 5, 2) := by decide +kernel
theorem dX10_offsetBy_23 : decode cX10_offsetBy 23 = .ok (.irem, 1) := by decide +kernel
theorem dX10_offsetBy_24 : decode cX10_offsetBy 24 = .ok (.imul, 1) := by decide +kernel
theorem dX10_offsetBy_25 : decode cX10_offsetBy 25 = .ok (.istore 6, 2) := by decide +kernel
theorem dX10_offsetBy_27 : decode cX10_offsetBy 27 = .ok (.iload 6, 2) := by decide +kernel
theorem dX10_offsetBy_29 : decode cX10_offsetBy 29 = .ok (.iload 5, 2) := by decide +kernel
theorem dX10_offsetBy_31 : decode cX10_offsetBy 31 = .ok (.if_icmp .gt 11, 3) := by decide +kernel
theorem dX10_offsetBy_34 : decode cX10_offsetBy 34 = .ok (.iload_n 3, 1) := by decide +kernel
theorem dX10_offsetBy_35 : decode cX10_offsetBy 35 = .ok (.iload 6, 2) := by decide +kernel
theorem dX10_offsetBy_37 : decode cX10_offsetBy 37 = .ok (.imul, 1) := by decide +kernel
theorem dX10_offsetBy_38 : decode cX10_offsetBy 38 = .ok (.iload 5, 2) := by decide +kernel
theorem dX10_offsetBy_40 : decode cX10_offsetBy 40 = .ok (.idiv, 1) := by decide +kernel
theorem dX10_offsetBy_41 : decode cX10_offsetBy 41 = .ok (.ireturn, 1) := by decide +kernel
theorem dX10_offsetBy_42 : decode cX10_offsetBy 42 = .ok (.iload 6, 2) := by decide +kernel
theorem dX10_offsetBy_44 : decode cX10_offsetBy 44 = .ok (.iconst 3, 1) := by decide +kernel
theorem dX10_offsetBy_45 : decode cX10_offsetBy 45 = .ok (.iload 5, 2) := by decide +kernel
theorem dX10_offsetBy_47 : decode cX10_offsetBy 47 = .ok (.imul, 1) := by decide +kernel
theorem dX10_offsetBy_48 : decode cX10_offsetBy 48 = .ok (.if_icmp .gt 18, 3) := by decide +kernel
theorem dX10_offsetBy_51 : decode cX10_offsetBy 51 = .ok (.iload_n 3, 1) := by decide +kernel
theorem dX10_offsetBy_52 : decode cX10_offsetBy 52 = .ok (.iconst 2, 1) := by decide +kernel
theorem dX10_offsetBy_53 : decode cX10_offsetBy 53 = .ok (.iload 5, 2) := by decide +kernel
theorem dX10_offsetBy_55 : decode cX10_offsetBy 55 = .ok (.imul, 1) := by decide +kernel
theorem dX10_offsetBy_56 : decode cX10_offsetBy 56 = .ok (.iload 6, 2) := by decide +kernel
theorem dX10_offsetBy_58 : decode cX10_offsetBy 58 = .ok (.isub, 1) := by decide +kernel
theorem dX10_offsetBy_59 : decode cX10_offsetBy 59 = .ok (.imul, 1) := by decide +kernel
theorem dX10_offsetBy_60 : decode cX10_offsetBy 60 = .ok (.iload 5, 2) := by decide +kernel
theorem dX10_offsetBy_62 : decode cX10_offsetBy 62 = .ok (.idiv, 1) := by decide +kernel
theorem dX10_offsetBy_63 : decode cX10_offsetBy 63 = .ok (.goto 15, 3) := by decide +kernel
theorem dX10_offsetBy_66 : decode cX10_offsetBy 66 = .ok (.iload_n 3, 1) := by decide +kernel
theorem dX10_offsetBy_67 : decode cX10_offsetBy 67 = .ok (.iload 6, 2) := by decide +kernel
theorem dX10_offsetBy_69 : decode cX10_offsetBy 69 = .ok (.iconst 4, 1) := by decide +kernel
theorem dX10_offsetBy_70 : decode cX10_offsetBy 70 = .ok (.iload 5, 2) := by decide +kernel
theorem dX10_offsetBy_72 : decode cX10_offsetBy 72 = .ok (.imul, 1) := by decide +kernel
theorem dX10_offsetBy_73 : decode cX10_offsetBy 73 = .ok (.isub, 1) := by decide +kernel
theorem dX10_offsetBy_74 : decode cX10_offsetBy 74 = .ok (.imul, 1) := by decide +kernel
theorem dX10_offsetBy_75 : decode cX10_offsetBy 75 = .ok (.iload 5, 2) := by decide +kernel
theorem dX10_offsetBy_77 : decode cX10_offsetBy 77 = .ok (.idiv, 1) := by decide +kernel
theorem dX10_offsetBy_78 : decode cX10_offsetBy 78 = .ok (.ireturn, 1) := by decide +kernel
set_option maxRecDepth 20000 in
theorem bX10_offsetBy_0 {G : Gx} {mm : Nat → Nat → Int32} {lm : Nat → Int64} {x1 : Int32} {x2 : Int32} {x3 : Int32} {x4 : Int32} {o : Ou} {z : Wd} {a b : Nat} (hw : ((x2 ≤ x4) → ∃ j1 : Nat, x1 = nI j1 ∧ j1 < 8 ∧ ¬ (mm 70 j1) = 0 ∧ (((mm 70 j1) < (4 * ((x4 - x2) - (x4 - x2) / (mm 70 j1) * (mm 70 j1)))) → (((3 * (mm 70 j1)) < (4 * ((x4 - x2) - (x4 - x2) / (mm 70 j1) * (mm 70 j1)))) → ¬ (mm 70 j1) = 0 ∧ o = .inl (some (.int ((x3 * ((4 * ((x4 - x2) - (x4 - x2) / (mm 70 j1) * (mm 70 j1))) - (4 * (mm 70 j1)))) / (mm 70 j1)))) ∧ z = (SH, mm, lm)) ∧ ((¬ (3 * (mm 70 j1)) < (4 * ((x4 - x2) - (x4 - x2) / (mm 70 j1) * (mm 70 j1)))) → ¬ (mm 70 j1) = 0 ∧ o = .inl (some (.int ((x3 * ((2 * (mm 70 j1)) - (4 * ((x4 - x2) - (x4 - x2) / (mm 70 j1) * (mm 70 j1))))) / (mm 70 j1)))) ∧ z = (SH, mm, lm))) ∧ ((¬ (mm 70 j1) < (4 * ((x4 - x2) - (x4 - x2) / (mm 70 j1) * (mm 70 j1)))) → ¬ (mm 70 j1) = 0 ∧ o = .inl (some (.int ((x3 * (4 * ((x4 - x2) - (x4 - x2) / (mm 70 j1) * (mm 70 j1)))) / (mm 70 j1)))) ∧ z = (SH, mm, lm))) ∧ ((¬ x2 ≤ x4) → o = .inl (some (.int 0)) ∧ z = (SH, mm, lm))) :
    J G M_X10_offsetBy 0 [(0, .ref 63), (1, .int x1), (2, .int x2), (3, .int x3), (4, .int x4)] [] (SH, mm, lm) false o z false a b := by
  refine J_iload (i := 4) rfl dX10_offsetBy_0 ?_
  refine J_iload_n rfl (i := 2) rfl dX10_offsetBy_2 ?_
  refine J_icmp_ge (tgt := 8) dX10_offsetBy_3 (by decide) (fun hb8 => ?_) (fun hb8 => ?_)
  · replace hw := hw.1 hb8
    refine J_aload_n rfl (i := 0) rfl dX10_offsetBy_8 ?_
    refine J_getr kls_10 (q := 63) (k := 11) sh_63 (by decide) rfl gw_1444 dX10_offsetBy_9 ?_
    refine J_iload_n rfl (i := 1) rfl dX10_offsetBy_12 ?_
    obtain ⟨j1, ej1, hj1, hw⟩ := hw
    refine J_iald sh_70 ej1 hj1 (by decide) dX10_offsetBy_13 ?_
    refine J_istore [(5, .int (mm 70 j1)), (0, .ref 63), (1, .int x1), (2, .int x2), (3, .int x3), (4, .int x4)] (i := 5) (by decide) rfl dX10_offsetBy_14 ?_
    refine J_iconst (v := 4) (by decide) dX10_offsetBy_16 ?_
    refine J_iload (i := 4) rfl dX10_offsetBy_17 ?_
    refine J_iload_n rfl (i := 2) rfl dX10_offsetBy_19 ?_
    refine J_isub dX10_offsetBy_20 ?_
    refine J_iload (i := 5) rfl dX10_offsetBy_21 ?_
    obtain ⟨hz7, hw⟩ := hw
    refine J_irem hz7 dX10_offsetBy_23 ?_
    refine J_imul dX10_offsetBy_24 ?_
    refine J_istore [(6, .int (4 * ((x4 - x2) - (x4 - x2) / (mm 70 j1) * (mm 70 j1)))), (5, .int (mm 70 j1)), (0, .ref 63), (1, .int x1), (2, .int x2), (3, .int x3), (4, .int x4)] (i := 6) (by decide) rfl dX10_offsetBy_25 ?_
    refine J_iload (i := 6) rfl dX10_offsetBy_27 ?_
    refine J_iload (i := 5) rfl dX10_offsetBy_29 ?_
    refine J_icmp_gt (tgt := 42) dX10_offsetBy_31 (by decide) (fun hb6 => ?_) (fun hb6 => ?_)
    · replace hw := hw.1 hb6
      refine J_iload (i := 6) rfl dX10_offsetBy_42 ?_
      refine J_iconst (v := 3) (by decide) dX10_offsetBy_44 ?_
      refine J_iload (i := 5) rfl dX10_offsetBy_45 ?_
      refine J_imul dX10_offsetBy_47 ?_
      refine J_icmp_gt (tgt := 66) dX10_offsetBy_48 (by decide) (fun hb4 => ?_) (fun hb4 => ?_)
      · replace hw := hw.1 hb4
        refine J_iload_n rfl (i := 3) rfl dX10_offsetBy_66 ?_
        refine J_iload (i := 6) rfl dX10_offsetBy_67 ?_
        refine J_iconst (v := 4) (by decide) dX10_offsetBy_69 ?_
        refine J_iload (i := 5) rfl dX10_offsetBy_70 ?_
        refine J_imul dX10_offsetBy_72 ?_
        refine J_isub dX10_offsetBy_73 ?_
        refine J_imul dX10_offsetBy_74 ?_
        refine J_iload (i := 5) rfl dX10_offsetBy_75 ?_
        obtain ⟨hz2, hw⟩ := hw
        refine J_idiv hz2 dX10_offsetBy_77 ?_
        exact J_fini (ty := .int) rfl rfl dX10_offsetBy_78 hw
      · replace hw := hw.2 hb4
        refine J_iload_n rfl (i := 3) rfl dX10_offsetBy_51 ?_
        refine J_iconst (v := 2) (by decide) dX10_offsetBy_52 ?_
        refine J_iload (i := 5) rfl dX10_offsetBy_53 ?_
        refine J_imul dX10_offsetBy_55 ?_
        refine J_iload (i := 6) rfl dX10_offsetBy_56 ?_
        refine J_isub dX10_offsetBy_58 ?_
        refine J_imul dX10_offsetBy_59 ?_
        refine J_iload (i := 5) rfl dX10_offsetBy_60 ?_
        obtain ⟨hz3, hw⟩ := hw
        refine J_idiv hz3 dX10_offsetBy_62 ?_
        refine J_goto (tgt := 78) dX10_offsetBy_63 (by decide) ?_
        exact J_fini (ty := .int) rfl rfl dX10_offsetBy_78 hw
    · replace hw := hw.2 hb6
      refine J_iload_n rfl (i := 3) rfl dX10_offsetBy_34 ?_
      refine J_iload (i := 6) rfl dX10_offsetBy_35 ?_
      refine J_imul dX10_offsetBy_37 ?_
      refine J_iload (i := 5) rfl dX10_offsetBy_38 ?_
      obtain ⟨hz5, hw⟩ := hw
      refine J_idiv hz5 dX10_offsetBy_40 ?_
      exact J_fini (ty := .int) rfl rfl dX10_offsetBy_41 hw
  · replace hw := hw.2 hb8
    refine J_iconst (v := 0) (by decide) dX10_offsetBy_6 ?_
    exact J_fini (ty := .int) rfl rfl dX10_offsetBy_7 hw
theorem dX10_offsetAt_0 : decode cX10_offsetAt 0 = .ok (.aload_n 0, 1) := by decide +kernel
theorem dX10_offsetAt_1 : decode cX10_offsetAt 1 = .ok (.iload_n 1, 1) := by decide +kernel
theorem dX10_offsetAt_2 : decode cX10_offsetAt 2 = .ok (.invokevirtual 325, 3) := by decide +kernel
theorem dX10_offsetAt_5 : decode cX10_offsetAt 5 = .ok (.ifCond .eq 24, 3) := by decide +kernel
theorem dX10_offsetAt_8 : decode cX10_offsetAt 8 = .ok (.aload_n 0, 1) := by decide +kernel
theorem dX10_offsetAt_9 : decode cX10_offsetAt 9 = .ok (.iload_n 1, 1) := by decide +kernel
theorem dX10_offsetAt_10 : decode cX10_offsetAt 10 = .ok (.aload_n 0, 1) := by decide +kernel
theorem dX10_offsetAt_11 : decode cX10_offsetAt 11 = .ok (.iload_n 1, 1) := by decide +kernel
theorem dX10_offsetAt_12 : decode cX10_offsetAt 12 = .ok (.iconst 4, 1) := by decide +kernel
theorem dX10_offsetAt_13 : decode cX10_offsetAt 13 = .ok (.invokevirtual 229, 3) := by decide +kernel
theorem dX10_offsetAt_16 : decode cX10_offsetAt 16 = .ok (.aload_n 0, 1) := by decide +kernel
theorem dX10_offsetAt_17 : decode cX10_offsetAt 17 = .ok (.iload_n 1, 1) := by decide +kernel
theorem dX10_offsetAt_18 : decode cX10_offsetAt 18 = .ok (.iconst 5, 1) := by decide +kernel
theorem dX10_offsetAt_19 : decode cX10_offsetAt 19 = .ok (.invokevirtual 229, 3) := by decide +kernel
theorem dX10_offsetAt_22 : decode cX10_offsetAt 22 = .ok (.iload_n 2, 1) := by decide +kernel
theorem dX10_offsetAt_23 : decode cX10_offsetAt 23 = .ok (.invokevirtual 333, 3) := by decide +kernel
theorem dX10_offsetAt_26 : decode cX10_offsetAt 26 = .ok (.goto 4, 3) := by decide +kernel
theorem dX10_offsetAt_29 : decode cX10_offsetAt 29 = .ok (.iconst 0, 1) := by decide +kernel
theorem dX10_offsetAt_30 : decode cX10_offsetAt 30 = .ok (.ireturn, 1) := by decide +kernel
set_option maxRecDepth 20000 in
theorem bX10_offsetAt_0 {G : Gx} {mm : Nat → Nat → Int32} {lm : Nat → Int64} {x1 : Int32} {x2 : Int32} {o : Ou} {z : Wd} {a b : Nat} (hw : ∃ (v2 : Int32), Ct G M_X10_swings [.ref 63, .int x1] (SH, mm, lm) false (.inl (some (.int v2))) (SH, mm, lm) false 0 0 ∧ ((v2 = 0) → o = .inl (some (.int 0)) ∧ z = (SH, mm, lm)) ∧ ((¬ v2 = 0) → ∃ (v5 : Int32), Ct G M_X10_of [.ref 63, .int x1, .int 4] (SH, mm, lm) false (.inl (some (.int v5))) (SH, mm, lm) false 0 0 ∧ ∃ (v8 : Int32), Ct G M_X10_of [.ref 63, .int x1, .int 5] (SH, mm, lm) false (.inl (some (.int v8))) (SH, mm, lm) false 0 0 ∧ ∃ (v11 : Int32), Ct G M_X10_offsetBy [.ref 63, .int x1, .int v5, .int v8, .int x2] (SH, mm, lm) false (.inl (some (.int v11))) (SH, mm, lm) false 0 0 ∧ o = .inl (some (.int v11)) ∧ z = (SH, mm, lm))) :
    J G M_X10_offsetAt 0 [(0, .ref 63), (1, .int x1), (2, .int x2)] [] (SH, mm, lm) false o z false a b := by
  refine J_aload_n rfl (i := 0) rfl dX10_offsetAt_0 ?_
  refine J_iload_n rfl (i := 1) rfl dX10_offsetAt_1 ?_
  obtain ⟨v2, hc1, hw⟩ := hw
  refine J_callV (as := [.int x1]) (k := 63) (st := []) cal_X10_swings cai_X10_swings gw_1862 ⟨by decide, by decide⟩ cnt_X10_swings sh_63 rfl rfl (Nat.le_of_ble_eq_true rfl) dX10_offsetAt_2 (Nat.zero_add _).symm (Nat.zero_add _).symm hc1 ?_
  refine J_if_eq (tgt := 29) dX10_offsetAt_5 (by decide) (fun hb13 => ?_) (fun hb13 => ?_)
  · replace hw := hw.1 hb13
    refine J_iconst (v := 0) (by decide) dX10_offsetAt_29 ?_
    exact J_fini (ty := .int) rfl rfl dX10_offsetAt_30 hw
  · replace hw := hw.2 hb13
    refine J_aload_n rfl (i := 0) rfl dX10_offsetAt_8 ?_
    refine J_iload_n rfl (i := 1) rfl dX10_offsetAt_9 ?_
    refine J_aload_n rfl (i := 0) rfl dX10_offsetAt_10 ?_
    refine J_iload_n rfl (i := 1) rfl dX10_offsetAt_11 ?_
    refine J_iconst (v := 4) (by decide) dX10_offsetAt_12 ?_
    obtain ⟨v5, hc4, hw⟩ := hw
    refine J_callV (as := [.int x1, .int 4]) (k := 63) (st := [.int x1, .ref 63]) cal_X10_of cai_X10_of gw_1688 ⟨by decide, by decide⟩ cnt_X10_of sh_63 rfl rfl (Nat.le_of_ble_eq_true rfl) dX10_offsetAt_13 (Nat.zero_add _).symm (Nat.zero_add _).symm hc4 ?_
    refine J_aload_n rfl (i := 0) rfl dX10_offsetAt_16 ?_
    refine J_iload_n rfl (i := 1) rfl dX10_offsetAt_17 ?_
    refine J_iconst (v := 5) (by decide) dX10_offsetAt_18 ?_
    obtain ⟨v8, hc7, hw⟩ := hw
    refine J_callV (as := [.int x1, .int 5]) (k := 63) (st := [.int v5, .int x1, .ref 63]) cal_X10_of cai_X10_of gw_1688 ⟨by decide, by decide⟩ cnt_X10_of sh_63 rfl rfl (Nat.le_of_ble_eq_true rfl) dX10_offsetAt_19 (Nat.zero_add _).symm (Nat.zero_add _).symm hc7 ?_
    refine J_iload_n rfl (i := 2) rfl dX10_offsetAt_22 ?_
    obtain ⟨v11, hc10, hw⟩ := hw
    refine J_callV (as := [.int x1, .int v5, .int v8, .int x2]) (k := 63) (st := []) cal_X10_offsetBy cai_X10_offsetBy gw_1879 ⟨by decide, by decide⟩ cnt_X10_offsetBy sh_63 rfl rfl (Nat.le_of_ble_eq_true rfl) dX10_offsetAt_23 (Nat.zero_add _).symm (Nat.zero_add _).symm hc10 ?_
    refine J_goto (tgt := 30) dX10_offsetAt_26 (by decide) ?_
    exact J_fini (ty := .int) rfl rfl dX10_offsetAt_30 hw
theorem dX10_offset_0 : decode cX10_offset 0 = .ok (.aload_n 0, 1) := by decide +kernel
theorem dX10_offset_1 : decode cX10_offset 1 = .ok (.aload_n 0, 1) := by decide +kernel
theorem dX10_offset_2 : decode cX10_offset 2 = .ok (.iload_n 1, 1) := by decide +kernel
theorem dX10_offset_3 : decode cX10_offset 3 = .ok (.invokevirtual 235, 3) := by decide +kernel
theorem dX10_offset_6 : decode cX10_offset 6 = .ok (.ifCond .eq 19, 3) := by decide +kernel
theorem dX10_offset_9 : decode cX10_offset 9 = .ok (.iload_n 2, 1) := by decide +kernel
theorem dX10_offset_10 : decode cX10_offset 10 = .ok (.i2l, 1) := by decide +kernel
theorem dX10_offset_11 : decode cX10_offset 11 = .ok (.lconst 0, 1) := by decide +kernel
theorem dX10_offset_12 : decode cX10_offset 12 = .ok (.ldc2_w 337, 3) := by decide +kernel
theorem dX10_offset_15 : decode cX10_offset 15 = .ok (.invokestatic 91, 3) := by decide +kernel
theorem dX10_offset_18 : decode cX10_offset 18 = .ok (.ifCond .eq 7, 3) := by decide +kernel
theorem dX10_offset_21 : decode cX10_offset 21 = .ok (.iconst 1, 1) := by decide +kernel
theorem dX10_offset_22 : decode cX10_offset 22 = .ok (.goto 4, 3) := by decide +kernel
theorem dX10_offset_25 : decode cX10_offset 25 = .ok (.iconst 0, 1) := by decide +kernel
theorem dX10_offset_26 : decode cX10_offset 26 = .ok (.invokevirtual 221, 3) := by decide +kernel
theorem dX10_offset_29 : decode cX10_offset 29 = .ok (.ifCond .eq 5, 3) := by decide +kernel
theorem dX10_offset_32 : decode cX10_offset 32 = .ok (.iconst 0, 1) := by decide +kernel
theorem dX10_offset_33 : decode cX10_offset 33 = .ok (.ireturn, 1) := by decide +kernel
theorem dX10_offset_34 : decode cX10_offset 34 = .ok (.aload_n 0, 1) := by decide +kernel
theorem dX10_offset_35 : decode cX10_offset 35 = .ok (.aload_n 0, 1) := by decide +kernel
theorem dX10_offset_36 : decode cX10_offset 36 = .ok (.iload_n 1, 1) := by decide +kernel
theorem dX10_offset_37 : decode cX10_offset 37 = .ok (.invokevirtual 244, 3) := by decide +kernel
theorem dX10_offset_40 : decode cX10_offset 40 = .ok (.ifCond .eq 7, 3) := by decide +kernel
theorem dX10_offset_43 : decode cX10_offset 43 = .ok (.iconst 0, 1) := by decide +kernel
theorem dX10_offset_44 : decode cX10_offset 44 = .ok (.goto 4, 3) := by decide +kernel
theorem dX10_offset_47 : decode cX10_offset 47 = .ok (.iconst 3, 1) := by decide +kernel
theorem dX10_offset_48 : decode cX10_offset 48 = .ok (.putfield 77, 3) := by decide +kernel
theorem dX10_offset_51 : decode cX10_offset 51 = .ok (.aload_n 0, 1) := by decide +kernel
theorem dX10_offset_52 : decode cX10_offset 52 = .ok (.getfield 77, 3) := by decide +kernel
theorem dX10_offset_55 : decode cX10_offset 55 = .ok (.ifCond .le 7, 3) := by decide +kernel
theorem dX10_offset_58 : decode cX10_offset 58 = .ok (.iconst 0, 1) := by decide +kernel
theorem dX10_offset_59 : decode cX10_offset 59 = .ok (.goto 9, 3) := by decide +kernel
theorem dX10_offset_62 : decode cX10_offset 62 = .ok (.aload_n 0, 1) := by decide +kernel
theorem dX10_offset_63 : decode cX10_offset 63 = .ok (.iload_n 1, 1) := by decide +kernel
theorem dX10_offset_64 : decode cX10_offset 64 = .ok (.iload_n 2, 1) := by decide +kernel
theorem dX10_offset_65 : decode cX10_offset 65 = .ok (.invokevirtual 339, 3) := by decide +kernel
theorem dX10_offset_68 : decode cX10_offset 68 = .ok (.ireturn, 1) := by decide +kernel
set_option maxRecDepth 20000 in
theorem bX10_offset_0 {G : Gx} {mm : Nat → Nat → Int32} {lm : Nat → Int64} {x1 : Int32} {x2 : Int32} {o : Ou} {z : Wd} {a b : Nat} (hw : ∃ (v2 : Int32), Ct G M_X10_isBell [.ref 63, .int x1] (SH, mm, lm) false (.inl (some (.int v2))) (SH, mm, lm) false 0 0 ∧ ((v2 = 0) → ∃ (v5 : Int32) (m6 : Nat → Nat → Int32), Ct G M_X10_isWrong [.ref 63, .int 0] (SH, mm, lm) false (.inl (some (.int v5))) (SH, m6, lm) false 0 0 ∧ ((v5 = 0) → J G M_X10_offset 34 [(0, .ref 63), (1, .int x1), (2, .int x2)] [] (SH, m6, lm) false o z false a b) ∧ ((¬ v5 = 0) → o = .inl (some (.int 0)) ∧ z = (SH, m6, lm))) ∧ ((¬ v2 = 0) → ∃ (v9 : Int32), Ct G M_X10_isIn [.long (Int32.toInt64 x2), .long 0, .long 9999] (SH, mm, lm) false (.inl (some (.int v9))) (SH, mm, lm) false 0 0 ∧ ((v9 = 0) → ∃ (v12 : Int32) (m13 : Nat → Nat → Int32), Ct G M_X10_isWrong [.ref 63, .int 0] (SH, mm, lm) false (.inl (some (.int v12))) (SH, m13, lm) false 0 0 ∧ ((v12 = 0) → J G M_X10_offset 34 [(0, .ref 63), (1, .int x1), (2, .int x2)] [] (SH, m13, lm) false o z false a b) ∧ ((¬ v12 = 0) → o = .inl (some (.int 0)) ∧ z = (SH, m13, lm))) ∧ ((¬ v9 = 0) → ∃ (v16 : Int32) (m17 : Nat → Nat → Int32), Ct G M_X10_isWrong [.ref 63, .int 1] (SH, mm, lm) false (.inl (some (.int v16))) (SH, m17, lm) false 0 0 ∧ ((v16 = 0) → J G M_X10_offset 34 [(0, .ref 63), (1, .int x1), (2, .int x2)] [] (SH, m17, lm) false o z false a b) ∧ ((¬ v16 = 0) → o = .inl (some (.int 0)) ∧ z = (SH, m17, lm))))) :
    J G M_X10_offset 0 [(0, .ref 63), (1, .int x1), (2, .int x2)] [] (SH, mm, lm) false o z false a b := by
  refine J_aload_n rfl (i := 0) rfl dX10_offset_0 ?_
  refine J_aload_n rfl (i := 0) rfl dX10_offset_1 ?_
  refine J_iload_n rfl (i := 1) rfl dX10_offset_2 ?_
  obtain ⟨v2, hc1, hw⟩ := hw
  refine J_callV (as := [.int x1]) (k := 63) (st := [.ref 63]) cal_X10_isBell cai_X10_isBell gw_1671 ⟨by decide, by decide⟩ cnt_X10_isBell sh_63 rfl rfl (Nat.le_of_ble_eq_true rfl) dX10_offset_3 (Nat.zero_add _).symm (Nat.zero_add _).symm hc1 ?_
  refine J_if_eq (tgt := 25) dX10_offset_6 (by decide) (fun hb20 => ?_) (fun hb20 => ?_)
  · replace hw := hw.1 hb20
    refine J_iconst (v := 0) (by decide) dX10_offset_25 ?_
    obtain ⟨v5, m6, hc4, hw⟩ := hw
    refine J_callV (as := [.int 0]) (k := 63) (st := []) cal_X10_isWrong cai_X10_isWrong gw_1663 ⟨by decide, by decide⟩ cnt_X10_isWrong sh_63 rfl rfl (Nat.le_of_ble_eq_true rfl) dX10_offset_26 (Nat.zero_add _).symm (Nat.zero_add _).symm hc4 ?_
    refine J_if_eq (tgt := 34) dX10_offset_29 (by decide) (fun hb7 => ?_) (fun hb7 => ?_)
    · replace hw := hw.1 hb7
      exact hw
    · replace hw := hw.2 hb7
      refine J_iconst (v := 0) (by decide) dX10_offset_32 ?_
      exact J_fini (ty := .int) rfl rfl dX10_offset_33 hw
  · replace hw := hw.2 hb20
    refine J_iload_n rfl (i := 2) rfl dX10_offset_9 ?_
    refine J_i2l dX10_offset_10 ?_
    refine J_lconst (v := 0) (by decide) dX10_offset_11 ?_
    refine J_ldc2 gw_1874 dX10_offset_12 ?_
    obtain ⟨v9, hc8, hw⟩ := hw
    refine J_callS (as := [.long (Int32.toInt64 x2), .long 0, .long 9999]) (st := [.ref 63]) cal_X10_isIn cas_X10_isIn gw_1573 ⟨by decide, by decide⟩ cnt_X10_isIn rfl (Nat.le_of_ble_eq_true rfl) dX10_offset_15 (Nat.zero_add _).symm (Nat.zero_add _).symm hc8 ?_
    refine J_if_eq (tgt := 25) dX10_offset_18 (by decide) (fun hb19 => ?_) (fun hb19 => ?_)
    · replace hw := hw.1 hb19
      refine J_iconst (v := 0) (by decide) dX10_offset_25 ?_
      obtain ⟨v12, m13, hc11, hw⟩ := hw
      refine J_callV (as := [.int 0]) (k := 63) (st := []) cal_X10_isWrong cai_X10_isWrong gw_1663 ⟨by decide, by decide⟩ cnt_X10_isWrong sh_63 rfl rfl (Nat.le_of_ble_eq_true rfl) dX10_offset_26 (Nat.zero_add _).symm (Nat.zero_add _).symm hc11 ?_
      refine J_if_eq (tgt := 34) dX10_offset_29 (by decide) (fun hb14 => ?_) (fun hb14 => ?_)
      · replace hw := hw.1 hb14
        exact hw
      · replace hw := hw.2 hb14
        refine J_iconst (v := 0) (by decide) dX10_offset_32 ?_
        exact J_fini (ty := .int) rfl rfl dX10_offset_33 hw
    · replace hw := hw.2 hb19
      refine J_iconst (v := 1) (by decide) dX10_offset_21 ?_
      refine J_goto (tgt := 26) dX10_offset_22 (by decide) ?_
      obtain ⟨v16, m17, hc15, hw⟩ := hw
      refine J_callV (as := [.int 1]) (k := 63) (st := []) cal_X10_isWrong cai_X10_isWrong gw_1663 ⟨by decide, by decide⟩ cnt_X10_isWrong sh_63 rfl rfl (Nat.le_of_ble_eq_true rfl) dX10_offset_26 (Nat.zero_add _).symm (Nat.zero_add _).symm hc15 ?_
      refine J_if_eq (tgt := 34) dX10_offset_29 (by decide) (fun hb18 => ?_) (fun hb18 => ?_)
      · replace hw := hw.1 hb18
        exact hw
      · replace hw := hw.2 hb18
        refine J_iconst (v := 0) (by decide) dX10_offset_32 ?_
        exact J_fini (ty := .int) rfl rfl dX10_offset_33 hw
set_option maxRecDepth 20000 in
theorem bX10_offset_34 {G : Gx} {mm : Nat → Nat → Int32} {lm : Nat → Int64} {x1 : Int32} {x2 : Int32} {o : Ou} {z : Wd} {a b : Nat} (hw : ∃ (v2 : Int32), Ct G M_X10_hangs [.ref 63, .int x1] (SH, mm, lm) false (.inl (some (.int v2))) (SH, mm, lm) false 0 0 ∧ ((v2 = 0) → ((((mset mm 63 4 3) 63 4) ≤ 0) → ∃ (v5 : Int32), Ct G M_X10_offsetAt [.ref 63, .int x1, .int x2] (SH, (mset mm 63 4 3), lm) false (.inl (some (.int v5))) (SH, (mset mm 63 4 3), lm) false 0 0 ∧ o = .inl (some (.int v5)) ∧ z = (SH, (mset mm 63 4 3), lm)) ∧ ((¬ ((mset mm 63 4 3) 63 4) ≤ 0) → o = .inl (some (.int 0)) ∧ z = (SH, (mset mm 63 4 3), lm))) ∧ ((¬ v2 = 0) → ((((mset mm 63 4 0) 63 4) ≤ 0) → ∃ (v9 : Int32), Ct G M_X10_offsetAt [.ref 63, .int x1, .int x2] (SH, (mset mm 63 4 0), lm) false (.inl (some (.int v9))) (SH, (mset mm 63 4 0), lm) false 0 0 ∧ o = .inl (some (.int v9)) ∧ z = (SH, (mset mm 63 4 0), lm)) ∧ ((¬ ((mset mm 63 4 0) 63 4) ≤ 0) → o = .inl (some (.int 0)) ∧ z = (SH, (mset mm 63 4 0), lm)))) :
    J G M_X10_offset 34 [(0, .ref 63), (1, .int x1), (2, .int x2)] [] (SH, mm, lm) false o z false a b := by
  refine J_aload_n rfl (i := 0) rfl dX10_offset_34 ?_
  refine J_aload_n rfl (i := 0) rfl dX10_offset_35 ?_
  refine J_iload_n rfl (i := 1) rfl dX10_offset_36 ?_
  obtain ⟨v2, hc1, hw⟩ := hw
  refine J_callV (as := [.int x1]) (k := 63) (st := [.ref 63]) cal_X10_hangs cai_X10_hangs gw_1684 ⟨by decide, by decide⟩ cnt_X10_hangs sh_63 rfl rfl (Nat.le_of_ble_eq_true rfl) dX10_offset_37 (Nat.zero_add _).symm (Nat.zero_add _).symm hc1 ?_
  refine J_if_eq (tgt := 47) dX10_offset_40 (by decide) (fun hb12 => ?_) (fun hb12 => ?_)
  · replace hw := hw.1 hb12
    refine J_iconst (v := 3) (by decide) dX10_offset_47 ?_
    refine J_puti kls_10 (q := 63) (k := 4) sh_63 (by decide) rfl rfl (fun _ => rfl) (fun _ => rfl) gw_1437 dX10_offset_48 ?_
    refine J_aload_n rfl (i := 0) rfl dX10_offset_51 ?_
    refine J_geti kls_10 (q := 63) (k := 4) sh_63 (by decide) rfl gw_1437 dX10_offset_52 ?_
    refine J_if_le (tgt := 62) dX10_offset_55 (by decide) (fun hb7 => ?_) (fun hb7 => ?_)
    · replace hw := hw.1 hb7
      refine J_aload_n rfl (i := 0) rfl dX10_offset_62 ?_
      refine J_iload_n rfl (i := 1) rfl dX10_offset_63 ?_
      refine J_iload_n rfl (i := 2) rfl dX10_offset_64 ?_
      obtain ⟨v5, hc4, hw⟩ := hw
      refine J_callV (as := [.int x1, .int x2]) (k := 63) (st := []) cal_X10_offsetAt cai_X10_offsetAt gw_1875 ⟨by decide, by decide⟩ cnt_X10_offsetAt sh_63 rfl rfl (Nat.le_of_ble_eq_true rfl) dX10_offset_65 (Nat.zero_add _).symm (Nat.zero_add _).symm hc4 ?_
      exact J_fini (ty := .int) rfl rfl dX10_offset_68 hw
    · replace hw := hw.2 hb7
      refine J_iconst (v := 0) (by decide) dX10_offset_58 ?_
      refine J_goto (tgt := 68) dX10_offset_59 (by decide) ?_
      exact J_fini (ty := .int) rfl rfl dX10_offset_68 hw
  · replace hw := hw.2 hb12
    refine J_iconst (v := 0) (by decide) dX10_offset_43 ?_
    refine J_goto (tgt := 48) dX10_offset_44 (by decide) ?_
    refine J_puti kls_10 (q := 63) (k := 4) sh_63 (by decide) rfl rfl (fun _ => rfl) (fun _ => rfl) gw_1437 dX10_offset_48 ?_
    refine J_aload_n rfl (i := 0) rfl dX10_offset_51 ?_
    refine J_geti kls_10 (q := 63) (k := 4) sh_63 (by decide) rfl gw_1437 dX10_offset_52 ?_
    refine J_if_le (tgt := 62) dX10_offset_55 (by decide) (fun hb11 => ?_) (fun hb11 => ?_)
    · replace hw := hw.1 hb11
      refine J_aload_n rfl (i := 0) rfl dX10_offset_62 ?_
      refine J_iload_n rfl (i := 1) rfl dX10_offset_63 ?_
      refine J_iload_n rfl (i := 2) rfl dX10_offset_64 ?_
      obtain ⟨v9, hc8, hw⟩ := hw
      refine J_callV (as := [.int x1, .int x2]) (k := 63) (st := []) cal_X10_offsetAt cai_X10_offsetAt gw_1875 ⟨by decide, by decide⟩ cnt_X10_offsetAt sh_63 rfl rfl (Nat.le_of_ble_eq_true rfl) dX10_offset_65 (Nat.zero_add _).symm (Nat.zero_add _).symm hc8 ?_
      exact J_fini (ty := .int) rfl rfl dX10_offset_68 hw
    · replace hw := hw.2 hb11
      refine J_iconst (v := 0) (by decide) dX10_offset_58 ?_
      refine J_goto (tgt := 68) dX10_offset_59 (by decide) ?_
      exact J_fini (ty := .int) rfl rfl dX10_offset_68 hw
theorem dX10_areTogether_0 : decode cX10_areTogether 0 = .ok (.aload_n 0, 1) := by decide +kernel
theorem dX10_areTogether_1 : decode cX10_areTogether 1 = .ok (.iload_n 1, 1) := by decide +kernel
theorem dX10_areTogether_2 : decode cX10_areTogether 2 = .ok (.invokevirtual 244, 3) := by decide +kernel
theorem dX10_areTogether_5 : decode cX10_areTogether 5 = .ok (.ifCond .eq 22, 3) := by decide +kernel
theorem dX10_areTogether_8 : decode cX10_areTogether 8 = .ok (.aload_n 0, 1) := by decide +kernel
theorem dX10_areTogether_9 : decode cX10_areTogether 9 = .ok (.iload_n 1, 1) := by decide +kernel
theorem dX10_areTogether_10 : decode cX10_areTogether 10 = .ok (.iconst 0, 1) := by decide +kernel
theorem dX10_areTogether_11 : decode cX10_areTogether 11 = .ok (.invokevirtual 229, 3) := by decide +kernel
theorem dX10_areTogether_14 : decode cX10_areTogether 14 = .ok (.aload_n 0, 1) := by decide +kernel
theorem dX10_areTogether_15 : decode cX10_areTogether 15 = .ok (.iload_n 2, 1) := by decide +kernel
theorem dX10_areTogether_16 : decode cX10_areTogether 16 = .ok (.iconst 0, 1) := by decide +kernel
theorem dX10_areTogether_17 : decode cX10_areTogether 17 = .ok (.invokevirtual 229, 3) := by decide +kernel
theorem dX10_areTogether_20 : decode cX10_areTogether 20 = .ok (.if_icmp .ne 7, 3) := by decide +kernel
theorem dX10_areTogether_23 : decode cX10_areTogether 23 = .ok (.iconst 1, 1) := by decide +kernel
theorem dX10_areTogether_24 : decode cX10_areTogether 24 = .ok (.goto 4, 3) := by decide +kernel
theorem dX10_areTogether_27 : decode cX10_areTogether 27 = .ok (.iconst 0, 1) := by decide +kernel
theorem dX10_areTogether_28 : decode cX10_areTogether 28 = .ok (.ireturn, 1) := by decide +kernel
set_option maxRecDepth 20000 in
theorem bX10_areTogether_0 {G : Gx} {mm : Nat → Nat → Int32} {lm : Nat → Int64} {x1 : Int32} {x2 : Int32} {o : Ou} {z : Wd} {a b : Nat} (hw : ∃ (v2 : Int32), Ct G M_X10_hangs [.ref 63, .int x1] (SH, mm, lm) false (.inl (some (.int v2))) (SH, mm, lm) false 0 0 ∧ ((v2 = 0) → o = .inl (some (.int 0)) ∧ z = (SH, mm, lm)) ∧ ((¬ v2 = 0) → ∃ (v5 : Int32), Ct G M_X10_of [.ref 63, .int x1, .int 0] (SH, mm, lm) false (.inl (some (.int v5))) (SH, mm, lm) false 0 0 ∧ ∃ (v8 : Int32), Ct G M_X10_of [.ref 63, .int x2, .int 0] (SH, mm, lm) false (.inl (some (.int v8))) (SH, mm, lm) false 0 0 ∧ ((¬ v5 = v8) → o = .inl (some (.int 0)) ∧ z = (SH, mm, lm)) ∧ ((v5 = v8) → o = .inl (some (.int 1)) ∧ z = (SH, mm, lm)))) :
    J G M_X10_areTogether 0 [(0, .ref 63), (1, .int x1), (2, .int x2)] [] (SH, mm, lm) false o z false a b := by
  refine J_aload_n rfl (i := 0) rfl dX10_areTogether_0 ?_
  refine J_iload_n rfl (i := 1) rfl dX10_areTogether_1 ?_
  obtain ⟨v2, hc1, hw⟩ := hw
  refine J_callV (as := [.int x1]) (k := 63) (st := []) cal_X10_hangs cai_X10_hangs gw_1684 ⟨by decide, by decide⟩ cnt_X10_hangs sh_63 rfl rfl (Nat.le_of_ble_eq_true rfl) dX10_areTogether_2 (Nat.zero_add _).symm (Nat.zero_add _).symm hc1 ?_
  refine J_if_eq (tgt := 27) dX10_areTogether_5 (by decide) (fun hb11 => ?_) (fun hb11 => ?_)
  · replace hw := hw.1 hb11
    refine J_iconst (v := 0) (by decide) dX10_areTogether_27 ?_
    exact J_fini (ty := .boolean) rfl rfl dX10_areTogether_28 hw
  · replace hw := hw.2 hb11
    refine J_aload_n rfl (i := 0) rfl dX10_areTogether_8 ?_
    refine J_iload_n rfl (i := 1) rfl dX10_areTogether_9 ?_
    refine J_iconst (v := 0) (by decide) dX10_areTogether_10 ?_
    obtain ⟨v5, hc4, hw⟩ := hw
    refine J_callV (as := [.int x1, .int 0]) (k := 63) (st := []) cal_X10_of cai_X10_of gw_1688 ⟨by decide, by decide⟩ cnt_X10_of sh_63 rfl rfl (Nat.le_of_ble_eq_true rfl) dX10_areTogether_11 (Nat.zero_add _).symm (Nat.zero_add _).symm hc4 ?_
    refine J_aload_n rfl (i := 0) rfl dX10_areTogether_14 ?_
    refine J_iload_n rfl (i := 2) rfl dX10_areTogether_15 ?_
    refine J_iconst (v := 0) (by decide) dX10_areTogether_16 ?_
    obtain ⟨v8, hc7, hw⟩ := hw
    refine J_callV (as := [.int x2, .int 0]) (k := 63) (st := [.int v5]) cal_X10_of cai_X10_of gw_1688 ⟨by decide, by decide⟩ cnt_X10_of sh_63 rfl rfl (Nat.le_of_ble_eq_true rfl) dX10_areTogether_17 (Nat.zero_add _).symm (Nat.zero_add _).symm hc7 ?_
    refine J_icmp_ne (tgt := 27) dX10_areTogether_20 (by decide) (fun hb10 => ?_) (fun hb10 => ?_)
    · replace hw := hw.1 hb10
      refine J_iconst (v := 0) (by decide) dX10_areTogether_27 ?_
      exact J_fini (ty := .boolean) rfl rfl dX10_areTogether_28 hw
    · replace hw := hw.2 hb10
      refine J_iconst (v := 1) (by decide) dX10_areTogether_23 ?_
      refine J_goto (tgt := 28) dX10_areTogether_24 (by decide) ?_
      exact J_fini (ty := .boolean) rfl rfl dX10_areTogether_28 hw
theorem dX10_gapBy_0 : decode cX10_gapBy 0 = .ok (.aload_n 0, 1) := by decide +kernel
theorem dX10_gapBy_1 : decode cX10_gapBy 1 = .ok (.iload_n 1, 1) := by decide +kernel
theorem dX10_gapBy_2 : decode cX10_gapBy 2 = .ok (.iconst 1, 1) := by decide +kernel
theorem dX10_gapBy_3 : decode cX10_gapBy 3 = .ok (.invokevirtual 229, 3) := by decide +kernel
theorem dX10_gapBy_6 : decode cX10_gapBy 6 = .ok (.iload_n 2, 1) := by decide +kernel
theorem dX10_gapBy_7 : decode cX10_gapBy 7 = .ok (.iadd, 1) := by decide +kernel
theorem dX10_gapBy_8 : decode cX10_gapBy 8 = .ok (.aload_n 0, 1) := by decide +kernel
theorem dX10_gapBy_9 : decode cX10_gapBy 9 = .ok (.iload_n 3, 1) := by decide +kernel
theorem dX10_gapBy_10 : decode cX10_gapBy 10 = .ok (.iconst 1, 1) := by decide +kernel
theorem dX10_gapBy_11 : decode cX10_gapBy 11 = .ok (.invokevirtual 229, 3) := by decide +kernel
theorem dX10_gapBy_14 : decode cX10_gapBy 14 = .ok (.isub, 1) := by decide +kernel
theorem dX10_gapBy_15 : decode cX10_gapBy 15 = .ok (.iload 4, 2) := by decide +kernel
theorem dX10_gapBy_17 : decode cX10_gapBy 17 = .ok (.isub, 1) := by decide +kernel
theorem dX10_gapBy_18 : decode cX10_gapBy 18 = .ok (.istore 5, 2) := by decide +kernel
theorem dX10_gapBy_20 : decode cX10_gapBy 20 = .ok (.aload_n 0, 1) := by decide +kernel
theorem dX10_gapBy_21 : decode cX10_gapBy 21 = .ok (.iload_n 1, 1) := by decide +kernel
theorem dX10_gapBy_22 : decode cX10_gapBy 22 = .ok (.iconst 1, 1) := by decide +kernel
theorem dX10_gapBy_23 : decode cX10_gapBy 23 = .ok (.invokevirtual 229, 3) := by decide +kernel
theorem dX10_gapBy_26 : decode cX10_gapBy 26 = .ok (.aload_n 0, 1) := by decide +kernel
theorem dX10_gapBy_27 : decode cX10_gapBy 27 = .ok (.iload_n 3, 1) := by decide +kernel
theorem dX10_gapBy_28 : decode cX10_gapBy 28 = .ok (.iconst 1, 1) := by decide +kernel
theorem dX10_gapBy_29 : decode cX10_gapBy 29 = .ok (.invokevirtual 229, 3) := by decide +kernel
theorem dX10_gapBy_32 : decode cX10_gapBy 32 = .ok (.if_icmp .le 8, 3) := by decide +kernel
theorem dX10_gapBy_35 : decode cX10_gapBy 35 = .ok (.iload 5, 2) := by decide +kernel
theorem dX10_gapBy_37 : decode cX10_gapBy 37 = .ok (.goto 6, 3) := by decide +kernel
theorem dX10_gapBy_40 : decode cX10_gapBy 40 = .ok (.iload 5, 2) := by decide +kernel
theorem dX10_gapBy_42 : decode cX10_gapBy 42 = .ok (.ineg, 1) := by decide +kernel
theorem dX10_gapBy_43 : decode cX10_gapBy 43 = .ok (.aload_n 0, 1) := by decide +kernel
theorem dX10_gapBy_44 : decode cX10_gapBy 44 = .ok (.getfield 25, 3) := by decide +kernel
theorem dX10_gapBy_47 : decode cX10_gapBy 47 = .ok (.iload_n 1, 1) := by decide +kernel
theorem dX10_gapBy_48 : decode cX10_gapBy 48 = .ok (.iaload, 1) := by decide +kernel
theorem dX10_gapBy_49 : decode cX10_gapBy 49 = .ok (.isub, 1) := by decide +kernel
theorem dX10_gapBy_50 : decode cX10_gapBy 50 = .ok (.aload_n 0, 1) := by decide +kernel
theorem dX10_gapBy_51 : decode cX10_gapBy 51 = .ok (.getfield 25, 3) := by decide +kernel
theorem dX10_gapBy_54 : decode cX10_gapBy 54 = .ok (.iload_n 3, 1) := by decide +kernel
theorem dX10_gapBy_55 : decode cX10_gapBy 55 = .ok (.iaload, 1) := by decide +kernel
theorem dX10_gapBy_56 : decode cX10_gapBy 56 = .ok (.isub, 1) := by decide +kernel
theorem dX10_gapBy_57 : decode cX10_gapBy 57 = .ok (.ireturn, 1) := by decide +kernel
set_option maxRecDepth 20000 in
theorem bX10_gapBy_0 {G : Gx} {mm : Nat → Nat → Int32} {lm : Nat → Int64} {x1 : Int32} {x2 : Int32} {x3 : Int32} {x4 : Int32} {o : Ou} {z : Wd} {a b : Nat} (hw : ∃ (v2 : Int32), Ct G M_X10_of [.ref 63, .int x1, .int 1] (SH, mm, lm) false (.inl (some (.int v2))) (SH, mm, lm) false 0 0 ∧ ∃ (v5 : Int32), Ct G M_X10_of [.ref 63, .int x3, .int 1] (SH, mm, lm) false (.inl (some (.int v5))) (SH, mm, lm) false 0 0 ∧ ∃ (v8 : Int32), Ct G M_X10_of [.ref 63, .int x1, .int 1] (SH, mm, lm) false (.inl (some (.int v8))) (SH, mm, lm) false 0 0 ∧ ∃ (v11 : Int32), Ct G M_X10_of [.ref 63, .int x3, .int 1] (SH, mm, lm) false (.inl (some (.int v11))) (SH, mm, lm) false 0 0 ∧ ((v8 ≤ v11) → ∃ j13 : Nat, x1 = nI j13 ∧ j13 < 8 ∧ ∃ j14 : Nat, x3 = nI j14 ∧ j14 < 8 ∧ o = .inl (some (.int (((-(((v2 + x2) - v5) - x4)) - (mm 69 j13)) - (mm 69 j14)))) ∧ z = (SH, mm, lm)) ∧ ((¬ v8 ≤ v11) → ∃ j15 : Nat, x1 = nI j15 ∧ j15 < 8 ∧ ∃ j16 : Nat, x3 = nI j16 ∧ j16 < 8 ∧ o = .inl (some (.int (((((v2 + x2) - v5) - x4) - (mm 69 j15)) - (mm 69 j16)))) ∧ z = (SH, mm, lm))) :
    J G M_X10_gapBy 0 [(0, .ref 63), (1, .int x1), (2, .int x2), (3, .int x3), (4, .int x4)] [] (SH, mm, lm) false o z false a b := by
  refine J_aload_n rfl (i := 0) rfl dX10_gapBy_0 ?_
  refine J_iload_n rfl (i := 1) rfl dX10_gapBy_1 ?_
  refine J_iconst (v := 1) (by decide) dX10_gapBy_2 ?_
  obtain ⟨v2, hc1, hw⟩ := hw
  refine J_callV (as := [.int x1, .int 1]) (k := 63) (st := []) cal_X10_of cai_X10_of gw_1688 ⟨by decide, by decide⟩ cnt_X10_of sh_63 rfl rfl (Nat.le_of_ble_eq_true rfl) dX10_gapBy_3 (Nat.zero_add _).symm (Nat.zero_add _).symm hc1 ?_
  refine J_iload_n rfl (i := 2) rfl dX10_gapBy_6 ?_
  refine J_iadd dX10_gapBy_7 ?_
  refine J_aload_n rfl (i := 0) rfl dX10_gapBy_8 ?_
  refine J_iload_n rfl (i := 3) rfl dX10_gapBy_9 ?_
  refine J_iconst (v := 1) (by decide) dX10_gapBy_10 ?_
  obtain ⟨v5, hc4, hw⟩ := hw
  refine J_callV (as := [.int x3, .int 1]) (k := 63) (st := [.int (v2 + x2)]) cal_X10_of cai_X10_of gw_1688 ⟨by decide, by decide⟩ cnt_X10_of sh_63 rfl rfl (Nat.le_of_ble_eq_true rfl) dX10_gapBy_11 (Nat.zero_add _).symm (Nat.zero_add _).symm hc4 ?_
  refine J_isub dX10_gapBy_14 ?_
  refine J_iload (i := 4) rfl dX10_gapBy_15 ?_
  refine J_isub dX10_gapBy_17 ?_
  refine J_istore [(5, .int (((v2 + x2) - v5) - x4)), (0, .ref 63), (1, .int x1), (2, .int x2), (3, .int x3), (4, .int x4)] (i := 5) (by decide) rfl dX10_gapBy_18 ?_
  refine J_aload_n rfl (i := 0) rfl dX10_gapBy_20 ?_
  refine J_iload_n rfl (i := 1) rfl dX10_gapBy_21 ?_
  refine J_iconst (v := 1) (by decide) dX10_gapBy_22 ?_
  obtain ⟨v8, hc7, hw⟩ := hw
  refine J_callV (as := [.int x1, .int 1]) (k := 63) (st := []) cal_X10_of cai_X10_of gw_1688 ⟨by decide, by decide⟩ cnt_X10_of sh_63 rfl rfl (Nat.le_of_ble_eq_true rfl) dX10_gapBy_23 (Nat.zero_add _).symm (Nat.zero_add _).symm hc7 ?_
  refine J_aload_n rfl (i := 0) rfl dX10_gapBy_26 ?_
  refine J_iload_n rfl (i := 3) rfl dX10_gapBy_27 ?_
  refine J_iconst (v := 1) (by decide) dX10_gapBy_28 ?_
  obtain ⟨v11, hc10, hw⟩ := hw
  refine J_callV (as := [.int x3, .int 1]) (k := 63) (st := [.int v8]) cal_X10_of cai_X10_of gw_1688 ⟨by decide, by decide⟩ cnt_X10_of sh_63 rfl rfl (Nat.le_of_ble_eq_true rfl) dX10_gapBy_29 (Nat.zero_add _).symm (Nat.zero_add _).symm hc10 ?_
  refine J_icmp_le (tgt := 40) dX10_gapBy_32 (by decide) (fun hb17 => ?_) (fun hb17 => ?_)
  · replace hw := hw.1 hb17
    refine J_iload (i := 5) rfl dX10_gapBy_40 ?_
    refine J_ineg dX10_gapBy_42 ?_
    refine J_aload_n rfl (i := 0) rfl dX10_gapBy_43 ?_
    refine J_getr kls_10 (q := 63) (k := 10) sh_63 (by decide) rfl gw_1443 dX10_gapBy_44 ?_
    refine J_iload_n rfl (i := 1) rfl dX10_gapBy_47 ?_
    obtain ⟨j13, ej13, hj13, hw⟩ := hw
    refine J_iald sh_69 ej13 hj13 (by decide) dX10_gapBy_48 ?_
    refine J_isub dX10_gapBy_49 ?_
    refine J_aload_n rfl (i := 0) rfl dX10_gapBy_50 ?_
    refine J_getr kls_10 (q := 63) (k := 10) sh_63 (by decide) rfl gw_1443 dX10_gapBy_51 ?_
    refine J_iload_n rfl (i := 3) rfl dX10_gapBy_54 ?_
    obtain ⟨j14, ej14, hj14, hw⟩ := hw
    refine J_iald sh_69 ej14 hj14 (by decide) dX10_gapBy_55 ?_
    refine J_isub dX10_gapBy_56 ?_
    exact J_fini (ty := .int) rfl rfl dX10_gapBy_57 hw
  · replace hw := hw.2 hb17
    refine J_iload (i := 5) rfl dX10_gapBy_35 ?_
    refine J_goto (tgt := 43) dX10_gapBy_37 (by decide) ?_
    refine J_aload_n rfl (i := 0) rfl dX10_gapBy_43 ?_
    refine J_getr kls_10 (q := 63) (k := 10) sh_63 (by decide) rfl gw_1443 dX10_gapBy_44 ?_
    refine J_iload_n rfl (i := 1) rfl dX10_gapBy_47 ?_
    obtain ⟨j15, ej15, hj15, hw⟩ := hw
    refine J_iald sh_69 ej15 hj15 (by decide) dX10_gapBy_48 ?_
    refine J_isub dX10_gapBy_49 ?_
    refine J_aload_n rfl (i := 0) rfl dX10_gapBy_50 ?_
    refine J_getr kls_10 (q := 63) (k := 10) sh_63 (by decide) rfl gw_1443 dX10_gapBy_51 ?_
    refine J_iload_n rfl (i := 3) rfl dX10_gapBy_54 ?_
    obtain ⟨j16, ej16, hj16, hw⟩ := hw
    refine J_iald sh_69 ej16 hj16 (by decide) dX10_gapBy_55 ?_
    refine J_isub dX10_gapBy_56 ?_
    exact J_fini (ty := .int) rfl rfl dX10_gapBy_57 hw
theorem dX10_gap_0 : decode cX10_gap 0 = .ok (.aload_n 0, 1) := by decide +kernel
theorem dX10_gap_1 : decode cX10_gap 1 = .ok (.aload_n 0, 1) := by decide +kernel
theorem dX10_gap_2 : decode cX10_gap 2 = .ok (.iload_n 1, 1) := by decide +kernel
theorem dX10_gap_3 : decode cX10_gap 3 = .ok (.invokevirtual 235, 3) := by decide +kernel
theorem dX10_gap_6 : decode cX10_gap 6 = .ok (.ifCond .eq 32, 3) := by decide +kernel
theorem dX10_gap_9 : decode cX10_gap 9 = .ok (.aload_n 0, 1) := by decide +kernel
theorem dX10_gap_10 : decode cX10_gap 10 = .ok (.iload_n 2, 1) := by decide +kernel
theorem dX10_gap_11 : decode cX10_gap 11 = .ok (.invokevirtual 235, 3) := by decide +kernel
theorem dX10_gap_14 : decode cX10_gap 14 = .ok (.ifCond .eq 24, 3) := by decide +kernel
theorem dX10_gap_17 : decode cX10_gap 17 = .ok (.iload_n 1, 1) := by decide +kernel
theorem dX10_gap_18 : decode cX10_gap 18 = .ok (.iload_n 2, 1) := by decide +kernel
theorem dX10_gap_19 : decode cX10_gap 19 = .ok (.if_icmp .eq 19, 3) := by decide +kernel
theorem dX10_gap_22 : decode cX10_gap 22 = .ok (.iload_n 3, 1) := by decide +kernel
theorem dX10_gap_23 : decode cX10_gap 23 = .ok (.i2l, 1) := by decide +kernel
theorem dX10_gap_24 : decode cX10_gap 24 = .ok (.lconst 0, 1) := by decide +kernel
theorem dX10_gap_25 : decode cX10_gap 25 = .ok (.ldc2_w 337, 3) := by decide +kernel
theorem dX10_gap_28 : decode cX10_gap 28 = .ok (.invokestatic 91, 3) := by decide +kernel
theorem dX10_gap_31 : decode cX10_gap 31 = .ok (.ifCond .eq 7, 3) := by decide +kernel
theorem dX10_gap_34 : decode cX10_gap 34 = .ok (.iconst 1, 1) := by decide +kernel
theorem dX10_gap_35 : decode cX10_gap 35 = .ok (.goto 4, 3) := by decide +kernel
theorem dX10_gap_38 : decode cX10_gap 38 = .ok (.iconst 0, 1) := by decide +kernel
theorem dX10_gap_39 : decode cX10_gap 39 = .ok (.invokevirtual 221, 3) := by decide +kernel
theorem dX10_gap_42 : decode cX10_gap 42 = .ok (.ifCond .eq 5, 3) := by decide +kernel
theorem dX10_gap_45 : decode cX10_gap 45 = .ok (.iconst 0, 1) := by decide +kernel
theorem dX10_gap_46 : decode cX10_gap 46 = .ok (.ireturn, 1) := by decide +kernel
theorem dX10_gap_47 : decode cX10_gap 47 = .ok (.aload_n 0, 1) := by decide +kernel
theorem dX10_gap_48 : decode cX10_gap 48 = .ok (.aload_n 0, 1) := by decide +kernel
theorem dX10_gap_49 : decode cX10_gap 49 = .ok (.iload_n 1, 1) := by decide +kernel
theorem dX10_gap_50 : decode cX10_gap 50 = .ok (.iload_n 2, 1) := by decide +kernel
theorem dX10_gap_51 : decode cX10_gap 51 = .ok (.invokevirtual 342, 3) := by decide +kernel
theorem dX10_gap_54 : decode cX10_gap 54 = .ok (.ifCond .eq 7, 3) := by decide +kernel
theorem dX10_gap_57 : decode cX10_gap 57 = .ok (.iconst 0, 1) := by decide +kernel
theorem dX10_gap_58 : decode cX10_gap 58 = .ok (.goto 4, 3) := by decide +kernel
theorem dX10_gap_61 : decode cX10_gap 61 = .ok (.iconst 3, 1) := by decide +kernel
theorem dX10_gap_62 : decode cX10_gap 62 = .ok (.putfield 77, 3) := by decide +kernel
theorem dX10_gap_65 : decode cX10_gap 65 = .ok (.aload_n 0, 1) := by decide +kernel
theorem dX10_gap_66 : decode cX10_gap 66 = .ok (.getfield 77, 3) := by decide +kernel
theorem dX10_gap_69 : decode cX10_gap 69 = .ok (.ifCond .le 7, 3) := by decide +kernel
theorem dX10_gap_72 : decode cX10_gap 72 = .ok (.iconst 0, 1) := by decide +kernel
theorem dX10_gap_73 : decode cX10_gap 73 = .ok (.goto 21, 3) := by decide +kernel
theorem dX10_gap_76 : decode cX10_gap 76 = .ok (.aload_n 0, 1) := by decide +kernel
theorem dX10_gap_77 : decode cX10_gap 77 = .ok (.iload_n 1, 1) := by decide +kernel
theorem dX10_gap_78 : decode cX10_gap 78 = .ok (.aload_n 0, 1) := by decide +kernel
theorem dX10_gap_79 : decode cX10_gap 79 = .ok (.iload_n 1, 1) := by decide +kernel
theorem dX10_gap_80 : decode cX10_gap 80 = .ok (.iload_n 3, 1) := by decide +kernel
theorem dX10_gap_81 : decode cX10_gap 81 = .ok (.invokevirtual 339, 3) := by decide +kernel
theorem dX10_gap_84 : decode cX10_gap 84 = .ok (.iload_n 2, 1) := by decide +kernel
theorem dX10_gap_85 : decode cX10_gap 85 = .ok (.aload_n 0, 1) := by decide +kernel
theorem dX10_gap_86 : decode cX10_gap 86 = .ok (.iload_n 2, 1) := by decide +kernel
theorem dX10_gap_87 : decode cX10_gap 87 = .ok (.iload_n 3, 1) := by decide +kernel
theorem dX10_gap_88 : decode cX10_gap 88 = .ok (.invokevirtual 339, 3) := by decide +kernel
theorem dX10_gap_91 : decode cX10_gap 91 = .ok (.invokevirtual 345, 3) := by decide +kernel
theorem dX10_gap_94 : decode cX10_gap 94 = .ok (.ireturn, 1) := by decide +kernel
set_option maxRecDepth 20000 in
theorem bX10_gap_0 {G : Gx} {mm : Nat → Nat → Int32} {lm : Nat → Int64} {x1 : Int32} {x2 : Int32} {x3 : Int32} {o : Ou} {z : Wd} {a b : Nat} (hw : ∃ (v2 : Int32), Ct G M_X10_isBell [.ref 63, .int x1] (SH, mm, lm) false (.inl (some (.int v2))) (SH, mm, lm) false 0 0 ∧ ((v2 = 0) → ∃ (v5 : Int32) (m6 : Nat → Nat → Int32), Ct G M_X10_isWrong [.ref 63, .int 0] (SH, mm, lm) false (.inl (some (.int v5))) (SH, m6, lm) false 0 0 ∧ ((v5 = 0) → J G M_X10_gap 47 [(0, .ref 63), (1, .int x1), (2, .int x2), (3, .int x3)] [] (SH, m6, lm) false o z false a b) ∧ ((¬ v5 = 0) → o = .inl (some (.int 0)) ∧ z = (SH, m6, lm))) ∧ ((¬ v2 = 0) → ∃ (v9 : Int32), Ct G M_X10_isBell [.ref 63, .int x2] (SH, mm, lm) false (.inl (some (.int v9))) (SH, mm, lm) false 0 0 ∧ ((v9 = 0) → ∃ (v12 : Int32) (m13 : Nat → Nat → Int32), Ct G M_X10_isWrong [.ref 63, .int 0] (SH, mm, lm) false (.inl (some (.int v12))) (SH, m13, lm) false 0 0 ∧ ((v12 = 0) → J G M_X10_gap 47 [(0, .ref 63), (1, .int x1), (2, .int x2), (3, .int x3)] [] (SH, m13, lm) false o z false a b) ∧ ((¬ v12 = 0) → o = .inl (some (.int 0)) ∧ z = (SH, m13, lm))) ∧ ((¬ v9 = 0) → ((x1 = x2) → ∃ (v16 : Int32) (m17 : Nat → Nat → Int32), Ct G M_X10_isWrong [.ref 63, .int 0] (SH, mm, lm) false (.inl (some (.int v16))) (SH, m17, lm) false 0 0 ∧ ((v16 = 0) → J G M_X10_gap 47 [(0, .ref 63), (1, .int x1), (2, .int x2), (3, .int x3)] [] (SH, m17, lm) false o z false a b) ∧ ((¬ v16 = 0) → o = .inl (some (.int 0)) ∧ z = (SH, m17, lm))) ∧ ((¬ x1 = x2) → ∃ (v20 : Int32), Ct G M_X10_isIn [.long (Int32.toInt64 x3), .long 0, .long 9999] (SH, mm, lm) false (.inl (some (.int v20))) (SH, mm, lm) false 0 0 ∧ ((v20 = 0) → ∃ (v23 : Int32) (m24 : Nat → Nat → Int32), Ct G M_X10_isWrong [.ref 63, .int 0] (SH, mm, lm) false (.inl (some (.int v23))) (SH, m24, lm) false 0 0 ∧ ((v23 = 0) → J G M_X10_gap 47 [(0, .ref 63), (1, .int x1), (2, .int x2), (3, .int x3)] [] (SH, m24, lm) false o z false a b) ∧ ((¬ v23 = 0) → o = .inl (some (.int 0)) ∧ z = (SH, m24, lm))) ∧ ((¬ v20 = 0) → ∃ (v27 : Int32) (m28 : Nat → Nat → Int32), Ct G M_X10_isWrong [.ref 63, .int 1] (SH, mm, lm) false (.inl (some (.int v27))) (SH, m28, lm) false 0 0 ∧ ((v27 = 0) → J G M_X10_gap 47 [(0, .ref 63), (1, .int x1), (2, .int x2), (3, .int x3)] [] (SH, m28, lm) false o z false a b) ∧ ((¬ v27 = 0) → o = .inl (some (.int 0)) ∧ z = (SH, m28, lm))))))) :
    J G M_X10_gap 0 [(0, .ref 63), (1, .int x1), (2, .int x2), (3, .int x3)] [] (SH, mm, lm) false o z false a b := by
  refine J_aload_n rfl (i := 0) rfl dX10_gap_0 ?_
  refine J_aload_n rfl (i := 0) rfl dX10_gap_1 ?_
  refine J_iload_n rfl (i := 1) rfl dX10_gap_2 ?_
  obtain ⟨v2, hc1, hw⟩ := hw
  refine J_callV (as := [.int x1]) (k := 63) (st := [.ref 63]) cal_X10_isBell cai_X10_isBell gw_1671 ⟨by decide, by decide⟩ cnt_X10_isBell sh_63 rfl rfl (Nat.le_of_ble_eq_true rfl) dX10_gap_3 (Nat.zero_add _).symm (Nat.zero_add _).symm hc1 ?_
  refine J_if_eq (tgt := 38) dX10_gap_6 (by decide) (fun hb33 => ?_) (fun hb33 => ?_)
  · replace hw := hw.1 hb33
    refine J_iconst (v := 0) (by decide) dX10_gap_38 ?_
    obtain ⟨v5, m6, hc4, hw⟩ := hw
    refine J_callV (as := [.int 0]) (k := 63) (st := []) cal_X10_isWrong cai_X10_isWrong gw_1663 ⟨by decide, by decide⟩ cnt_X10_isWrong sh_63 rfl rfl (Nat.le_of_ble_eq_true rfl) dX10_gap_39 (Nat.zero_add _).symm (Nat.zero_add _).symm hc4 ?_
    refine J_if_eq (tgt := 47) dX10_gap_42 (by decide) (fun hb7 => ?_) (fun hb7 => ?_)
    · replace hw := hw.1 hb7
      exact hw
    · replace hw := hw.2 hb7
      refine J_iconst (v := 0) (by decide) dX10_gap_45 ?_
      exact J_fini (ty := .int) rfl rfl dX10_gap_46 hw
  · replace hw := hw.2 hb33
    refine J_aload_n rfl (i := 0) rfl dX10_gap_9 ?_
    refine J_iload_n rfl (i := 2) rfl dX10_gap_10 ?_
    obtain ⟨v9, hc8, hw⟩ := hw
    refine J_callV (as := [.int x2]) (k := 63) (st := [.ref 63]) cal_X10_isBell cai_X10_isBell gw_1671 ⟨by decide, by decide⟩ cnt_X10_isBell sh_63 rfl rfl (Nat.le_of_ble_eq_true rfl) dX10_gap_11 (Nat.zero_add _).symm (Nat.zero_add _).symm hc8 ?_
    refine J_if_eq (tgt := 38) dX10_gap_14 (by decide) (fun hb32 => ?_) (fun hb32 => ?_)
    · replace hw := hw.1 hb32
      refine J_iconst (v := 0) (by decide) dX10_gap_38 ?_
      obtain ⟨v12, m13, hc11, hw⟩ := hw
      refine J_callV (as := [.int 0]) (k := 63) (st := []) cal_X10_isWrong cai_X10_isWrong gw_1663 ⟨by decide, by decide⟩ cnt_X10_isWrong sh_63 rfl rfl (Nat.le_of_ble_eq_true rfl) dX10_gap_39 (Nat.zero_add _).symm (Nat.zero_add _).symm hc11 ?_
      refine J_if_eq (tgt := 47) dX10_gap_42 (by decide) (fun hb14 => ?_) (fun hb14 => ?_)
      · replace hw := hw.1 hb14
        exact hw
      · replace hw := hw.2 hb14
        refine J_iconst (v := 0) (by decide) dX10_gap_45 ?_
        exact J_fini (ty := .int) rfl rfl dX10_gap_46 hw
    · replace hw := hw.2 hb32
      refine J_iload_n rfl (i := 1) rfl dX10_gap_17 ?_
      refine J_iload_n rfl (i := 2) rfl dX10_gap_18 ?_
      refine J_icmp_eq (tgt := 38) dX10_gap_19 (by decide) (fun hb31 => ?_) (fun hb31 => ?_)
      · replace hw := hw.1 hb31
        refine J_iconst (v := 0) (by decide) dX10_gap_38 ?_
        obtain ⟨v16, m17, hc15, hw⟩ := hw
        refine J_callV (as := [.int 0]) (k := 63) (st := []) cal_X10_isWrong cai_X10_isWrong gw_1663 ⟨by decide, by decide⟩ cnt_X10_isWrong sh_63 rfl rfl (Nat.le_of_ble_eq_true rfl) dX10_gap_39 (Nat.zero_add _).symm (Nat.zero_add _).symm hc15 ?_
        refine J_if_eq (tgt := 47) dX10_gap_42 (by decide) (fun hb18 => ?_) (fun hb18 => ?_)
        · replace hw := hw.1 hb18
          exact hw
        · replace hw := hw.2 hb18
          refine J_iconst (v := 0) (by decide) dX10_gap_45 ?_
          exact J_fini (ty := .int) rfl rfl dX10_gap_46 hw
      · replace hw := hw.2 hb31
        refine J_iload_n rfl (i := 3) rfl dX10_gap_22 ?_
        refine J_i2l dX10_gap_23 ?_
        refine J_lconst (v := 0) (by decide) dX10_gap_24 ?_
        refine J_ldc2 gw_1874 dX10_gap_25 ?_
        obtain ⟨v20, hc19, hw⟩ := hw
        refine J_callS (as := [.long (Int32.toInt64 x3), .long 0, .long 9999]) (st := [.ref 63]) cal_X10_isIn cas_X10_isIn gw_1573 ⟨by decide, by decide⟩ cnt_X10_isIn rfl (Nat.le_of_ble_eq_true rfl) dX10_gap_28 (Nat.zero_add _).symm (Nat.zero_add _).symm hc19 ?_
        refine J_if_eq (tgt := 38) dX10_gap_31 (by decide) (fun hb30 => ?_) (fun hb30 => ?_)
        · replace hw := hw.1 hb30
          refine J_iconst (v := 0) (by decide) dX10_gap_38 ?_
          obtain ⟨v23, m24, hc22, hw⟩ := hw
          refine J_callV (as := [.int 0]) (k := 63) (st := []) cal_X10_isWrong cai_X10_isWrong gw_1663 ⟨by decide, by decide⟩ cnt_X10_isWrong sh_63 rfl rfl (Nat.le_of_ble_eq_true rfl) dX10_gap_39 (Nat.zero_add _).symm (Nat.zero_add _).symm hc22 ?_
          refine J_if_eq (tgt := 47) dX10_gap_42 (by decide) (fun hb25 => ?_) (fun hb25 => ?_)
          · replace hw := hw.1 hb25
            exact hw
          · replace hw := hw.2 hb25
            refine J_iconst (v := 0) (by decide) dX10_gap_45 ?_
            exact J_fini (ty := .int) rfl rfl dX10_gap_46 hw
        · replace hw := hw.2 hb30
          refine J_iconst (v := 1) (by decide) dX10_gap_34 ?_
          refine J_goto (tgt := 39) dX10_gap_35 (by decide) ?_
          obtain ⟨v27, m28, hc26, hw⟩ := hw
          refine J_callV (as := [.int 1]) (k := 63) (st := []) cal_X10_isWrong cai_X10_isWrong gw_1663 ⟨by decide, by decide⟩ cnt_X10_isWrong sh_63 rfl rfl (Nat.le_of_ble_eq_true rfl) dX10_gap_39 (Nat.zero_add _).symm (Nat.zero_add _).symm hc26 ?_
          refine J_if_eq (tgt := 47) dX10_gap_42 (by decide) (fun hb29 => ?_) (fun hb29 => ?_)
          · replace hw := hw.1 hb29
            exact hw
          · replace hw := hw.2 hb29
            refine J_iconst (v := 0) (by decide) dX10_gap_45 ?_
            exact J_fini (ty := .int) rfl rfl dX10_gap_46 hw
set_option maxRecDepth 20000 in
theorem bX10_gap_47 {G : Gx} {mm : Nat → Nat → Int32} {lm : Nat → Int64} {x1 : Int32} {x2 : Int32} {x3 : Int32} {o : Ou} {z : Wd} {a b : Nat} (hw : ∃ (v2 : Int32), Ct G M_X10_areTogether [.ref 63, .int x1, .int x2] (SH, mm, lm) false (.inl (some (.int v2))) (SH, mm, lm) false 0 0 ∧ ((v2 = 0) → ((((mset mm 63 4 3) 63 4) ≤ 0) → ∃ (v5 : Int32), Ct G M_X10_offsetAt [.ref 63, .int x1, .int x3] (SH, (mset mm 63 4 3), lm) false (.inl (some (.int v5))) (SH, (mset mm 63 4 3), lm) false 0 0 ∧ ∃ (v8 : Int32), Ct G M_X10_offsetAt [.ref 63, .int x2, .int x3] (SH, (mset mm 63 4 3), lm) false (.inl (some (.int v8))) (SH, (mset mm 63 4 3), lm) false 0 0 ∧ ∃ (v11 : Int32), Ct G M_X10_gapBy [.ref 63, .int x1, .int v5, .int x2, .int v8] (SH, (mset mm 63 4 3), lm) false (.inl (some (.int v11))) (SH, (mset mm 63 4 3), lm) false 0 0 ∧ o = .inl (some (.int v11)) ∧ z = (SH, (mset mm 63 4 3), lm)) ∧ ((¬ ((mset mm 63 4 3) 63 4) ≤ 0) → o = .inl (some (.int 0)) ∧ z = (SH, (mset mm 63 4 3), lm))) ∧ ((¬ v2 = 0) → ((((mset mm 63 4 0) 63 4) ≤ 0) → ∃ (v15 : Int32), Ct G M_X10_offsetAt [.ref 63, .int x1, .int x3] (SH, (mset mm 63 4 0), lm) false (.inl (some (.int v15))) (SH, (mset mm 63 4 0), lm) false 0 0 ∧ ∃ (v18 : Int32), Ct G M_X10_offsetAt [.ref 63, .int x2, .int x3] (SH, (mset mm 63 4 0), lm) false (.inl (some (.int v18))) (SH, (mset mm 63 4 0), lm) false 0 0 ∧ ∃ (v21 : Int32), Ct G M_X10_gapBy [.ref 63, .int x1, .int v15, .int x2, .int v18] (SH, (mset mm 63 4 0), lm) false (.inl (some (.int v21))) (SH, (mset mm 63 4 0), lm) false 0 0 ∧ o = .inl (some (.int v21)) ∧ z = (SH, (mset mm 63 4 0), lm)) ∧ ((¬ ((mset mm 63 4 0) 63 4) ≤ 0) → o = .inl (some (.int 0)) ∧ z = (SH, (mset mm 63 4 0), lm)))) :
    J G M_X10_gap 47 [(0, .ref 63), (1, .int x1), (2, .int x2), (3, .int x3)] [] (SH, mm, lm) false o z false a b := by
  refine J_aload_n rfl (i := 0) rfl dX10_gap_47 ?_
  refine J_aload_n rfl (i := 0) rfl dX10_gap_48 ?_
  refine J_iload_n rfl (i := 1) rfl dX10_gap_49 ?_
  refine J_iload_n rfl (i := 2) rfl dX10_gap_50 ?_
  obtain ⟨v2, hc1, hw⟩ := hw
  refine J_callV (as := [.int x1, .int x2]) (k := 63) (st := [.ref 63]) cal_X10_areTogether cai_X10_areTogether gw_1887 ⟨by decide, by decide⟩ cnt_X10_areTogether sh_63 rfl rfl (Nat.le_of_ble_eq_true rfl) dX10_gap_51 (Nat.zero_add _).symm (Nat.zero_add _).symm hc1 ?_
  refine J_if_eq (tgt := 61) dX10_gap_54 (by decide) (fun hb24 => ?_) (fun hb24 => ?_)
  · replace hw := hw.1 hb24
    refine J_iconst (v := 3) (by decide) dX10_gap_61 ?_
    refine J_puti kls_10 (q := 63) (k := 4) sh_63 (by decide) rfl rfl (fun _ => rfl) (fun _ => rfl) gw_1437 dX10_gap_62 ?_
    refine J_aload_n rfl (i := 0) rfl dX10_gap_65 ?_
    refine J_geti kls_10 (q := 63) (k := 4) sh_63 (by decide) rfl gw_1437 dX10_gap_66 ?_
    refine J_if_le (tgt := 76) dX10_gap_69 (by decide) (fun hb13 => ?_) (fun hb13 => ?_)
    · replace hw := hw.1 hb13
      refine J_aload_n rfl (i := 0) rfl dX10_gap_76 ?_
      refine J_iload_n rfl (i := 1) rfl dX10_gap_77 ?_
      refine J_aload_n rfl (i := 0) rfl dX10_gap_78 ?_
      refine J_iload_n rfl (i := 1) rfl dX10_gap_79 ?_
      refine J_iload_n rfl (i := 3) rfl dX10_gap_80 ?_
      obtain ⟨v5, hc4, hw⟩ := hw
      refine J_callV (as := [.int x1, .int x3]) (k := 63) (st := [.int x1, .ref 63]) cal_X10_offsetAt cai_X10_offsetAt gw_1875 ⟨by decide, by decide⟩ cnt_X10_offsetAt sh_63 rfl rfl (Nat.le_of_ble_eq_true rfl) dX10_gap_81 (Nat.zero_add _).symm (Nat.zero_add _).symm hc4 ?_
      refine J_iload_n rfl (i := 2) rfl dX10_gap_84 ?_
      refine J_aload_n rfl (i := 0) rfl dX10_gap_85 ?_
      refine J_iload_n rfl (i := 2) rfl dX10_gap_86 ?_
      refine J_iload_n rfl (i := 3) rfl dX10_gap_87 ?_
      obtain ⟨v8, hc7, hw⟩ := hw
      refine J_callV (as := [.int x2, .int x3]) (k := 63) (st := [.int x2, .int v5, .int x1, .ref 63]) cal_X10_offsetAt cai_X10_offsetAt gw_1875 ⟨by decide, by decide⟩ cnt_X10_offsetAt sh_63 rfl rfl (Nat.le_of_ble_eq_true rfl) dX10_gap_88 (Nat.zero_add _).symm (Nat.zero_add _).symm hc7 ?_
      obtain ⟨v11, hc10, hw⟩ := hw
      refine J_callV (as := [.int x1, .int v5, .int x2, .int v8]) (k := 63) (st := []) cal_X10_gapBy cai_X10_gapBy gw_1891 ⟨by decide, by decide⟩ cnt_X10_gapBy sh_63 rfl rfl (Nat.le_of_ble_eq_true rfl) dX10_gap_91 (Nat.zero_add _).symm (Nat.zero_add _).symm hc10 ?_
      exact J_fini (ty := .int) rfl rfl dX10_gap_94 hw
    · replace hw := hw.2 hb13
      refine J_iconst (v := 0) (by decide) dX10_gap_72 ?_
      refine J_goto (tgt := 94) dX10_gap_73 (by decide) ?_
      exact J_fini (ty := .int) rfl rfl dX10_gap_94 hw
  · replace hw := hw.2 hb24
    refine J_iconst (v := 0) (by decide) dX10_gap_57 ?_
    refine J_goto (tgt := 62) dX10_gap_58 (by decide) ?_
    refine J_puti kls_10 (q := 63) (k := 4) sh_63 (by decide) rfl rfl (fun _ => rfl) (fun _ => rfl) gw_1437 dX10_gap_62 ?_
    refine J_aload_n rfl (i := 0) rfl dX10_gap_65 ?_
    refine J_geti kls_10 (q := 63) (k := 4) sh_63 (by decide) rfl gw_1437 dX10_gap_66 ?_
    refine J_if_le (tgt := 76) dX10_gap_69 (by decide) (fun hb23 => ?_) (fun hb23 => ?_)
    · replace hw := hw.1 hb23
      refine J_aload_n rfl (i := 0) rfl dX10_gap_76 ?_
      refine J_iload_n rfl (i := 1) rfl dX10_gap_77 ?_
      refine J_aload_n rfl (i := 0) rfl dX10_gap_78 ?_
      refine J_iload_n rfl (i := 1) rfl dX10_gap_79 ?_
      refine J_iload_n rfl (i := 3) rfl dX10_gap_80 ?_
      obtain ⟨v15, hc14, hw⟩ := hw
      refine J_callV (as := [.int x1, .int x3]) (k := 63) (st := [.int x1, .ref 63]) cal_X10_offsetAt cai_X10_offsetAt gw_1875 ⟨by decide, by decide⟩ cnt_X10_offsetAt sh_63 rfl rfl (Nat.le_of_ble_eq_true rfl) dX10_gap_81 (Nat.zero_add _).symm (Nat.zero_add _).symm hc14 ?_
      refine J_iload_n rfl (i := 2) rfl dX10_gap_84 ?_
      refine J_aload_n rfl (i := 0) rfl dX10_gap_85 ?_
      refine J_iload_n rfl (i := 2) rfl dX10_gap_86 ?_
      refine J_iload_n rfl (i := 3) rfl dX10_gap_87 ?_
      obtain ⟨v18, hc17, hw⟩ := hw
      refine J_callV (as := [.int x2, .int x3]) (k := 63) (st := [.int x2, .int v15, .int x1, .ref 63]) cal_X10_offsetAt cai_X10_offsetAt gw_1875 ⟨by decide, by decide⟩ cnt_X10_offsetAt sh_63 rfl rfl (Nat.le_of_ble_eq_true rfl) dX10_gap_88 (Nat.zero_add _).symm (Nat.zero_add _).symm hc17 ?_
      obtain ⟨v21, hc20, hw⟩ := hw
      refine J_callV (as := [.int x1, .int v15, .int x2, .int v18]) (k := 63) (st := []) cal_X10_gapBy cai_X10_gapBy gw_1891 ⟨by decide, by decide⟩ cnt_X10_gapBy sh_63 rfl rfl (Nat.le_of_ble_eq_true rfl) dX10_gap_91 (Nat.zero_add _).symm (Nat.zero_add _).symm hc20 ?_
      exact J_fini (ty := .int) rfl rfl dX10_gap_94 hw
    · replace hw := hw.2 hb23
      refine J_iconst (v := 0) (by decide) dX10_gap_72 ?_
      refine J_goto (tgt := 94) dX10_gap_73 (by decide) ?_
      exact J_fini (ty := .int) rfl rfl dX10_gap_94 hw
theorem dX10_collide_0 : decode cX10_collide 0 = .ok (.aload_n 0, 1) := by decide +kernel
theorem dX10_collide_1 : decode cX10_collide 1 = .ok (.iload_n 1, 1) := by decide +kernel
theorem dX10_collide_2 : decode cX10_collide 2 = .ok (.iload_n 2, 1) := by decide +kernel
theorem dX10_collide_3 : decode cX10_collide 3 = .ok (.invokevirtual 342, 3) := by decide +kernel
theorem dX10_collide_6 : decode cX10_collide 6 = .ok (.ifCond .eq 28, 3) := by decide +kernel
theorem dX10_collide_9 : decode cX10_collide 9 = .ok (.aload_n 0, 1) := by decide +kernel
theorem dX10_collide_10 : decode cX10_collide 10 = .ok (.iload_n 1, 1) := by decide +kernel
theorem dX10_collide_11 : decode cX10_collide 11 = .ok (.aload_n 0, 1) := by decide +kernel
theorem dX10_collide_12 : decode cX10_collide 12 = .ok (.iload_n 1, 1) := by decide +kernel
theorem dX10_collide_13 : decode cX10_collide 13 = .ok (.iload_n 3, 1) := by decide +kernel
theorem dX10_collide_14 : decode cX10_collide 14 = .ok (.invokevirtual 339, 3) := by decide +kernel
theorem dX10_collide_17 : decode cX10_collide 17 = .ok (.iload_n 2, 1) := by decide +kernel
theorem dX10_collide_18 : decode cX10_collide 18 = .ok (.aload_n 0, 1) := by decide +kernel
theorem dX10_collide_19 : decode cX10_collide 19 = .ok (.iload_n 2, 1) := by decide +kernel
theorem dX10_collide_20 : decode cX10_collide 20 = .ok (.iload_n 3, 1) := by decide +kernel
theorem dX10_collide_21 : decode cX10_collide 21 = .ok (.invokevirtual 339, 3) := by decide +kernel
theorem dX10_collide_24 : decode cX10_collide 24 = .ok (.invokevirtual 345, 3) := by decide +kernel
theorem dX10_collide_27 : decode cX10_collide 27 = .ok (.ifCond .ge 7, 3) := by decide +kernel
theorem dX10_collide_30 : decode cX10_collide 30 = .ok (.iconst 1, 1) := by decide +kernel
theorem dX10_collide_31 : decode cX10_collide 31 = .ok (.goto 4, 3) := by decide +kernel
theorem dX10_collide_34 : decode cX10_collide 34 = .ok (.iconst 0, 1) := by decide +kernel
theorem dX10_collide_35 : decode cX10_collide 35 = .ok (.ireturn, 1) := by decide +kernel
set_option maxRecDepth 20000 in
theorem bX10_collide_0 {G : Gx} {mm : Nat → Nat → Int32} {lm : Nat → Int64} {x1 : Int32} {x2 : Int32} {x3 : Int32} {o : Ou} {z : Wd} {a b : Nat} (hw : ∃ (v2 : Int32), Ct G M_X10_areTogether [.ref 63, .int x1, .int x2] (SH, mm, lm) false (.inl (some (.int v2))) (SH, mm, lm) false 0 0 ∧ ((v2 = 0) → o = .inl (some (.int 0)) ∧ z = (SH, mm, lm)) ∧ ((¬ v2 = 0) → ∃ (v5 : Int32), Ct G M_X10_offsetAt [.ref 63, .int x1, .int x3] (SH, mm, lm) false (.inl (some (.int v5))) (SH, mm, lm) false 0 0 ∧ ∃ (v8 : Int32), Ct G M_X10_offsetAt [.ref 63, .int x2, .int x3] (SH, mm, lm) false (.inl (some (.int v8))) (SH, mm, lm) false 0 0 ∧ ∃ (v11 : Int32), Ct G M_X10_gapBy [.ref 63, .int x1, .int v5, .int x2, .int v8] (SH, mm, lm) false (.inl (some (.int v11))) (SH, mm, lm) false 0 0 ∧ ((0 ≤ v11) → o = .inl (some (.int 0)) ∧ z = (SH, mm, lm)) ∧ ((¬ 0 ≤ v11) → o = .inl (some (.int 1)) ∧ z = (SH, mm, lm)))) :
    J G M_X10_collide 0 [(0, .ref 63), (1, .int x1), (2, .int x2), (3, .int x3)] [] (SH, mm, lm) false o z false a b := by
  refine J_aload_n rfl (i := 0) rfl dX10_collide_0 ?_
  refine J_iload_n rfl (i := 1) rfl dX10_collide_1 ?_
  refine J_iload_n rfl (i := 2) rfl dX10_collide_2 ?_
  obtain ⟨v2, hc1, hw⟩ := hw
  refine J_callV (as := [.int x1, .int x2]) (k := 63) (st := []) cal_X10_areTogether cai_X10_areTogether gw_1887 ⟨by decide, by decide⟩ cnt_X10_areTogether sh_63 rfl rfl (Nat.le_of_ble_eq_true rfl) dX10_collide_3 (Nat.zero_add _).symm (Nat.zero_add _).symm hc1 ?_
  refine J_if_eq (tgt := 34) dX10_collide_6 (by decide) (fun hb14 => ?_) (fun hb14 => ?_)
  · replace hw := hw.1 hb14
    refine J_iconst (v := 0) (by decide) dX10_collide_34 ?_
    exact J_fini (ty := .boolean) rfl rfl dX10_collide_35 hw
  · replace hw := hw.2 hb14
    refine J_aload_n rfl (i := 0) rfl dX10_collide_9 ?_
    refine J_iload_n rfl (i := 1) rfl dX10_collide_10 ?_
    refine J_aload_n rfl (i := 0) rfl dX10_collide_11 ?_
    refine J_iload_n rfl (i := 1) rfl dX10_collide_12 ?_
    refine J_iload_n rfl (i := 3) rfl dX10_collide_13 ?_
    obtain ⟨v5, hc4, hw⟩ := hw
    refine J_callV (as := [.int x1, .int x3]) (k := 63) (st := [.int x1, .ref 63]) cal_X10_offsetAt cai_X10_offsetAt gw_1875 ⟨by decide, by decide⟩ cnt_X10_offsetAt sh_63 rfl rfl (Nat.le_of_ble_eq_true rfl) dX10_collide_14 (Nat.zero_add _).symm (Nat.zero_add _).symm hc4 ?_
    refine J_iload_n rfl (i := 2) rfl dX10_collide_17 ?_
    refine J_aload_n rfl (i := 0) rfl dX10_collide_18 ?_
    refine J_iload_n rfl (i := 2) rfl dX10_collide_19 ?_
    refine J_iload_n rfl (i := 3) rfl dX10_collide_20 ?_
    obtain ⟨v8, hc7, hw⟩ := hw
    refine J_callV (as := [.int x2, .int x3]) (k := 63) (st := [.int x2, .int v5, .int x1, .ref 63]) cal_X10_offsetAt cai_X10_offsetAt gw_1875 ⟨by decide, by decide⟩ cnt_X10_offsetAt sh_63 rfl rfl (Nat.le_of_ble_eq_true rfl) dX10_collide_21 (Nat.zero_add _).symm (Nat.zero_add _).symm hc7 ?_
    obtain ⟨v11, hc10, hw⟩ := hw
    refine J_callV (as := [.int x1, .int v5, .int x2, .int v8]) (k := 63) (st := []) cal_X10_gapBy cai_X10_gapBy gw_1891 ⟨by decide, by decide⟩ cnt_X10_gapBy sh_63 rfl rfl (Nat.le_of_ble_eq_true rfl) dX10_collide_24 (Nat.zero_add _).symm (Nat.zero_add _).symm hc10 ?_
    refine J_if_ge (tgt := 34) dX10_collide_27 (by decide) (fun hb13 => ?_) (fun hb13 => ?_)
    · replace hw := hw.1 hb13
      refine J_iconst (v := 0) (by decide) dX10_collide_34 ?_
      exact J_fini (ty := .boolean) rfl rfl dX10_collide_35 hw
    · replace hw := hw.2 hb13
      refine J_iconst (v := 1) (by decide) dX10_collide_30 ?_
      refine J_goto (tgt := 35) dX10_collide_31 (by decide) ?_
      exact J_fini (ty := .boolean) rfl rfl dX10_collide_35 hw
theorem dX10_collision_0 : decode cX10_collision 0 = .ok (.iconst 0, 1) := by decide +kernel
theorem dX10_collision_1 : decode cX10_collision 1 = .ok (.istore_n 1, 1) := by decide +kernel
theorem dX10_collision_2 : decode cX10_collision 2 = .ok (.iload_n 1, 1) := by decide +kernel
theorem dX10_collision_3 : decode cX10_collision 3 = .ok (.sipush 1000, 3) := by decide +kernel
theorem dX10_collision_6 : decode cX10_collision 6 = .ok (.if_icmp .ge 65, 3) := by decide +kernel
theorem dX10_collision_9 : decode cX10_collision 9 = .ok (.iconst 0, 1) := by decide +kernel
theorem dX10_collision_10 : decode cX10_collision 10 = .ok (.istore_n 2, 1) := by decide +kernel
theorem dX10_collision_11 : decode cX10_collision 11 = .ok (.iload_n 2, 1) := by decide +kernel
theorem dX10_collision_12 : decode cX10_collision 12 = .ok (.aload_n 0, 1) := by decide +kernel
theorem dX10_collision_13 : decode cX10_collision 13 = .ok (.getfield 206, 3) := by decide +kernel
theorem dX10_collision_16 : decode cX10_collision 16 = .ok (.if_icmp .ge 49, 3) := by decide +kernel
theorem dX10_collision_19 : decode cX10_collision 19 = .ok (.iload_n 2, 1) := by decide +kernel
theorem dX10_collision_20 : decode cX10_collision 20 = .ok (.iconst 1, 1) := by decide +kernel
theorem dX10_collision_21 : decode cX10_collision 21 = .ok (.iadd, 1) := by decide +kernel
theorem dX10_collision_22 : decode cX10_collision 22 = .ok (.istore_n 3, 1) := by decide +kernel
theorem dX10_collision_23 : decode cX10_collision 23 = .ok (.iload_n 3, 1) := by decide +kernel
theorem dX10_collision_24 : decode cX10_collision 24 = .ok (.aload_n 0, 1) := by decide +kernel
theorem dX10_collision_25 : decode cX10_collision 25 = .ok (.getfield 206, 3) := by decide +kernel
theorem dX10_collision_28 : decode cX10_collision 28 = .ok (.if_icmp .ge 31, 3) := by decide +kernel
theorem dX10_collision_31 : decode cX10_collision 31 = .ok (.aload_n 0, 1) := by decide +kernel
theorem dX10_collision_32 : decode cX10_collision 32 = .ok (.iload_n 2, 1) := by decide +kernel
theorem dX10_collision_33 : decode cX10_collision 33 = .ok (.iload_n 3, 1) := by decide +kernel
theorem dX10_collision_34 : decode cX10_collision 34 = .ok (.iload_n 1, 1) := by decide +kernel
theorem dX10_collision_35 : decode cX10_collision 35 = .ok (.invokevirtual 348, 3) := by decide +kernel
theorem dX10_collision_38 : decode cX10_collision 38 = .ok (.ifCond .eq 15, 3) := by decide +kernel
theorem dX10_collision_41 : decode cX10_collision 41 = .ok (.bipush 64, 2) := by decide +kernel
theorem dX10_collision_43 : decode cX10_collision 43 = .ok (.iload_n 1, 1) := by decide +kernel
theorem dX10_collision_44 : decode cX10_collision 44 = .ok (.imul, 1) := by decide +kernel
theorem dX10_collision_45 : decode cX10_collision 45 = .ok (.bipush 8, 2) := by decide +kernel
theorem dX10_collision_47 : decode cX10_collision 47 = .ok (.iload_n 2, 1) := by decide +kernel
theorem dX10_collision_48 : decode cX10_collision 48 = .ok (.imul, 1) := by decide +kernel
theorem dX10_collision_49 : decode cX10_collision 49 = .ok (.iadd, 1) := by decide +kernel
theorem dX10_collision_50 : decode cX10_collision 50 = .ok (.iload_n 3, 1) := by decide +kernel
theorem dX10_collision_51 : decode cX10_collision 51 = .ok (.iadd, 1) := by decide +kernel
theorem dX10_collision_52 : decode cX10_collision 52 = .ok (.ireturn, 1) := by decide +kernel
theorem dX10_collision_53 : decode cX10_collision 53 = .ok (.iinc 3 1, 3) := by decide +kernel
theorem dX10_collision_56 : decode cX10_collision 56 = .ok (.goto (-33), 3) := by decide +kernel
theorem dX10_collision_59 : decode cX10_collision 59 = .ok (.iinc 2 1, 3) := by decide +kernel
theorem dX10_collision_62 : decode cX10_collision 62 = .ok (.goto (-51), 3) := by decide +kernel
theorem dX10_collision_65 : decode cX10_collision 65 = .ok (.iinc 1 1, 3) := by decide +kernel
theorem dX10_collision_68 : decode cX10_collision 68 = .ok (.goto (-66), 3) := by decide +kernel
theorem dX10_collision_71 : decode cX10_collision 71 = .ok (.iconst (-1), 1) := by decide +kernel
theorem dX10_collision_72 : decode cX10_collision 72 = .ok (.ireturn, 1) := by decide +kernel
set_option maxRecDepth 20000 in
theorem bX10_collision_0 {G : Gx} {mm : Nat → Nat → Int32} {lm : Nat → Int64}  {o : Ou} {z : Wd} {a b : Nat} (hw : J G M_X10_collision 2 [(0, .ref 63), (1, .int 0)] [] (SH, mm, lm) false o z false a b) :
    J G M_X10_collision 0 [(0, .ref 63)] [] (SH, mm, lm) false o z false a b := by
  refine J_iconst (v := 0) (by decide) dX10_collision_0 ?_
  refine J_istore_n [(1, .int 0), (0, .ref 63)] rfl (i := 1) (by decide) rfl dX10_collision_1 ?_
  exact J_sub [1, 0] rfl hw
set_option maxRecDepth 20000 in
theorem bX10_collision_2 {G : Gx} {mm : Nat → Nat → Int32} {lm : Nat → Int64} {x1 : Int32} {o : Ou} {z : Wd} {a b : Nat} (hw : ((1000 ≤ x1) → o = .inl (some (.int (-1))) ∧ z = (SH, mm, lm)) ∧ ((¬ 1000 ≤ x1) → J G M_X10_collision 11 [(0, .ref 63), (1, .int x1), (2, .int 0)] [] (SH, mm, lm) false o z false a b)) :
    J G M_X10_collision 2 [(0, .ref 63), (1, .int x1)] [] (SH, mm, lm) false o z false a b := by
  refine J_iload_n rfl (i := 1) rfl dX10_collision_2 ?_
  refine J_sipush (v := 1000) (by decide) dX10_collision_3 ?_
  refine J_icmp_ge (tgt := 71) dX10_collision_6 (by decide) (fun hb1 => ?_) (fun hb1 => ?_)
  · replace hw := hw.1 hb1
    refine J_iconst (v := (-1)) (by decide) dX10_collision_71 ?_
    exact J_fini (ty := .int) rfl rfl dX10_collision_72 hw
  · replace hw := hw.2 hb1
    refine J_iconst (v := 0) (by decide) dX10_collision_9 ?_
    refine J_istore_n [(2, .int 0), (0, .ref 63), (1, .int x1)] rfl (i := 2) (by decide) rfl dX10_collision_10 ?_
    exact J_sub [1, 2, 0] rfl hw
set_option maxRecDepth 20000 in
theorem bX10_collision_11 {G : Gx} {mm : Nat → Nat → Int32} {lm : Nat → Int64} {x1 : Int32} {x2 : Int32} {o : Ou} {z : Wd} {a b : Nat} (hw : (((mm 63 8) ≤ x2) → J G M_X10_collision 2 [(0, .ref 63), (1, .int (x1 + 1))] [] (SH, mm, lm) false o z false a b) ∧ ((¬ (mm 63 8) ≤ x2) → J G M_X10_collision 23 [(0, .ref 63), (1, .int x1), (2, .int x2), (3, .int (x2 + 1))] [] (SH, mm, lm) false o z false a b)) :
    J G M_X10_collision 11 [(0, .ref 63), (1, .int x1), (2, .int x2)] [] (SH, mm, lm) false o z false a b := by
  refine J_iload_n rfl (i := 2) rfl dX10_collision_11 ?_
  refine J_aload_n rfl (i := 0) rfl dX10_collision_12 ?_
  refine J_geti kls_10 (q := 63) (k := 8) sh_63 (by decide) rfl gw_1441 dX10_collision_13 ?_
  refine J_icmp_ge (tgt := 65) dX10_collision_16 (by decide) (fun hb1 => ?_) (fun hb1 => ?_)
  · replace hw := hw.1 hb1
    refine J_iinc [(1, .int (x1 + 1)), (0, .ref 63), (2, .int x2)] (i := 1) (v := (x1 + 1)) rfl rfl (by decide) rfl dX10_collision_65 ?_
    refine J_goto (tgt := 2) dX10_collision_68 (by decide) ?_
    exact J_sub [1, 0] rfl hw
  · replace hw := hw.2 hb1
    refine J_iload_n rfl (i := 2) rfl dX10_collision_19 ?_
    refine J_iconst (v := 1) (by decide) dX10_collision_20 ?_
    refine J_iadd dX10_collision_21 ?_
    refine J_istore_n [(3, .int (x2 + 1)), (0, .ref 63), (1, .int x1), (2, .int x2)] rfl (i := 3) (by decide) rfl dX10_collision_22 ?_
    exact J_sub [1, 2, 3, 0] rfl hw
set_option maxRecDepth 20000 in
theorem bX10_collision_23 {G : Gx} {mm : Nat → Nat → Int32} {lm : Nat → Int64} {x1 : Int32} {x2 : Int32} {x3 : Int32} {o : Ou} {z : Wd} {a b : Nat} (hw : (((mm 63 8) ≤ x3) → J G M_X10_collision 11 [(0, .ref 63), (1, .int x1), (2, .int (x2 + 1))] [] (SH, mm, lm) false o z false a b) ∧ ((¬ (mm 63 8) ≤ x3) → ∃ (v2 : Int32), Ct G M_X10_collide [.ref 63, .int x2, .int x3, .int x1] (SH, mm, lm) false (.inl (some (.int v2))) (SH, mm, lm) false 0 0 ∧ ((v2 = 0) → J G M_X10_collision 23 [(0, .ref 63), (1, .int x1), (2, .int x2), (3, .int (x3 + 1))] [] (SH, mm, lm) false o z false a b) ∧ ((¬ v2 = 0) → o = .inl (some (.int (((64 * x1) + (8 * x2)) + x3))) ∧ z = (SH, mm, lm)))) :
    J G M_X10_collision 23 [(0, .ref 63), (1, .int x1), (2, .int x2), (3, .int x3)] [] (SH, mm, lm) false o z false a b := by
  refine J_iload_n rfl (i := 3) rfl dX10_collision_23 ?_
  refine J_aload_n rfl (i := 0) rfl dX10_collision_24 ?_
  refine J_geti kls_10 (q := 63) (k := 8) sh_63 (by decide) rfl gw_1441 dX10_collision_25 ?_
  refine J_icmp_ge (tgt := 59) dX10_collision_28 (by decide) (fun hb5 => ?_) (fun hb5 => ?_)
  · replace hw := hw.1 hb5
    refine J_iinc [(2, .int (x2 + 1)), (0, .ref 63), (1, .int x1), (3, .int x3)] (i := 2) (v := (x2 + 1)) rfl rfl (by decide) rfl dX10_collision_59 ?_
    refine J_goto (tgt := 11) dX10_collision_62 (by decide) ?_
    exact J_sub [1, 2, 0] rfl hw
  · replace hw := hw.2 hb5
    refine J_aload_n rfl (i := 0) rfl dX10_collision_31 ?_
    refine J_iload_n rfl (i := 2) rfl dX10_collision_32 ?_
    refine J_iload_n rfl (i := 3) rfl dX10_collision_33 ?_
    refine J_iload_n rfl (i := 1) rfl dX10_collision_34 ?_
    obtain ⟨v2, hc1, hw⟩ := hw
    refine J_callV (as := [.int x2, .int x3, .int x1]) (k := 63) (st := []) cal_X10_collide cai_X10_collide gw_1903 ⟨by decide, by decide⟩ cnt_X10_collide sh_63 rfl rfl (Nat.le_of_ble_eq_true rfl) dX10_collision_35 (Nat.zero_add _).symm (Nat.zero_add _).symm hc1 ?_
    refine J_if_eq (tgt := 53) dX10_collision_38 (by decide) (fun hb4 => ?_) (fun hb4 => ?_)
    · replace hw := hw.1 hb4
      refine J_iinc [(3, .int (x3 + 1)), (0, .ref 63), (1, .int x1), (2, .int x2)] (i := 3) (v := (x3 + 1)) rfl rfl (by decide) rfl dX10_collision_53 ?_
      refine J_goto (tgt := 23) dX10_collision_56 (by decide) ?_
      exact J_sub [1, 2, 3, 0] rfl hw
    · replace hw := hw.2 hb4
      refine J_bipush (v := 64) (by decide) dX10_collision_41 ?_
      refine J_iload_n rfl (i := 1) rfl dX10_collision_43 ?_
      refine J_imul dX10_collision_44 ?_
      refine J_bipush (v := 8) (by decide) dX10_collision_45 ?_
      refine J_iload_n rfl (i := 2) rfl dX10_collision_47 ?_
      refine J_imul dX10_collision_48 ?_
      refine J_iadd dX10_collision_49 ?_
      refine J_iload_n rfl (i := 3) rfl dX10_collision_50 ?_
      refine J_iadd dX10_collision_51 ?_
      exact J_fini (ty := .int) rfl rfl dX10_collision_52 hw
theorem dX10_firstCollision_0 : decode cX10_firstCollision 0 = .ok (.aload_n 0, 1) := by decide +kernel
theorem dX10_firstCollision_1 : decode cX10_firstCollision 1 = .ok (.iconst 1, 1) := by decide +kernel
theorem dX10_firstCollision_2 : decode cX10_firstCollision 2 = .ok (.invokevirtual 221, 3) := by decide +kernel
theorem dX10_firstCollision_5 : decode cX10_firstCollision 5 = .ok (.ifCond .eq 5, 3) := by decide +kernel
theorem dX10_firstCollision_8 : decode cX10_firstCollision 8 = .ok (.iconst 0, 1) := by decide +kernel
theorem dX10_firstCollision_9 : decode cX10_firstCollision 9 = .ok (.ireturn, 1) := by decide +kernel
theorem dX10_firstCollision_10 : decode cX10_firstCollision 10 = .ok (.aload_n 0, 1) := by decide +kernel
theorem dX10_firstCollision_11 : decode cX10_firstCollision 11 = .ok (.invokevirtual 351, 3) := by decide +kernel
theorem dX10_firstCollision_14 : decode cX10_firstCollision 14 = .ok (.istore_n 1, 1) := by decide +kernel
theorem dX10_firstCollision_15 : decode cX10_firstCollision 15 = .ok (.iload_n 1, 1) := by decide +kernel
theorem dX10_firstCollision_16 : decode cX10_firstCollision 16 = .ok (.ifCond .ge 8, 3) := by decide +kernel
theorem dX10_firstCollision_19 : decode cX10_firstCollision 19 = .ok (.bipush (-2), 2) := by decide +kernel
theorem dX10_firstCollision_21 : decode cX10_firstCollision 21 = .ok (.goto 7, 3) := by decide +kernel
theorem dX10_firstCollision_24 : decode cX10_firstCollision 24 = .ok (.iload_n 1, 1) := by decide +kernel
theorem dX10_firstCollision_25 : decode cX10_firstCollision 25 = .ok (.bipush 64, 2) := by decide +kernel
theorem dX10_firstCollision_27 : decode cX10_firstCollision 27 = .ok (.idiv, 1) := by decide +kernel
theorem dX10_firstCollision_28 : decode cX10_firstCollision 28 = .ok (.ireturn, 1) := by decide +kernel
set_option maxRecDepth 20000 in
theorem bX10_firstCollision_0 {G : Gx} {mm : Nat → Nat → Int32} {lm : Nat → Int64}  {o : Ou} {z : Wd} {a b : Nat} (hw : ∃ (v2 : Int32) (m3 : Nat → Nat → Int32), Ct G M_X10_isWrong [.ref 63, .int 1] (SH, mm, lm) false (.inl (some (.int v2))) (SH, m3, lm) false 0 0 ∧ ((v2 = 0) → J G M_X10_firstCollision 10 [(0, .ref 63)] [] (SH, m3, lm) false o z false a b) ∧ ((¬ v2 = 0) → o = .inl (some (.int 0)) ∧ z = (SH, m3, lm))) :
    J G M_X10_firstCollision 0 [(0, .ref 63)] [] (SH, mm, lm) false o z false a b := by
  refine J_aload_n rfl (i := 0) rfl dX10_firstCollision_0 ?_
  refine J_iconst (v := 1) (by decide) dX10_firstCollision_1 ?_
  obtain ⟨v2, m3, hc1, hw⟩ := hw
  refine J_callV (as := [.int 1]) (k := 63) (st := []) cal_X10_isWrong cai_X10_isWrong gw_1663 ⟨by decide, by decide⟩ cnt_X10_isWrong sh_63 rfl rfl (Nat.le_of_ble_eq_true rfl) dX10_firstCollision_2 (Nat.zero_add _).symm (Nat.zero_add _).symm hc1 ?_
  refine J_if_eq (tgt := 10) dX10_firstCollision_5 (by decide) (fun hb4 => ?_) (fun hb4 => ?_)
  · replace hw := hw.1 hb4
    exact hw
  · replace hw := hw.2 hb4
    refine J_iconst (v := 0) (by decide) dX10_firstCollision_8 ?_
    exact J_fini (ty := .int) rfl rfl dX10_firstCollision_9 hw
set_option maxRecDepth 20000 in
theorem bX10_firstCollision_10 {G : Gx} {mm : Nat → Nat → Int32} {lm : Nat → Int64}  {o : Ou} {z : Wd} {a b : Nat} (hw : ∃ (v2 : Int32), Ct G M_X10_collision [.ref 63] (SH, mm, lm) false (.inl (some (.int v2))) (SH, mm, lm) false 0 0 ∧ ((0 ≤ v2) → o = .inl (some (.int (v2 / 64))) ∧ z = (SH, mm, lm)) ∧ ((¬ 0 ≤ v2) → o = .inl (some (.int (-2))) ∧ z = (SH, mm, lm))) :
    J G M_X10_firstCollision 10 [(0, .ref 63)] [] (SH, mm, lm) false o z false a b := by
  refine J_aload_n rfl (i := 0) rfl dX10_firstCollision_10 ?_
  obtain ⟨v2, hc1, hw⟩ := hw
  refine J_callV (as := []) (k := 63) (st := []) cal_X10_collision cai_X10_collision gw_1899 ⟨by decide, by decide⟩ cnt_X10_collision sh_63 rfl rfl (Nat.le_of_ble_eq_true rfl) dX10_firstCollision_11 (Nat.zero_add _).symm (Nat.zero_add _).symm hc1 ?_
  refine J_istore_n [(1, .int v2), (0, .ref 63)] rfl (i := 1) (by decide) rfl dX10_firstCollision_14 ?_
  refine J_iload_n rfl (i := 1) rfl dX10_firstCollision_15 ?_
  refine J_if_ge (tgt := 24) dX10_firstCollision_16 (by decide) (fun hb4 => ?_) (fun hb4 => ?_)
  · replace hw := hw.1 hb4
    refine J_iload_n rfl (i := 1) rfl dX10_firstCollision_24 ?_
    refine J_bipush (v := 64) (by decide) dX10_firstCollision_25 ?_
    refine J_idiv (by decide) dX10_firstCollision_27 ?_
    exact J_fini (ty := .int) rfl rfl dX10_firstCollision_28 hw
  · replace hw := hw.2 hb4
    refine J_bipush (v := (-2)) (by decide) dX10_firstCollision_19 ?_
    refine J_goto (tgt := 28) dX10_firstCollision_21 (by decide) ?_
    exact J_fini (ty := .int) rfl rfl dX10_firstCollision_28 hw
theorem dX10_collidingBells_0 : decode cX10_collidingBells 0 = .ok (.aload_n 0, 1) := by decide +kernel
theorem dX10_collidingBells_1 : decode cX10_collidingBells 1 = .ok (.iconst 1, 1) := by decide +kernel
theorem dX10_collidingBells_2 : decode cX10_collidingBells 2 = .ok (.invokevirtual 221, 3) := by decide +kernel
theorem dX10_collidingBells_5 : decode cX10_collidingBells 5 = .ok (.ifCond .eq 5, 3) := by decide +kernel
theorem dX10_collidingBells_8 : decode cX10_collidingBells 8 = .ok (.iconst 0, 1) := by decide +kernel
theorem dX10_collidingBells_9 : decode cX10_collidingBells 9 = .ok (.ireturn, 1) := by decide +kernel
theorem dX10_collidingBells_10 : decode cX10_collidingBells 10 = .ok (.aload_n 0, 1) := by decide +kernel
theorem dX10_collidingBells_11 : decode cX10_collidingBells 11 = .ok (.invokevirtual 351, 3) := by decide +kernel
theorem dX10_collidingBells_14 : decode cX10_collidingBells 14 = .ok (.istore_n 1, 1) := by decide +kernel
theorem dX10_collidingBells_15 : decode cX10_collidingBells 15 = .ok (.iload_n 1, 1) := by decide +kernel
theorem dX10_collidingBells_16 : decode cX10_collidingBells 16 = .ok (.ifCond .ge 8, 3) := by decide +kernel
theorem dX10_collidingBells_19 : decode cX10_collidingBells 19 = .ok (.bipush (-2), 2) := by decide +kernel
theorem dX10_collidingBells_21 : decode cX10_collidingBells 21 = .ok (.goto 7, 3) := by decide +kernel
theorem dX10_collidingBells_24 : decode cX10_collidingBells 24 = .ok (.iload_n 1, 1) := by decide +kernel
theorem dX10_collidingBells_25 : decode cX10_collidingBells 25 = .ok (.bipush 64, 2) := by decide +kernel
theorem dX10_collidingBells_27 : decode cX10_collidingBells 27 = .ok (.irem, 1) := by decide +kernel
theorem dX10_collidingBells_28 : decode cX10_collidingBells 28 = .ok (.ireturn, 1) := by decide +kernel
set_option maxRecDepth 20000 in
theorem bX10_collidingBells_0 {G : Gx} {mm : Nat → Nat → Int32} {lm : Nat → Int64}  {o : Ou} {z : Wd} {a b : Nat} (hw : ∃ (v2 : Int32) (m3 : Nat → Nat → Int32), Ct G M_X10_isWrong [.ref 63, .int 1] (SH, mm, lm) false (.inl (some (.int v2))) (SH, m3, lm) false 0 0 ∧ ((v2 = 0) → J G M_X10_collidingBells 10 [(0, .ref 63)] [] (SH, m3, lm) false o z false a b) ∧ ((¬ v2 = 0) → o = .inl (some (.int 0)) ∧ z = (SH, m3, lm))) :
    J G M_X10_collidingBells 0 [(0, .ref 63)] [] (SH, mm, lm) false o z false a b := by
  refine J_aload_n rfl (i := 0) rfl dX10_collidingBells_0 ?_
  refine J_iconst (v := 1) (by decide) dX10_collidingBells_1 ?_
  obtain ⟨v2, m3, hc1, hw⟩ := hw
  refine J_callV (as := [.int 1]) (k := 63) (st := []) cal_X10_isWrong cai_X10_isWrong gw_1663 ⟨by decide, by decide⟩ cnt_X10_isWrong sh_63 rfl rfl (Nat.le_of_ble_eq_true rfl) dX10_collidingBells_2 (Nat.zero_add _).symm (Nat.zero_add _).symm hc1 ?_
  refine J_if_eq (tgt := 10) dX10_collidingBells_5 (by decide) (fun hb4 => ?_) (fun hb4 => ?_)
  · replace hw := hw.1 hb4
    exact hw
  · replace hw := hw.2 hb4
    refine J_iconst (v := 0) (by decide) dX10_collidingBells_8 ?_
    exact J_fini (ty := .int) rfl rfl dX10_collidingBells_9 hw
set_option maxRecDepth 20000 in
theorem bX10_collidingBells_10 {G : Gx} {mm : Nat → Nat → Int32} {lm : Nat → Int64}  {o : Ou} {z : Wd} {a b : Nat} (hw : ∃ (v2 : Int32), Ct G M_X10_collision [.ref 63] (SH, mm, lm) false (.inl (some (.int v2))) (SH, mm, lm) false 0 0 ∧ ((0 ≤ v2) → o = .inl (some (.int (v2 - v2 / 64 * 64))) ∧ z = (SH, mm, lm)) ∧ ((¬ 0 ≤ v2) → o = .inl (some (.int (-2))) ∧ z = (SH, mm, lm))) :
    J G M_X10_collidingBells 10 [(0, .ref 63)] [] (SH, mm, lm) false o z false a b := by
  refine J_aload_n rfl (i := 0) rfl dX10_collidingBells_10 ?_
  obtain ⟨v2, hc1, hw⟩ := hw
  refine J_callV (as := []) (k := 63) (st := []) cal_X10_collision cai_X10_collision gw_1899 ⟨by decide, by decide⟩ cnt_X10_collision sh_63 rfl rfl (Nat.le_of_ble_eq_true rfl) dX10_collidingBells_11 (Nat.zero_add _).symm (Nat.zero_add _).symm hc1 ?_
  refine J_istore_n [(1, .int v2), (0, .ref 63)] rfl (i := 1) (by decide) rfl dX10_collidingBells_14 ?_
  refine J_iload_n rfl (i := 1) rfl dX10_collidingBells_15 ?_
  refine J_if_ge (tgt := 24) dX10_collidingBells_16 (by decide) (fun hb4 => ?_) (fun hb4 => ?_)
  · replace hw := hw.1 hb4
    refine J_iload_n rfl (i := 1) rfl dX10_collidingBells_24 ?_
    refine J_bipush (v := 64) (by decide) dX10_collidingBells_25 ?_
    refine J_irem (by decide) dX10_collidingBells_27 ?_
    exact J_fini (ty := .int) rfl rfl dX10_collidingBells_28 hw
  · replace hw := hw.2 hb4
    refine J_bipush (v := (-2)) (by decide) dX10_collidingBells_19 ?_
    refine J_goto (tgt := 28) dX10_collidingBells_21 (by decide) ?_
    exact J_fini (ty := .int) rfl rfl dX10_collidingBells_28 hw
theorem dX10_isSafe_0 : decode cX10_isSafe 0 = .ok (.iconst 0, 1) := by decide +kernel
theorem dX10_isSafe_1 : decode cX10_isSafe 1 = .ok (.istore 4, 2) := by decide +kernel
theorem dX10_isSafe_3 : decode cX10_isSafe 3 = .ok (.iload 4, 2) := by decide +kernel
theorem dX10_isSafe_5 : decode cX10_isSafe 5 = .ok (.aload_n 0, 1) := by decide +kernel
theorem dX10_isSafe_6 : decode cX10_isSafe 6 = .ok (.getfield 206, 3) := by decide +kernel
theorem dX10_isSafe_9 : decode cX10_isSafe 9 = .ok (.if_icmp .ge 74, 3) := by decide +kernel
theorem dX10_isSafe_12 : decode cX10_isSafe 12 = .ok (.iload 4, 2) := by decide +kernel
theorem dX10_isSafe_14 : decode cX10_isSafe 14 = .ok (.iload_n 1, 1) := by decide +kernel
theorem dX10_isSafe_15 : decode cX10_isSafe 15 = .ok (.if_icmp .eq 62, 3) := by decide +kernel
theorem dX10_isSafe_18 : decode cX10_isSafe 18 = .ok (.aload_n 0, 1) := by decide +kernel
theorem dX10_isSafe_19 : decode cX10_isSafe 19 = .ok (.iload_n 1, 1) := by decide +kernel
theorem dX10_isSafe_20 : decode cX10_isSafe 20 = .ok (.iload 4, 2) := by decide +kernel
theorem dX10_isSafe_22 : decode cX10_isSafe 22 = .ok (.invokevirtual 342, 3) := by decide +kernel
theorem dX10_isSafe_25 : decode cX10_isSafe 25 = .ok (.ifCond .ne 6, 3) := by decide +kernel
theorem dX10_isSafe_28 : decode cX10_isSafe 28 = .ok (.goto 49, 3) := by decide +kernel
theorem dX10_isSafe_31 : decode cX10_isSafe 31 = .ok (.iconst 0, 1) := by decide +kernel
theorem dX10_isSafe_32 : decode cX10_isSafe 32 = .ok (.istore 5, 2) := by decide +kernel
theorem dX10_isSafe_34 : decode cX10_isSafe 34 = .ok (.iload 5, 2) := by decide +kernel
theorem dX10_isSafe_36 : decode cX10_isSafe 36 = .ok (.sipush 1000, 3) := by decide +kernel
theorem dX10_isSafe_39 : decode cX10_isSafe 39 = .ok (.if_icmp .ge 38, 3) := by decide +kernel
theorem dX10_isSafe_42 : decode cX10_isSafe 42 = .ok (.aload_n 0, 1) := by decide +kernel
theorem dX10_isSafe_43 : decode cX10_isSafe 43 = .ok (.iload_n 1, 1) := by decide +kernel
theorem dX10_isSafe_44 : decode cX10_isSafe 44 = .ok (.aload_n 0, 1) := by decide +kernel
theorem dX10_isSafe_45 : decode cX10_isSafe 45 = .ok (.iload_n 1, 1) := by decide +kernel
theorem dX10_isSafe_46 : decode cX10_isSafe 46 = .ok (.iload_n 2, 1) := by decide +kernel
theorem dX10_isSafe_47 : decode cX10_isSafe 47 = .ok (.iload_n 3, 1) := by decide +kernel
theorem dX10_isSafe_48 : decode cX10_isSafe 48 = .ok (.iload 5, 2) := by decide +kernel
theorem dX10_isSafe_50 : decode cX10_isSafe 50 = .ok (.invokevirtual 333, 3) := by decide +kernel
theorem dX10_isSafe_53 : decode cX10_isSafe 53 = .ok (.iload 4, 2) := by decide +kernel
theorem dX10_isSafe_55 : decode cX10_isSafe 55 = .ok (.aload_n 0, 1) := by decide +kernel
theorem dX10_isSafe_56 : decode cX10_isSafe 56 = .ok (.iload 4, 2) := by decide +kernel
theorem dX10_isSafe_58 : decode cX10_isSafe 58 = .ok (.iload 5, 2) := by decide +kernel
theorem dX10_isSafe_60 : decode cX10_isSafe 60 = .ok (.invokevirtual 339, 3) := by decide +kernel
theorem dX10_isSafe_63 : decode cX10_isSafe 63 = .ok (.invokevirtual 345, 3) := by decide +kernel
theorem dX10_isSafe_66 : decode cX10_isSafe 66 = .ok (.ifCond .ge 5, 3) := by decide +kernel
theorem dX10_isSafe_69 : decode cX10_isSafe 69 = .ok (.iconst 0, 1) := by decide +kernel
theorem dX10_isSafe_70 : decode cX10_isSafe 70 = .ok (.ireturn, 1) := by decide +kernel
theorem dX10_isSafe_71 : decode cX10_isSafe 71 = .ok (.iinc 5 1, 3) := by decide +kernel
theorem dX10_isSafe_74 : decode cX10_isSafe 74 = .ok (.goto (-40), 3) := by decide +kernel
theorem dX10_isSafe_77 : decode cX10_isSafe 77 = .ok (.iinc 4 1, 3) := by decide +kernel
theorem dX10_isSafe_80 : decode cX10_isSafe 80 = .ok (.goto (-77), 3) := by decide +kernel
theorem dX10_isSafe_83 : decode cX10_isSafe 83 = .ok (.iconst 1, 1) := by decide +kernel
theorem dX10_isSafe_84 : decode cX10_isSafe 84 = .ok (.ireturn, 1) := by decide +kernel
set_option maxRecDepth 20000 in
theorem bX10_isSafe_0 {G : Gx} {mm : Nat → Nat → Int32} {lm : Nat → Int64} {x1 : Int32} {x2 : Int32} {x3 : Int32} {o : Ou} {z : Wd} {a b : Nat} (hw : J G M_X10_isSafe 3 [(0, .ref 63), (1, .int x1), (2, .int x2), (3, .int x3), (4, .int 0)] [] (SH, mm, lm) false o z false a b) :
    J G M_X10_isSafe 0 [(0, .ref 63), (1, .int x1), (2, .int x2), (3, .int x3)] [] (SH, mm, lm) false o z false a b := by
  refine J_iconst (v := 0) (by decide) dX10_isSafe_0 ?_
  refine J_istore [(4, .int 0), (0, .ref 63), (1, .int x1), (2, .int x2), (3, .int x3)] (i := 4) (by decide) rfl dX10_isSafe_1 ?_
  exact J_sub [1, 2, 3, 4, 0] rfl hw
set_option maxRecDepth 20000 in
theorem bX10_isSafe_3 {G : Gx} {mm : Nat → Nat → Int32} {lm : Nat → Int64} {x1 : Int32} {x2 : Int32} {x3 : Int32} {x4 : Int32} {o : Ou} {z : Wd} {a b : Nat} (hw : (((mm 63 8) ≤ x4) → o = .inl (some (.int 1)) ∧ z = (SH, mm, lm)) ∧ ((¬ (mm 63 8) ≤ x4) → ((x4 = x1) → J G M_X10_isSafe 3 [(0, .ref 63), (1, .int x1), (2, .int x2), (3, .int x3), (4, .int (x4 + 1))] [] (SH, mm, lm) false o z false a b) ∧ ((¬ x4 = x1) → ∃ (v2 : Int32), Ct G M_X10_areTogether [.ref 63, .int x1, .int x4] (SH, mm, lm) false (.inl (some (.int v2))) (SH, mm, lm) false 0 0 ∧ ((¬ v2 = 0) → J G M_X10_isSafe 34 [(0, .ref 63), (1, .int x1), (2, .int x2), (3, .int x3), (4, .int x4), (5, .int 0)] [] (SH, mm, lm) false o z false a b) ∧ ((v2 = 0) → J G M_X10_isSafe 3 [(0, .ref 63), (1, .int x1), (2, .int x2), (3, .int x3), (4, .int (x4 + 1))] [] (SH, mm, lm) false o z false a b)))) :
    J G M_X10_isSafe 3 [(0, .ref 63), (1, .int x1), (2, .int x2), (3, .int x3), (4, .int x4)] [] (SH, mm, lm) false o z false a b := by
  refine J_iload (i := 4) rfl dX10_isSafe_3 ?_
  refine J_aload_n rfl (i := 0) rfl dX10_isSafe_5 ?_
  refine J_geti kls_10 (q := 63) (k := 8) sh_63 (by decide) rfl gw_1441 dX10_isSafe_6 ?_
  refine J_icmp_ge (tgt := 83) dX10_isSafe_9 (by decide) (fun hb6 => ?_) (fun hb6 => ?_)
  · replace hw := hw.1 hb6
    refine J_iconst (v := 1) (by decide) dX10_isSafe_83 ?_
    exact J_fini (ty := .boolean) rfl rfl dX10_isSafe_84 hw
  · replace hw := hw.2 hb6
    refine J_iload (i := 4) rfl dX10_isSafe_12 ?_
    refine J_iload_n rfl (i := 1) rfl dX10_isSafe_14 ?_
    refine J_icmp_eq (tgt := 77) dX10_isSafe_15 (by decide) (fun hb5 => ?_) (fun hb5 => ?_)
    · replace hw := hw.1 hb5
      refine J_iinc [(4, .int (x4 + 1)), (0, .ref 63), (1, .int x1), (2, .int x2), (3, .int x3)] (i := 4) (v := (x4 + 1)) rfl rfl (by decide) rfl dX10_isSafe_77 ?_
      refine J_goto (tgt := 3) dX10_isSafe_80 (by decide) ?_
      exact J_sub [1, 2, 3, 4, 0] rfl hw
    · replace hw := hw.2 hb5
      refine J_aload_n rfl (i := 0) rfl dX10_isSafe_18 ?_
      refine J_iload_n rfl (i := 1) rfl dX10_isSafe_19 ?_
      refine J_iload (i := 4) rfl dX10_isSafe_20 ?_
      obtain ⟨v2, hc1, hw⟩ := hw
      refine J_callV (as := [.int x1, .int x4]) (k := 63) (st := []) cal_X10_areTogether cai_X10_areTogether gw_1887 ⟨by decide, by decide⟩ cnt_X10_areTogether sh_63 rfl rfl (Nat.le_of_ble_eq_true rfl) dX10_isSafe_22 (Nat.zero_add _).symm (Nat.zero_add _).symm hc1 ?_
      refine J_if_ne (tgt := 31) dX10_isSafe_25 (by decide) (fun hb4 => ?_) (fun hb4 => ?_)
      · replace hw := hw.1 hb4
        refine J_iconst (v := 0) (by decide) dX10_isSafe_31 ?_
        refine J_istore [(5, .int 0), (0, .ref 63), (1, .int x1), (2, .int x2), (3, .int x3), (4, .int x4)] (i := 5) (by decide) rfl dX10_isSafe_32 ?_
        exact J_sub [1, 2, 3, 4, 5, 0] rfl hw
      · replace hw := hw.2 hb4
        refine J_goto (tgt := 77) dX10_isSafe_28 (by decide) ?_
        refine J_iinc [(4, .int (x4 + 1)), (0, .ref 63), (1, .int x1), (2, .int x2), (3, .int x3)] (i := 4) (v := (x4 + 1)) rfl rfl (by decide) rfl dX10_isSafe_77 ?_
        refine J_goto (tgt := 3) dX10_isSafe_80 (by decide) ?_
        exact J_sub [1, 2, 3, 4, 0] rfl hw
set_option maxRecDepth 20000 in
theorem bX10_isSafe_34 {G : Gx} {mm : Nat → Nat → Int32} {lm : Nat → Int64} {x1 : Int32} {x2 : Int32} {x3 : Int32} {x4 : Int32} {x5 : Int32} {o : Ou} {z : Wd} {a b : Nat} (hw : ((1000 ≤ x5) → J G M_X10_isSafe 3 [(0, .ref 63), (1, .int x1), (2, .int x2), (3, .int x3), (4, .int (x4 + 1))] [] (SH, mm, lm) false o z false a b) ∧ ((¬ 1000 ≤ x5) → ∃ (v2 : Int32), Ct G M_X10_offsetBy [.ref 63, .int x1, .int x2, .int x3, .int x5] (SH, mm, lm) false (.inl (some (.int v2))) (SH, mm, lm) false 0 0 ∧ ∃ (v5 : Int32), Ct G M_X10_offsetAt [.ref 63, .int x4, .int x5] (SH, mm, lm) false (.inl (some (.int v5))) (SH, mm, lm) false 0 0 ∧ ∃ (v8 : Int32), Ct G M_X10_gapBy [.ref 63, .int x1, .int v2, .int x4, .int v5] (SH, mm, lm) false (.inl (some (.int v8))) (SH, mm, lm) false 0 0 ∧ ((0 ≤ v8) → J G M_X10_isSafe 34 [(0, .ref 63), (1, .int x1), (2, .int x2), (3, .int x3), (4, .int x4), (5, .int (x5 + 1))] [] (SH, mm, lm) false o z false a b) ∧ ((¬ 0 ≤ v8) → o = .inl (some (.int 0)) ∧ z = (SH, mm, lm)))) :
    J G M_X10_isSafe 34 [(0, .ref 63), (1, .int x1), (2, .int x2), (3, .int x3), (4, .int x4), (5, .int x5)] [] (SH, mm, lm) false o z false a b := by
  refine J_iload (i := 5) rfl dX10_isSafe_34 ?_
  refine J_sipush (v := 1000) (by decide) dX10_isSafe_36 ?_
  refine J_icmp_ge (tgt := 77) dX10_isSafe_39 (by decide) (fun hb11 => ?_) (fun hb11 => ?_)
  · replace hw := hw.1 hb11
    refine J_iinc [(4, .int (x4 + 1)), (0, .ref 63), (1, .int x1), (2, .int x2), (3, .int x3), (5, .int x5)] (i := 4) (v := (x4 + 1)) rfl rfl (by decide) rfl dX10_isSafe_77 ?_
    refine J_goto (tgt := 3) dX10_isSafe_80 (by decide) ?_
    exact J_sub [1, 2, 3, 4, 0] rfl hw
  · replace hw := hw.2 hb11
    refine J_aload_n rfl (i := 0) rfl dX10_isSafe_42 ?_
    refine J_iload_n rfl (i := 1) rfl dX10_isSafe_43 ?_
    refine J_aload_n rfl (i := 0) rfl dX10_isSafe_44 ?_
    refine J_iload_n rfl (i := 1) rfl dX10_isSafe_45 ?_
    refine J_iload_n rfl (i := 2) rfl dX10_isSafe_46 ?_
    refine J_iload_n rfl (i := 3) rfl dX10_isSafe_47 ?_
    refine J_iload (i := 5) rfl dX10_isSafe_48 ?_
    obtain ⟨v2, hc1, hw⟩ := hw
    refine J_callV (as := [.int x1, .int x2, .int x3, .int x5]) (k := 63) (st := [.int x1, .ref 63]) cal_X10_offsetBy cai_X10_offsetBy gw_1879 ⟨by decide, by decide⟩ cnt_X10_offsetBy sh_63 rfl rfl (Nat.le_of_ble_eq_true rfl) dX10_isSafe_50 (Nat.zero_add _).symm (Nat.zero_add _).symm hc1 ?_
    refine J_iload (i := 4) rfl dX10_isSafe_53 ?_
    refine J_aload_n rfl (i := 0) rfl dX10_isSafe_55 ?_
    refine J_iload (i := 4) rfl dX10_isSafe_56 ?_
    refine J_iload (i := 5) rfl dX10_isSafe_58 ?_
    obtain ⟨v5, hc4, hw⟩ := hw
    refine J_callV (as := [.int x4, .int x5]) (k := 63) (st := [.int x4, .int v2, .int x1, .ref 63]) cal_X10_offsetAt cai_X10_offsetAt gw_1875 ⟨by decide, by decide⟩ cnt_X10_offsetAt sh_63 rfl rfl (Nat.le_of_ble_eq_true rfl) dX10_isSafe_60 (Nat.zero_add _).symm (Nat.zero_add _).symm hc4 ?_
    obtain ⟨v8, hc7, hw⟩ := hw
    refine J_callV (as := [.int x1, .int v2, .int x4, .int v5]) (k := 63) (st := []) cal_X10_gapBy cai_X10_gapBy gw_1891 ⟨by decide, by decide⟩ cnt_X10_gapBy sh_63 rfl rfl (Nat.le_of_ble_eq_true rfl) dX10_isSafe_63 (Nat.zero_add _).symm (Nat.zero_add _).symm hc7 ?_
    refine J_if_ge (tgt := 71) dX10_isSafe_66 (by decide) (fun hb10 => ?_) (fun hb10 => ?_)
    · replace hw := hw.1 hb10
      refine J_iinc [(5, .int (x5 + 1)), (0, .ref 63), (1, .int x1), (2, .int x2), (3, .int x3), (4, .int x4)] (i := 5) (v := (x5 + 1)) rfl rfl (by decide) rfl dX10_isSafe_71 ?_
      refine J_goto (tgt := 34) dX10_isSafe_74 (by decide) ?_
      exact J_sub [1, 2, 3, 4, 5, 0] rfl hw
    · replace hw := hw.2 hb10
      refine J_iconst (v := 0) (by decide) dX10_isSafe_69 ?_
      exact J_fini (ty := .boolean) rfl rfl dX10_isSafe_70 hw
theorem dX10_safeStart_0 : decode cX10_safeStart 0 = .ok (.aload_n 0, 1) := by decide +kernel
theorem dX10_safeStart_1 : decode cX10_safeStart 1 = .ok (.aload_n 0, 1) := by decide +kernel
theorem dX10_safeStart_2 : decode cX10_safeStart 2 = .ok (.iload_n 1, 1) := by decide +kernel
theorem dX10_safeStart_3 : decode cX10_safeStart 3 = .ok (.invokevirtual 235, 3) := by decide +kernel
theorem dX10_safeStart_6 : decode cX10_safeStart 6 = .ok (.ifCond .eq 19, 3) := by decide +kernel
theorem dX10_safeStart_9 : decode cX10_safeStart 9 = .ok (.iload_n 2, 1) := by decide +kernel
theorem dX10_safeStart_10 : decode cX10_safeStart 10 = .ok (.i2l, 1) := by decide +kernel
theorem dX10_safeStart_11 : decode cX10_safeStart 11 = .ok (.lconst 1, 1) := by decide +kernel
theorem dX10_safeStart_12 : decode cX10_safeStart 12 = .ok (.ldc2_w 227, 3) := by decide +kernel
theorem dX10_safeStart_15 : decode cX10_safeStart 15 = .ok (.invokestatic 91, 3) := by decide +kernel
theorem dX10_safeStart_18 : decode cX10_safeStart 18 = .ok (.ifCond .eq 7, 3) := by decide +kernel
theorem dX10_safeStart_21 : decode cX10_safeStart 21 = .ok (.iconst 1, 1) := by decide +kernel
theorem dX10_safeStart_22 : decode cX10_safeStart 22 = .ok (.goto 4, 3) := by decide +kernel
theorem dX10_safeStart_25 : decode cX10_safeStart 25 = .ok (.iconst 0, 1) := by decide +kernel
theorem dX10_safeStart_26 : decode cX10_safeStart 26 = .ok (.invokevirtual 221, 3) := by decide +kernel
theorem dX10_safeStart_29 : decode cX10_safeStart 29 = .ok (.ifCond .eq 5, 3) := by decide +kernel
theorem dX10_safeStart_32 : decode cX10_safeStart 32 = .ok (.iconst 0, 1) := by decide +kernel
theorem dX10_safeStart_33 : decode cX10_safeStart 33 = .ok (.ireturn, 1) := by decide +kernel
theorem dX10_safeStart_34 : decode cX10_safeStart 34 = .ok (.aload_n 0, 1) := by decide +kernel
theorem dX10_safeStart_35 : decode cX10_safeStart 35 = .ok (.iload_n 1, 1) := by decide +kernel
theorem dX10_safeStart_36 : decode cX10_safeStart 36 = .ok (.invokevirtual 244, 3) := by decide +kernel
theorem dX10_safeStart_39 : decode cX10_safeStart 39 = .ok (.ifCond .ne 6, 3) := by decide +kernel
theorem dX10_safeStart_42 : decode cX10_safeStart 42 = .ok (.bipush (-2), 2) := by decide +kernel
theorem dX10_safeStart_44 : decode cX10_safeStart 44 = .ok (.ireturn, 1) := by decide +kernel
theorem dX10_safeStart_45 : decode cX10_safeStart 45 = .ok (.iconst 0, 1) := by decide +kernel
theorem dX10_safeStart_46 : decode cX10_safeStart 46 = .ok (.istore_n 3, 1) := by decide +kernel
theorem dX10_safeStart_47 : decode cX10_safeStart 47 = .ok (.iload_n 3, 1) := by decide +kernel
theorem dX10_safeStart_48 : decode cX10_safeStart 48 = .ok (.sipush 200, 3) := by decide +kernel
theorem dX10_safeStart_51 : decode cX10_safeStart 51 = .ok (.if_icmp .ge 21, 3) := by decide +kernel
theorem dX10_safeStart_54 : decode cX10_safeStart 54 = .ok (.aload_n 0, 1) := by decide +kernel
theorem dX10_safeStart_55 : decode cX10_safeStart 55 = .ok (.iload_n 1, 1) := by decide +kernel
theorem dX10_safeStart_56 : decode cX10_safeStart 56 = .ok (.iload_n 3, 1) := by decide +kernel
theorem dX10_safeStart_57 : decode cX10_safeStart 57 = .ok (.iload_n 2, 1) := by decide +kernel
theorem dX10_safeStart_58 : decode cX10_safeStart 58 = .ok (.invokevirtual 354, 3) := by decide +kernel
theorem dX10_safeStart_61 : decode cX10_safeStart 61 = .ok (.ifCond .eq 5, 3) := by decide +kernel
theorem dX10_safeStart_64 : decode cX10_safeStart 64 = .ok (.iload_n 3, 1) := by decide +kernel
theorem dX10_safeStart_65 : decode cX10_safeStart 65 = .ok (.ireturn, 1) := by decide +kernel
theorem dX10_safeStart_66 : decode cX10_safeStart 66 = .ok (.iinc 3 1, 3) := by decide +kernel
theorem dX10_safeStart_69 : decode cX10_safeStart 69 = .ok (.goto (-22), 3) := by decide +kernel
theorem dX10_safeStart_72 : decode cX10_safeStart 72 = .ok (.bipush (-3), 2) := by decide +kernel
theorem dX10_safeStart_74 : decode cX10_safeStart 74 = .ok (.ireturn, 1) := by decide +kernel
set_option maxRecDepth 20000 in
theorem bX10_safeStart_0 {G : Gx} {mm : Nat → Nat → Int32} {lm : Nat → Int64} {x1 : Int32} {x2 : Int32} {o : Ou} {z : Wd} {a b : Nat} (hw : ∃ (v2 : Int32), Ct G M_X10_isBell [.ref 63, .int x1] (SH, mm, lm) false (.inl (some (.int v2))) (SH, mm, lm) false 0 0 ∧ ((v2 = 0) → ∃ (v5 : Int32) (m6 : Nat → Nat → Int32), Ct G M_X10_isWrong [.ref 63, .int 0] (SH, mm, lm) false (.inl (some (.int v5))) (SH, m6, lm) false 0 0 ∧ ((v5 = 0) → J G M_X10_safeStart 34 [(0, .ref 63), (1, .int x1), (2, .int x2)] [] (SH, m6, lm) false o z false a b) ∧ ((¬ v5 = 0) → o = .inl (some (.int 0)) ∧ z = (SH, m6, lm))) ∧ ((¬ v2 = 0) → ∃ (v9 : Int32), Ct G M_X10_isIn [.long (Int32.toInt64 x2), .long 1, .long 15] (SH, mm, lm) false (.inl (some (.int v9))) (SH, mm, lm) false 0 0 ∧ ((v9 = 0) → ∃ (v12 : Int32) (m13 : Nat → Nat → Int32), Ct G M_X10_isWrong [.ref 63, .int 0] (SH, mm, lm) false (.inl (some (.int v12))) (SH, m13, lm) false 0 0 ∧ ((v12 = 0) → J G M_X10_safeStart 34 [(0, .ref 63), (1, .int x1), (2, .int x2)] [] (SH, m13, lm) false o z false a b) ∧ ((¬ v12 = 0) → o = .inl (some (.int 0)) ∧ z = (SH, m13, lm))) ∧ ((¬ v9 = 0) → ∃ (v16 : Int32) (m17 : Nat → Nat → Int32), Ct G M_X10_isWrong [.ref 63, .int 1] (SH, mm, lm) false (.inl (some (.int v16))) (SH, m17, lm) false 0 0 ∧ ((v16 = 0) → J G M_X10_safeStart 34 [(0, .ref 63), (1, .int x1), (2, .int x2)] [] (SH, m17, lm) false o z false a b) ∧ ((¬ v16 = 0) → o = .inl (some (.int 0)) ∧ z = (SH, m17, lm))))) :
    J G M_X10_safeStart 0 [(0, .ref 63), (1, .int x1), (2, .int x2)] [] (SH, mm, lm) false o z false a b := by
  refine J_aload_n rfl (i := 0) rfl dX10_safeStart_0 ?_
  refine J_aload_n rfl (i := 0) rfl dX10_safeStart_1 ?_
  refine J_iload_n rfl (i := 1) rfl dX10_safeStart_2 ?_
  obtain ⟨v2, hc1, hw⟩ := hw
  refine J_callV (as := [.int x1]) (k := 63) (st := [.ref 63]) cal_X10_isBell cai_X10_isBell gw_1671 ⟨by decide, by decide⟩ cnt_X10_isBell sh_63 rfl rfl (Nat.le_of_ble_eq_true rfl) dX10_safeStart_3 (Nat.zero_add _).symm (Nat.zero_add _).symm hc1 ?_
  refine J_if_eq (tgt := 25) dX10_safeStart_6 (by decide) (fun hb20 => ?_) (fun hb20 => ?_)
  · replace hw := hw.1 hb20
    refine J_iconst (v := 0) (by decide) dX10_safeStart_25 ?_
    obtain ⟨v5, m6, hc4, hw⟩ := hw
    refine J_callV (as := [.int 0]) (k := 63) (st := []) cal_X10_isWrong cai_X10_isWrong gw_1663 ⟨by decide, by decide⟩ cnt_X10_isWrong sh_63 rfl rfl (Nat.le_of_ble_eq_true rfl) dX10_safeStart_26 (Nat.zero_add _).symm (Nat.zero_add _).symm hc4 ?_
    refine J_if_eq (tgt := 34) dX10_safeStart_29 (by decide) (fun hb7 => ?_) (fun hb7 => ?_)
    · replace hw := hw.1 hb7
      exact hw
    · replace hw := hw.2 hb7
      refine J_iconst (v := 0) (by decide) dX10_safeStart_32 ?_
      exact J_fini (ty := .int) rfl rfl dX10_safeStart_33 hw
  · replace hw := hw.2 hb20
    refine J_iload_n rfl (i := 2) rfl dX10_safeStart_9 ?_
    refine J_i2l dX10_safeStart_10 ?_
    refine J_lconst (v := 1) (by decide) dX10_safeStart_11 ?_
    refine J_ldc2 gw_1683 dX10_safeStart_12 ?_
    obtain ⟨v9, hc8, hw⟩ := hw
    refine J_callS (as := [.long (Int32.toInt64 x2), .long 1, .long 15]) (st := [.ref 63]) cal_X10_isIn cas_X10_isIn gw_1573 ⟨by decide, by decide⟩ cnt_X10_isIn rfl (Nat.le_of_ble_eq_true rfl) dX10_safeStart_15 (Nat.zero_add _).symm (Nat.zero_add _).symm hc8 ?_
    refine J_if_eq (tgt := 25) dX10_safeStart_18 (by decide) (fun hb19 => ?_) (fun hb19 => ?_)
    · replace hw := hw.1 hb19
      refine J_iconst (v := 0) (by decide) dX10_safeStart_25 ?_
      obtain ⟨v12, m13, hc11, hw⟩ := hw
      refine J_callV (as := [.int 0]) (k := 63) (st := []) cal_X10_isWrong cai_X10_isWrong gw_1663 ⟨by decide, by decide⟩ cnt_X10_isWrong sh_63 rfl rfl (Nat.le_of_ble_eq_true rfl) dX10_safeStart_26 (Nat.zero_add _).symm (Nat.zero_add _).symm hc11 ?_
      refine J_if_eq (tgt := 34) dX10_safeStart_29 (by decide) (fun hb14 => ?_) (fun hb14 => ?_)
      · replace hw := hw.1 hb14
        exact hw
      · replace hw := hw.2 hb14
        refine J_iconst (v := 0) (by decide) dX10_safeStart_32 ?_
        exact J_fini (ty := .int) rfl rfl dX10_safeStart_33 hw
    · replace hw := hw.2 hb19
      refine J_iconst (v := 1) (by decide) dX10_safeStart_21 ?_
      refine J_goto (tgt := 26) dX10_safeStart_22 (by decide) ?_
      obtain ⟨v16, m17, hc15, hw⟩ := hw
      refine J_callV (as := [.int 1]) (k := 63) (st := []) cal_X10_isWrong cai_X10_isWrong gw_1663 ⟨by decide, by decide⟩ cnt_X10_isWrong sh_63 rfl rfl (Nat.le_of_ble_eq_true rfl) dX10_safeStart_26 (Nat.zero_add _).symm (Nat.zero_add _).symm hc15 ?_
      refine J_if_eq (tgt := 34) dX10_safeStart_29 (by decide) (fun hb18 => ?_) (fun hb18 => ?_)
      · replace hw := hw.1 hb18
        exact hw
      · replace hw := hw.2 hb18
        refine J_iconst (v := 0) (by decide) dX10_safeStart_32 ?_
        exact J_fini (ty := .int) rfl rfl dX10_safeStart_33 hw
set_option maxRecDepth 20000 in
theorem bX10_safeStart_34 {G : Gx} {mm : Nat → Nat → Int32} {lm : Nat → Int64} {x1 : Int32} {x2 : Int32} {o : Ou} {z : Wd} {a b : Nat} (hw : ∃ (v2 : Int32), Ct G M_X10_hangs [.ref 63, .int x1] (SH, mm, lm) false (.inl (some (.int v2))) (SH, mm, lm) false 0 0 ∧ ((¬ v2 = 0) → J G M_X10_safeStart 47 [(0, .ref 63), (1, .int x1), (2, .int x2), (3, .int 0)] [] (SH, mm, lm) false o z false a b) ∧ ((v2 = 0) → o = .inl (some (.int (-2))) ∧ z = (SH, mm, lm))) :
    J G M_X10_safeStart 34 [(0, .ref 63), (1, .int x1), (2, .int x2)] [] (SH, mm, lm) false o z false a b := by
  refine J_aload_n rfl (i := 0) rfl dX10_safeStart_34 ?_
  refine J_iload_n rfl (i := 1) rfl dX10_safeStart_35 ?_
  obtain ⟨v2, hc1, hw⟩ := hw
  refine J_callV (as := [.int x1]) (k := 63) (st := []) cal_X10_hangs cai_X10_hangs gw_1684 ⟨by decide, by decide⟩ cnt_X10_hangs sh_63 rfl rfl (Nat.le_of_ble_eq_true rfl) dX10_safeStart_36 (Nat.zero_add _).symm (Nat.zero_add _).symm hc1 ?_
  refine J_if_ne (tgt := 45) dX10_safeStart_39 (by decide) (fun hb4 => ?_) (fun hb4 => ?_)
  · replace hw := hw.1 hb4
    refine J_iconst (v := 0) (by decide) dX10_safeStart_45 ?_
    refine J_istore_n [(3, .int 0), (0, .ref 63), (1, .int x1), (2, .int x2)] rfl (i := 3) (by decide) rfl dX10_safeStart_46 ?_
    exact J_sub [1, 2, 3, 0] rfl hw
  · replace hw := hw.2 hb4
    refine J_bipush (v := (-2)) (by decide) dX10_safeStart_42 ?_
    exact J_fini (ty := .int) rfl rfl dX10_safeStart_44 hw
set_option maxRecDepth 20000 in
theorem bX10_safeStart_47 {G : Gx} {mm : Nat → Nat → Int32} {lm : Nat → Int64} {x1 : Int32} {x2 : Int32} {x3 : Int32} {o : Ou} {z : Wd} {a b : Nat} (hw : ((200 ≤ x3) → o = .inl (some (.int (-3))) ∧ z = (SH, mm, lm)) ∧ ((¬ 200 ≤ x3) → ∃ (v2 : Int32), Ct G M_X10_isSafe [.ref 63, .int x1, .int x3, .int x2] (SH, mm, lm) false (.inl (some (.int v2))) (SH, mm, lm) false 0 0 ∧ ((v2 = 0) → J G M_X10_safeStart 47 [(0, .ref 63), (1, .int x1), (2, .int x2), (3, .int (x3 + 1))] [] (SH, mm, lm) false o z false a b) ∧ ((¬ v2 = 0) → o = .inl (some (.int x3)) ∧ z = (SH, mm, lm)))) :
    J G M_X10_safeStart 47 [(0, .ref 63), (1, .int x1), (2, .int x2), (3, .int x3)] [] (SH, mm, lm) false o z false a b := by
  refine J_iload_n rfl (i := 3) rfl dX10_safeStart_47 ?_
  refine J_sipush (v := 200) (by decide) dX10_safeStart_48 ?_
  refine J_icmp_ge (tgt := 72) dX10_safeStart_51 (by decide) (fun hb5 => ?_) (fun hb5 => ?_)
  · replace hw := hw.1 hb5
    refine J_bipush (v := (-3)) (by decide) dX10_safeStart_72 ?_
    exact J_fini (ty := .int) rfl rfl dX10_safeStart_74 hw
  · replace hw := hw.2 hb5
    refine J_aload_n rfl (i := 0) rfl dX10_safeStart_54 ?_
    refine J_iload_n rfl (i := 1) rfl dX10_safeStart_55 ?_
    refine J_iload_n rfl (i := 3) rfl dX10_safeStart_56 ?_
    refine J_iload_n rfl (i := 2) rfl dX10_safeStart_57 ?_
    obtain ⟨v2, hc1, hw⟩ := hw
    refine J_callV (as := [.int x1, .int x3, .int x2]) (k := 63) (st := []) cal_X10_isSafe cai_X10_isSafe gw_1915 ⟨by decide, by decide⟩ cnt_X10_isSafe sh_63 rfl rfl (Nat.le_of_ble_eq_true rfl) dX10_safeStart_58 (Nat.zero_add _).symm (Nat.zero_add _).symm hc1 ?_
    refine J_if_eq (tgt := 66) dX10_safeStart_61 (by decide) (fun hb4 => ?_) (fun hb4 => ?_)
    · replace hw := hw.1 hb4
      refine J_iinc [(3, .int (x3 + 1)), (0, .ref 63), (1, .int x1), (2, .int x2)] (i := 3) (v := (x3 + 1)) rfl rfl (by decide) rfl dX10_safeStart_66 ?_
      refine J_goto (tgt := 47) dX10_safeStart_69 (by decide) ?_
      exact J_sub [1, 2, 3, 0] rfl hw
    · replace hw := hw.2 hb4
      refine J_iload_n rfl (i := 3) rfl dX10_safeStart_64 ?_
      exact J_fini (ty := .int) rfl rfl dX10_safeStart_65 hw
theorem dX10_safeAmplitude_0 : decode cX10_safeAmplitude 0 = .ok (.aload_n 0, 1) := by decide +kernel
theorem dX10_safeAmplitude_1 : decode cX10_safeAmplitude 1 = .ok (.aload_n 0, 1) := by decide +kernel
theorem dX10_safeAmplitude_2 : decode cX10_safeAmplitude 2 = .ok (.iload_n 1, 1) := by decide +kernel
theorem dX10_safeAmplitude_3 : decode cX10_safeAmplitude 3 = .ok (.invokevirtual 235, 3) := by decide +kernel
theorem dX10_safeAmplitude_6 : decode cX10_safeAmplitude 6 = .ok (.invokevirtual 221, 3) := by decide +kernel
theorem dX10_safeAmplitude_9 : decode cX10_safeAmplitude 9 = .ok (.ifCond .eq 5, 3) := by decide +kernel
theorem dX10_safeAmplitude_12 : decode cX10_safeAmplitude 12 = .ok (.iconst 0, 1) := by decide +kernel
theorem dX10_safeAmplitude_13 : decode cX10_safeAmplitude 13 = .ok (.ireturn, 1) := by decide +kernel
theorem dX10_safeAmplitude_14 : decode cX10_safeAmplitude 14 = .ok (.aload_n 0, 1) := by decide +kernel
theorem dX10_safeAmplitude_15 : decode cX10_safeAmplitude 15 = .ok (.iload_n 1, 1) := by decide +kernel
theorem dX10_safeAmplitude_16 : decode cX10_safeAmplitude 16 = .ok (.invokevirtual 325, 3) := by decide +kernel
theorem dX10_safeAmplitude_19 : decode cX10_safeAmplitude 19 = .ok (.ifCond .ne 6, 3) := by decide +kernel
theorem dX10_safeAmplitude_22 : decode cX10_safeAmplitude 22 = .ok (.bipush (-2), 2) := by decide +kernel
theorem dX10_safeAmplitude_24 : decode cX10_safeAmplitude 24 = .ok (.ireturn, 1) := by decide +kernel
theorem dX10_safeAmplitude_25 : decode cX10_safeAmplitude 25 = .ok (.bipush 15, 2) := by decide +kernel
theorem dX10_safeAmplitude_27 : decode cX10_safeAmplitude 27 = .ok (.istore_n 2, 1) := by decide +kernel
theorem dX10_safeAmplitude_28 : decode cX10_safeAmplitude 28 = .ok (.iload_n 2, 1) := by decide +kernel
theorem dX10_safeAmplitude_29 : decode cX10_safeAmplitude 29 = .ok (.ifCond .lt 26, 3) := by decide +kernel
theorem dX10_safeAmplitude_32 : decode cX10_safeAmplitude 32 = .ok (.aload_n 0, 1) := by decide +kernel
theorem dX10_safeAmplitude_33 : decode cX10_safeAmplitude 33 = .ok (.iload_n 1, 1) := by decide +kernel
theorem dX10_safeAmplitude_34 : decode cX10_safeAmplitude 34 = .ok (.aload_n 0, 1) := by decide +kernel
theorem dX10_safeAmplitude_35 : decode cX10_safeAmplitude 35 = .ok (.iload_n 1, 1) := by decide +kernel
theorem dX10_safeAmplitude_36 : decode cX10_safeAmplitude 36 = .ok (.iconst 4, 1) := by decide +kernel
theorem dX10_safeAmplitude_37 : decode cX10_safeAmplitude 37 = .ok (.invokevirtual 229, 3) := by decide +kernel
theorem dX10_safeAmplitude_40 : decode cX10_safeAmplitude 40 = .ok (.iload_n 2, 1) := by decide +kernel
theorem dX10_safeAmplitude_41 : decode cX10_safeAmplitude 41 = .ok (.invokevirtual 354, 3) := by decide +kernel
theorem dX10_safeAmplitude_44 : decode cX10_safeAmplitude 44 = .ok (.ifCond .eq 5, 3) := by decide +kernel
theorem dX10_safeAmplitude_47 : decode cX10_safeAmplitude 47 = .ok (.iload_n 2, 1) := by decide +kernel
theorem dX10_safeAmplitude_48 : decode cX10_safeAmplitude 48 = .ok (.ireturn, 1) := by decide +kernel
theorem dX10_safeAmplitude_49 : decode cX10_safeAmplitude 49 = .ok (.iinc 2 (-1), 3) := by decide +kernel
theorem dX10_safeAmplitude_52 : decode cX10_safeAmplitude 52 = .ok (.goto (-24), 3) := by decide +kernel
theorem dX10_safeAmplitude_55 : decode cX10_safeAmplitude 55 = .ok (.bipush (-3), 2) := by decide +kernel
theorem dX10_safeAmplitude_57 : decode cX10_safeAmplitude 57 = .ok (.ireturn, 1) := by decide +kernel
set_option maxRecDepth 20000 in
theorem bX10_safeAmplitude_0 {G : Gx} {mm : Nat → Nat → Int32} {lm : Nat → Int64} {x1 : Int32} {o : Ou} {z : Wd} {a b : Nat} (hw : ∃ (v2 : Int32), Ct G M_X10_isBell [.ref 63, .int x1] (SH, mm, lm) false (.inl (some (.int v2))) (SH, mm, lm) false 0 0 ∧ ∃ (v5 : Int32) (m6 : Nat → Nat → Int32), Ct G M_X10_isWrong [.ref 63, .int v2] (SH, mm, lm) false (.inl (some (.int v5))) (SH, m6, lm) false 0 0 ∧ ((v5 = 0) → J G M_X10_safeAmplitude 14 [(0, .ref 63), (1, .int x1)] [] (SH, m6, lm) false o z false a b) ∧ ((¬ v5 = 0) → o = .inl (some (.int 0)) ∧ z = (SH, m6, lm))) :
    J G M_X10_safeAmplitude 0 [(0, .ref 63), (1, .int x1)] [] (SH, mm, lm) false o z false a b := by
  refine J_aload_n rfl (i := 0) rfl dX10_safeAmplitude_0 ?_
  refine J_aload_n rfl (i := 0) rfl dX10_safeAmplitude_1 ?_
  refine J_iload_n rfl (i := 1) rfl dX10_safeAmplitude_2 ?_
  obtain ⟨v2, hc1, hw⟩ := hw
  refine J_callV (as := [.int x1]) (k := 63) (st := [.ref 63]) cal_X10_isBell cai_X10_isBell gw_1671 ⟨by decide, by decide⟩ cnt_X10_isBell sh_63 rfl rfl (Nat.le_of_ble_eq_true rfl) dX10_safeAmplitude_3 (Nat.zero_add _).symm (Nat.zero_add _).symm hc1 ?_
  obtain ⟨v5, m6, hc4, hw⟩ := hw
  refine J_callV (as := [.int v2]) (k := 63) (st := []) cal_X10_isWrong cai_X10_isWrong gw_1663 ⟨by decide, by decide⟩ cnt_X10_isWrong sh_63 rfl rfl (Nat.le_of_ble_eq_true rfl) dX10_safeAmplitude_6 (Nat.zero_add _).symm (Nat.zero_add _).symm hc4 ?_
  refine J_if_eq (tgt := 14) dX10_safeAmplitude_9 (by decide) (fun hb7 => ?_) (fun hb7 => ?_)
  · replace hw := hw.1 hb7
    exact hw
  · replace hw := hw.2 hb7
    refine J_iconst (v := 0) (by decide) dX10_safeAmplitude_12 ?_
    exact J_fini (ty := .int) rfl rfl dX10_safeAmplitude_13 hw
set_option maxRecDepth 20000 in
theorem bX10_safeAmplitude_14 {G : Gx} {mm : Nat → Nat → Int32} {lm : Nat → Int64} {x1 : Int32} {o : Ou} {z : Wd} {a b : Nat} (hw : ∃ (v2 : Int32), Ct G M_X10_swings [.ref 63, .int x1] (SH, mm, lm) false (.inl (some (.int v2))) (SH, mm, lm) false 0 0 ∧ ((¬ v2 = 0) → J G M_X10_safeAmplitude 28 [(0, .ref 63), (1, .int x1), (2, .int 15)] [] (SH, mm, lm) false o z false a b) ∧ ((v2 = 0) → o = .inl (some (.int (-2))) ∧ z = (SH, mm, lm))) :
    J G M_X10_safeAmplitude 14 [(0, .ref 63), (1, .int x1)] [] (SH, mm, lm) false o z false a b := by
  refine J_aload_n rfl (i := 0) rfl dX10_safeAmplitude_14 ?_
  refine J_iload_n rfl (i := 1) rfl dX10_safeAmplitude_15 ?_
  obtain ⟨v2, hc1, hw⟩ := hw
  refine J_callV (as := [.int x1]) (k := 63) (st := []) cal_X10_swings cai_X10_swings gw_1862 ⟨by decide, by decide⟩ cnt_X10_swings sh_63 rfl rfl (Nat.le_of_ble_eq_true rfl) dX10_safeAmplitude_16 (Nat.zero_add _).symm (Nat.zero_add _).symm hc1 ?_
  refine J_if_ne (tgt := 25) dX10_safeAmplitude_19 (by decide) (fun hb4 => ?_) (fun hb4 => ?_)
  · replace hw := hw.1 hb4
    refine J_bipush (v := 15) (by decide) dX10_safeAmplitude_25 ?_
    refine J_istore_n [(2, .int 15), (0, .ref 63), (1, .int x1)] rfl (i := 2) (by decide) rfl dX10_safeAmplitude_27 ?_
    exact J_sub [1, 2, 0] rfl hw
  · replace hw := hw.2 hb4
    refine J_bipush (v := (-2)) (by decide) dX10_safeAmplitude_22 ?_
    exact J_fini (ty := .int) rfl rfl dX10_safeAmplitude_24 hw
set_option maxRecDepth 20000 in
theorem bX10_safeAmplitude_28 {G : Gx} {mm : Nat → Nat → Int32} {lm : Nat → Int64} {x1 : Int32} {x2 : Int32} {o : Ou} {z : Wd} {a b : Nat} (hw : ((x2 < 0) → o = .inl (some (.int (-3))) ∧ z = (SH, mm, lm)) ∧ ((¬ x2 < 0) → ∃ (v2 : Int32), Ct G M_X10_of [.ref 63, .int x1, .int 4] (SH, mm, lm) false (.inl (some (.int v2))) (SH, mm, lm) false 0 0 ∧ ∃ (v5 : Int32), Ct G M_X10_isSafe [.ref 63, .int x1, .int v2, .int x2] (SH, mm, lm) false (.inl (some (.int v5))) (SH, mm, lm) false 0 0 ∧ ((v5 = 0) → J G M_X10_safeAmplitude 28 [(0, .ref 63), (1, .int x1), (2, .int (x2 + (-1)))] [] (SH, mm, lm) false o z false a b) ∧ ((¬ v5 = 0) → o = .inl (some (.int x2)) ∧ z = (SH, mm, lm)))) :
    J G M_X10_safeAmplitude 28 [(0, .ref 63), (1, .int x1), (2, .int x2)] [] (SH, mm, lm) false o z false a b := by
  refine J_iload_n rfl (i := 2) rfl dX10_safeAmplitude_28 ?_
  refine J_if_lt (tgt := 55) dX10_safeAmplitude_29 (by decide) (fun hb8 => ?_) (fun hb8 => ?_)
  · replace hw := hw.1 hb8
    refine J_bipush (v := (-3)) (by decide) dX10_safeAmplitude_55 ?_
    exact J_fini (ty := .int) rfl rfl dX10_safeAmplitude_57 hw
  · replace hw := hw.2 hb8
    refine J_aload_n rfl (i := 0) rfl dX10_safeAmplitude_32 ?_
    refine J_iload_n rfl (i := 1) rfl dX10_safeAmplitude_33 ?_
    refine J_aload_n rfl (i := 0) rfl dX10_safeAmplitude_34 ?_
    refine J_iload_n rfl (i := 1) rfl dX10_safeAmplitude_35 ?_
    refine J_iconst (v := 4) (by decide) dX10_safeAmplitude_36 ?_
    obtain ⟨v2, hc1, hw⟩ := hw
    refine J_callV (as := [.int x1, .int 4]) (k := 63) (st := [.int x1, .ref 63]) cal_X10_of cai_X10_of gw_1688 ⟨by decide, by decide⟩ cnt_X10_of sh_63 rfl rfl (Nat.le_of_ble_eq_true rfl) dX10_safeAmplitude_37 (Nat.zero_add _).symm (Nat.zero_add _).symm hc1 ?_
    refine J_iload_n rfl (i := 2) rfl dX10_safeAmplitude_40 ?_
    obtain ⟨v5, hc4, hw⟩ := hw
    refine J_callV (as := [.int x1, .int v2, .int x2]) (k := 63) (st := []) cal_X10_isSafe cai_X10_isSafe gw_1915 ⟨by decide, by decide⟩ cnt_X10_isSafe sh_63 rfl rfl (Nat.le_of_ble_eq_true rfl) dX10_safeAmplitude_41 (Nat.zero_add _).symm (Nat.zero_add _).symm hc4 ?_
    refine J_if_eq (tgt := 49) dX10_safeAmplitude_44 (by decide) (fun hb7 => ?_) (fun hb7 => ?_)
    · replace hw := hw.1 hb7
      refine J_iinc [(2, .int (x2 + (-1))), (0, .ref 63), (1, .int x1)] (i := 2) (v := (x2 + (-1))) rfl (congrArg (fun y => x2 + y) (by decide : Int32.ofInt (-1) = (-1))) (by decide) rfl dX10_safeAmplitude_49 ?_
      refine J_goto (tgt := 28) dX10_safeAmplitude_52 (by decide) ?_
      exact J_sub [1, 2, 0] rfl hw
    · replace hw := hw.2 hb7
      refine J_iload_n rfl (i := 2) rfl dX10_safeAmplitude_47 ?_
      exact J_fini (ty := .int) rfl rfl dX10_safeAmplitude_48 hw
theorem dX10_strikesAt_0 : decode cX10_strikesAt 0 = .ok (.aload_n 0, 1) := by decide +kernel
theorem dX10_strikesAt_1 : decode cX10_strikesAt 1 = .ok (.getfield 28, 3) := by decide +kernel
theorem dX10_strikesAt_4 : decode cX10_strikesAt 4 = .ok (.iload_n 1, 1) := by decide +kernel
theorem dX10_strikesAt_5 : decode cX10_strikesAt 5 = .ok (.iaload, 1) := by decide +kernel
theorem dX10_strikesAt_6 : decode cX10_strikesAt 6 = .ok (.istore_n 3, 1) := by decide +kernel
theorem dX10_strikesAt_7 : decode cX10_strikesAt 7 = .ok (.iload_n 2, 1) := by decide +kernel
theorem dX10_strikesAt_8 : decode cX10_strikesAt 8 = .ok (.aload_n 0, 1) := by decide +kernel
theorem dX10_strikesAt_9 : decode cX10_strikesAt 9 = .ok (.iload_n 1, 1) := by decide +kernel
theorem dX10_strikesAt_10 : decode cX10_strikesAt 10 = .ok (.iconst 4, 1) := by decide +kernel
theorem dX10_strikesAt_11 : decode cX10_strikesAt 11 = .ok (.invokevirtual 229, 3) := by decide +kernel
theorem dX10_strikesAt_14 : decode cX10_strikesAt 14 = .ok (.isub, 1) := by decide +kernel
theorem dX10_strikesAt_15 : decode cX10_strikesAt 15 = .ok (.istore 4, 2) := by decide +kernel
theorem dX10_strikesAt_17 : decode cX10_strikesAt 17 = .ok (.iload 4, 2) := by decide +kernel
theorem dX10_strikesAt_19 : decode cX10_strikesAt 19 = .ok (.ifCond .lt 29, 3) := by decide +kernel
theorem dX10_strikesAt_22 : decode cX10_strikesAt 22 = .ok (.iload 4, 2) := by decide +kernel
theorem dX10_strikesAt_24 : decode cX10_strikesAt 24 = .ok (.iload_n 3, 1) := by decide +kernel
theorem dX10_strikesAt_25 : decode cX10_strikesAt 25 = .ok (.irem, 1) := by decide +kernel
theorem dX10_strikesAt_26 : decode cX10_strikesAt 26 = .ok (.iload_n 3, 1) := by decide +kernel
theorem dX10_strikesAt_27 : decode cX10_strikesAt 27 = .ok (.iconst 4, 1) := by decide +kernel
theorem dX10_strikesAt_28 : decode cX10_strikesAt 28 = .ok (.idiv, 1) := by decide +kernel
theorem dX10_strikesAt_29 : decode cX10_strikesAt 29 = .ok (.if_icmp .eq 15, 3) := by decide +kernel
theorem dX10_strikesAt_32 : decode cX10_strikesAt 32 = .ok (.iload 4, 2) := by decide +kernel
theorem dX10_strikesAt_34 : decode cX10_strikesAt 34 = .ok (.iload_n 3, 1) := by decide +kernel
theorem dX10_strikesAt_35 : decode cX10_strikesAt 35 = .ok (.irem, 1) := by decide +kernel
theorem dX10_strikesAt_36 : decode cX10_strikesAt 36 = .ok (.iconst 3, 1) := by decide +kernel
theorem dX10_strikesAt_37 : decode cX10_strikesAt 37 = .ok (.iload_n 3, 1) := by decide +kernel
theorem dX10_strikesAt_38 : decode cX10_strikesAt 38 = .ok (.imul, 1) := by decide +kernel
theorem dX10_strikesAt_39 : decode cX10_strikesAt 39 = .ok (.iconst 4, 1) := by decide +kernel
theorem dX10_strikesAt_40 : decode cX10_strikesAt 40 = .ok (.idiv, 1) := by decide +kernel
theorem dX10_strikesAt_41 : decode cX10_strikesAt 41 = .ok (.if_icmp .ne 7, 3) := by decide +kernel
theorem dX10_strikesAt_44 : decode cX10_strikesAt 44 = .ok (.iconst 1, 1) := by decide +kernel
theorem dX10_strikesAt_45 : decode cX10_strikesAt 45 = .ok (.goto 4, 3) := by decide +kernel
theorem dX10_strikesAt_48 : decode cX10_strikesAt 48 = .ok (.iconst 0, 1) := by decide +kernel
theorem dX10_strikesAt_49 : decode cX10_strikesAt 49 = .ok (.ireturn, 1) := by decide +kernel
set_option maxRecDepth 20000 in
theorem bX10_strikesAt_0 {G : Gx} {mm : Nat → Nat → Int32} {lm : Nat → Int64} {x1 : Int32} {x2 : Int32} {o : Ou} {z : Wd} {a b : Nat} (hw : ∃ j1 : Nat, x1 = nI j1 ∧ j1 < 8 ∧ ∃ (v3 : Int32), Ct G M_X10_of [.ref 63, .int x1, .int 4] (SH, mm, lm) false (.inl (some (.int v3))) (SH, mm, lm) false 0 0 ∧ (((x2 - v3) < 0) → o = .inl (some (.int 0)) ∧ z = (SH, mm, lm)) ∧ ((¬ (x2 - v3) < 0) → ¬ (mm 70 j1) = 0 ∧ ((((x2 - v3) - (x2 - v3) / (mm 70 j1) * (mm 70 j1)) = ((mm 70 j1) / 4)) → o = .inl (some (.int 1)) ∧ z = (SH, mm, lm)) ∧ ((¬ ((x2 - v3) - (x2 - v3) / (mm 70 j1) * (mm 70 j1)) = ((mm 70 j1) / 4)) → ¬ (mm 70 j1) = 0 ∧ ((¬ ((x2 - v3) - (x2 - v3) / (mm 70 j1) * (mm 70 j1)) = ((3 * (mm 70 j1)) / 4)) → o = .inl (some (.int 0)) ∧ z = (SH, mm, lm)) ∧ ((((x2 - v3) - (x2 - v3) / (mm 70 j1) * (mm 70 j1)) = ((3 * (mm 70 j1)) / 4)) → o = .inl (some (.int 1)) ∧ z = (SH, mm, lm))))) :
    J G M_X10_strikesAt 0 [(0, .ref 63), (1, .int x1), (2, .int x2)] [] (SH, mm, lm) false o z false a b := by
  refine J_aload_n rfl (i := 0) rfl dX10_strikesAt_0 ?_
  refine J_getr kls_10 (q := 63) (k := 11) sh_63 (by decide) rfl gw_1444 dX10_strikesAt_1 ?_
  refine J_iload_n rfl (i := 1) rfl dX10_strikesAt_4 ?_
  obtain ⟨j1, ej1, hj1, hw⟩ := hw
  refine J_iald sh_70 ej1 hj1 (by decide) dX10_strikesAt_5 ?_
  refine J_istore_n [(3, .int (mm 70 j1)), (0, .ref 63), (1, .int x1), (2, .int x2)] rfl (i := 3) (by decide) rfl dX10_strikesAt_6 ?_
  refine J_iload_n rfl (i := 2) rfl dX10_strikesAt_7 ?_
  refine J_aload_n rfl (i := 0) rfl dX10_strikesAt_8 ?_
  refine J_iload_n rfl (i := 1) rfl dX10_strikesAt_9 ?_
  refine J_iconst (v := 4) (by decide) dX10_strikesAt_10 ?_
  obtain ⟨v3, hc2, hw⟩ := hw
  refine J_callV (as := [.int x1, .int 4]) (k := 63) (st := [.int x2]) cal_X10_of cai_X10_of gw_1688 ⟨by decide, by decide⟩ cnt_X10_of sh_63 rfl rfl (Nat.le_of_ble_eq_true rfl) dX10_strikesAt_11 (Nat.zero_add _).symm (Nat.zero_add _).symm hc2 ?_
  refine J_isub dX10_strikesAt_14 ?_
  refine J_istore [(4, .int (x2 - v3)), (3, .int (mm 70 j1)), (0, .ref 63), (1, .int x1), (2, .int x2)] (i := 4) (by decide) rfl dX10_strikesAt_15 ?_
  refine J_iload (i := 4) rfl dX10_strikesAt_17 ?_
  refine J_if_lt (tgt := 48) dX10_strikesAt_19 (by decide) (fun hb9 => ?_) (fun hb9 => ?_)
  · replace hw := hw.1 hb9
    refine J_iconst (v := 0) (by decide) dX10_strikesAt_48 ?_
    exact J_fini (ty := .boolean) rfl rfl dX10_strikesAt_49 hw
  · replace hw := hw.2 hb9
    refine J_iload (i := 4) rfl dX10_strikesAt_22 ?_
    refine J_iload_n rfl (i := 3) rfl dX10_strikesAt_24 ?_
    obtain ⟨hz8, hw⟩ := hw
    refine J_irem hz8 dX10_strikesAt_25 ?_
    refine J_iload_n rfl (i := 3) rfl dX10_strikesAt_26 ?_
    refine J_iconst (v := 4) (by decide) dX10_strikesAt_27 ?_
    refine J_idiv (by decide) dX10_strikesAt_28 ?_
    refine J_icmp_eq (tgt := 44) dX10_strikesAt_29 (by decide) (fun hb7 => ?_) (fun hb7 => ?_)
    · replace hw := hw.1 hb7
      refine J_iconst (v := 1) (by decide) dX10_strikesAt_44 ?_
      refine J_goto (tgt := 49) dX10_strikesAt_45 (by decide) ?_
      exact J_fini (ty := .boolean) rfl rfl dX10_strikesAt_49 hw
    · replace hw := hw.2 hb7
      refine J_iload (i := 4) rfl dX10_strikesAt_32 ?_
      refine J_iload_n rfl (i := 3) rfl dX10_strikesAt_34 ?_
      obtain ⟨hz6, hw⟩ := hw
      refine J_irem hz6 dX10_strikesAt_35 ?_
      refine J_iconst (v := 3) (by decide) dX10_strikesAt_36 ?_
      refine J_iload_n rfl (i := 3) rfl dX10_strikesAt_37 ?_
      refine J_imul dX10_strikesAt_38 ?_
      refine J_iconst (v := 4) (by decide) dX10_strikesAt_39 ?_
      refine J_idiv (by decide) dX10_strikesAt_40 ?_
      refine J_icmp_ne (tgt := 48) dX10_strikesAt_41 (by decide) (fun hb5 => ?_) (fun hb5 => ?_)
      · replace hw := hw.1 hb5
        refine J_iconst (v := 0) (by decide) dX10_strikesAt_48 ?_
        exact J_fini (ty := .boolean) rfl rfl dX10_strikesAt_49 hw
      · replace hw := hw.2 hb5
        refine J_iconst (v := 1) (by decide) dX10_strikesAt_44 ?_
        refine J_goto (tgt := 49) dX10_strikesAt_45 (by decide) ?_
        exact J_fini (ty := .boolean) rfl rfl dX10_strikesAt_49 hw
theorem dX10_strikes_0 : decode cX10_strikes 0 = .ok (.aload_n 0, 1) := by decide +kernel
theorem dX10_strikes_1 : decode cX10_strikes 1 = .ok (.aload_n 0, 1) := by decide +kernel
theorem dX10_strikes_2 : decode cX10_strikes 2 = .ok (.iload_n 1, 1) := by decide +kernel
theorem dX10_strikes_3 : decode cX10_strikes 3 = .ok (.invokevirtual 235, 3) := by decide +kernel
theorem dX10_strikes_6 : decode cX10_strikes 6 = .ok (.ifCond .eq 32, 3) := by decide +kernel
theorem dX10_strikes_9 : decode cX10_strikes 9 = .ok (.iload_n 2, 1) := by decide +kernel
theorem dX10_strikes_10 : decode cX10_strikes 10 = .ok (.i2l, 1) := by decide +kernel
theorem dX10_strikes_11 : decode cX10_strikes 11 = .ok (.lconst 0, 1) := by decide +kernel
theorem dX10_strikes_12 : decode cX10_strikes 12 = .ok (.ldc2_w 337, 3) := by decide +kernel
theorem dX10_strikes_15 : decode cX10_strikes 15 = .ok (.invokestatic 91, 3) := by decide +kernel
theorem dX10_strikes_18 : decode cX10_strikes 18 = .ok (.ifCond .eq 20, 3) := by decide +kernel
theorem dX10_strikes_21 : decode cX10_strikes 21 = .ok (.iload_n 3, 1) := by decide +kernel
theorem dX10_strikes_22 : decode cX10_strikes 22 = .ok (.i2l, 1) := by decide +kernel
theorem dX10_strikes_23 : decode cX10_strikes 23 = .ok (.iload_n 2, 1) := by decide +kernel
theorem dX10_strikes_24 : decode cX10_strikes 24 = .ok (.i2l, 1) := by decide +kernel
theorem dX10_strikes_25 : decode cX10_strikes 25 = .ok (.ldc2_w 337, 3) := by decide +kernel
theorem dX10_strikes_28 : decode cX10_strikes 28 = .ok (.invokestatic 91, 3) := by decide +kernel
theorem dX10_strikes_31 : decode cX10_strikes 31 = .ok (.ifCond .eq 7, 3) := by decide +kernel
theorem dX10_strikes_34 : decode cX10_strikes 34 = .ok (.iconst 1, 1) := by decide +kernel
theorem dX10_strikes_35 : decode cX10_strikes 35 = .ok (.goto 4, 3) := by decide +kernel
theorem dX10_strikes_38 : decode cX10_strikes 38 = .ok (.iconst 0, 1) := by decide +kernel
theorem dX10_strikes_39 : decode cX10_strikes 39 = .ok (.invokevirtual 221, 3) := by decide +kernel
theorem dX10_strikes_42 : decode cX10_strikes 42 = .ok (.ifCond .eq 5, 3) := by decide +kernel
theorem dX10_strikes_45 : decode cX10_strikes 45 = .ok (.iconst 0, 1) := by decide +kernel
theorem dX10_strikes_46 : decode cX10_strikes 46 = .ok (.ireturn, 1) := by decide +kernel
theorem dX10_strikes_47 : decode cX10_strikes 47 = .ok (.aload_n 0, 1) := by decide +kernel
theorem dX10_strikes_48 : decode cX10_strikes 48 = .ok (.iload_n 1, 1) := by decide +kernel
theorem dX10_strikes_49 : decode cX10_strikes 49 = .ok (.invokevirtual 325, 3) := by decide +kernel
theorem dX10_strikes_52 : decode cX10_strikes 52 = .ok (.ifCond .ne 6, 3) := by decide +kernel
theorem dX10_strikes_55 : decode cX10_strikes 55 = .ok (.bipush (-2), 2) := by decide +kernel
theorem dX10_strikes_57 : decode cX10_strikes 57 = .ok (.ireturn, 1) := by decide +kernel
theorem dX10_strikes_58 : decode cX10_strikes 58 = .ok (.iconst 0, 1) := by decide +kernel
theorem dX10_strikes_59 : decode cX10_strikes 59 = .ok (.istore 4, 2) := by decide +kernel
theorem dX10_strikes_61 : decode cX10_strikes 61 = .ok (.iload_n 2, 1) := by decide +kernel
theorem dX10_strikes_62 : decode cX10_strikes 62 = .ok (.istore 5, 2) := by decide +kernel
theorem dX10_strikes_64 : decode cX10_strikes 64 = .ok (.iload 5, 2) := by decide +kernel
theorem dX10_strikes_66 : decode cX10_strikes 66 = .ok (.iload_n 3, 1) := by decide +kernel
theorem dX10_strikes_67 : decode cX10_strikes 67 = .ok (.if_icmp .gt 29, 3) := by decide +kernel
theorem dX10_strikes_70 : decode cX10_strikes 70 = .ok (.iload 4, 2) := by decide +kernel
theorem dX10_strikes_72 : decode cX10_strikes 72 = .ok (.aload_n 0, 1) := by decide +kernel
theorem dX10_strikes_73 : decode cX10_strikes 73 = .ok (.iload_n 1, 1) := by decide +kernel
theorem dX10_strikes_74 : decode cX10_strikes 74 = .ok (.iload 5, 2) := by decide +kernel
theorem dX10_strikes_76 : decode cX10_strikes 76 = .ok (.invokevirtual 357, 3) := by decide +kernel
theorem dX10_strikes_79 : decode cX10_strikes 79 = .ok (.ifCond .eq 7, 3) := by decide +kernel
theorem dX10_strikes_82 : decode cX10_strikes 82 = .ok (.iconst 1, 1) := by decide +kernel
theorem dX10_strikes_83 : decode cX10_strikes 83 = .ok (.goto 4, 3) := by decide +kernel
theorem dX10_strikes_86 : decode cX10_strikes 86 = .ok (.iconst 0, 1) := by decide +kernel
theorem dX10_strikes_87 : decode cX10_strikes 87 = .ok (.iadd, 1) := by decide +kernel
theorem dX10_strikes_88 : decode cX10_strikes 88 = .ok (.istore 4, 2) := by decide +kernel
theorem dX10_strikes_90 : decode cX10_strikes 90 = .ok (.iinc 5 1, 3) := by decide +kernel
theorem dX10_strikes_93 : decode cX10_strikes 93 = .ok (.goto (-29), 3) := by decide +kernel
theorem dX10_strikes_96 : decode cX10_strikes 96 = .ok (.iload 4, 2) := by decide +kernel
theorem dX10_strikes_98 : decode cX10_strikes 98 = .ok (.ireturn, 1) := by decide +kernel
set_option maxRecDepth 20000 in
theorem bX10_strikes_0 {G : Gx} {mm : Nat → Nat → Int32} {lm : Nat → Int64} {x1 : Int32} {x2 : Int32} {x3 : Int32} {o : Ou} {z : Wd} {a b : Nat} (hw : ∃ (v2 : Int32), Ct G M_X10_isBell [.ref 63, .int x1] (SH, mm, lm) false (.inl (some (.int v2))) (SH, mm, lm) false 0 0 ∧ ((v2 = 0) → ∃ (v5 : Int32) (m6 : Nat → Nat → Int32), Ct G M_X10_isWrong [.ref 63, .int 0] (SH, mm, lm) false (.inl (some (.int v5))) (SH, m6, lm) false 0 0 ∧ ((v5 = 0) → J G M_X10_strikes 47 [(0, .ref 63), (1, .int x1), (2, .int x2), (3, .int x3)] [] (SH, m6, lm) false o z false a b) ∧ ((¬ v5 = 0) → o = .inl (some (.int 0)) ∧ z = (SH, m6, lm))) ∧ ((¬ v2 = 0) → ∃ (v9 : Int32), Ct G M_X10_isIn [.long (Int32.toInt64 x2), .long 0, .long 9999] (SH, mm, lm) false (.inl (some (.int v9))) (SH, mm, lm) false 0 0 ∧ ((v9 = 0) → ∃ (v12 : Int32) (m13 : Nat → Nat → Int32), Ct G M_X10_isWrong [.ref 63, .int 0] (SH, mm, lm) false (.inl (some (.int v12))) (SH, m13, lm) false 0 0 ∧ ((v12 = 0) → J G M_X10_strikes 47 [(0, .ref 63), (1, .int x1), (2, .int x2), (3, .int x3)] [] (SH, m13, lm) false o z false a b) ∧ ((¬ v12 = 0) → o = .inl (some (.int 0)) ∧ z = (SH, m13, lm))) ∧ ((¬ v9 = 0) → ∃ (v16 : Int32), Ct G M_X10_isIn [.long (Int32.toInt64 x3), .long (Int32.toInt64 x2), .long 9999] (SH, mm, lm) false (.inl (some (.int v16))) (SH, mm, lm) false 0 0 ∧ ((v16 = 0) → ∃ (v19 : Int32) (m20 : Nat → Nat → Int32), Ct G M_X10_isWrong [.ref 63, .int 0] (SH, mm, lm) false (.inl (some (.int v19))) (SH, m20, lm) false 0 0 ∧ ((v19 = 0) → J G M_X10_strikes 47 [(0, .ref 63), (1, .int x1), (2, .int x2), (3, .int x3)] [] (SH, m20, lm) false o z false a b) ∧ ((¬ v19 = 0) → o = .inl (some (.int 0)) ∧ z = (SH, m20, lm))) ∧ ((¬ v16 = 0) → ∃ (v23 : Int32) (m24 : Nat → Nat → Int32), Ct G M_X10_isWrong [.ref 63, .int 1] (SH, mm, lm) false (.inl (some (.int v23))) (SH, m24, lm) false 0 0 ∧ ((v23 = 0) → J G M_X10_strikes 47 [(0, .ref 63), (1, .int x1), (2, .int x2), (3, .int x3)] [] (SH, m24, lm) false o z false a b) ∧ ((¬ v23 = 0) → o = .inl (some (.int 0)) ∧ z = (SH, m24, lm)))))) :
    J G M_X10_strikes 0 [(0, .ref 63), (1, .int x1), (2, .int x2), (3, .int x3)] [] (SH, mm, lm) false o z false a b := by
  refine J_aload_n rfl (i := 0) rfl dX10_strikes_0 ?_
  refine J_aload_n rfl (i := 0) rfl dX10_strikes_1 ?_
  refine J_iload_n rfl (i := 1) rfl dX10_strikes_2 ?_
  obtain ⟨v2, hc1, hw⟩ := hw
  refine J_callV (as := [.int x1]) (k := 63) (st := [.ref 63]) cal_X10_isBell cai_X10_isBell gw_1671 ⟨by decide, by decide⟩ cnt_X10_isBell sh_63 rfl rfl (Nat.le_of_ble_eq_true rfl) dX10_strikes_3 (Nat.zero_add _).symm (Nat.zero_add _).symm hc1 ?_
  refine J_if_eq (tgt := 38) dX10_strikes_6 (by decide) (fun hb28 => ?_) (fun hb28 => ?_)
  · replace hw := hw.1 hb28
    refine J_iconst (v := 0) (by decide) dX10_strikes_38 ?_
    obtain ⟨v5, m6, hc4, hw⟩ := hw
    refine J_callV (as := [.int 0]) (k := 63) (st := []) cal_X10_isWrong cai_X10_isWrong gw_1663 ⟨by decide, by decide⟩ cnt_X10_isWrong sh_63 rfl rfl (Nat.le_of_ble_eq_true rfl) dX10_strikes_39 (Nat.zero_add _).symm (Nat.zero_add _).symm hc4 ?_
    refine J_if_eq (tgt := 47) dX10_strikes_42 (by decide) (fun hb7 => ?_) (fun hb7 => ?_)
    · replace hw := hw.1 hb7
      exact hw
    · replace hw := hw.2 hb7
      refine J_iconst (v := 0) (by decide) dX10_strikes_45 ?_
      exact J_fini (ty := .int) rfl rfl dX10_strikes_46 hw
  · replace hw := hw.2 hb28
    refine J_iload_n rfl (i := 2) rfl dX10_strikes_9 ?_
    refine J_i2l dX10_strikes_10 ?_
    refine J_lconst (v := 0) (by decide) dX10_strikes_11 ?_
    refine J_ldc2 gw_1874 dX10_strikes_12 ?_
    obtain ⟨v9, hc8, hw⟩ := hw
    refine J_callS (as := [.long (Int32.toInt64 x2), .long 0, .long 9999]) (st := [.ref 63]) cal_X10_isIn cas_X10_isIn gw_1573 ⟨by decide, by decide⟩ cnt_X10_isIn rfl (Nat.le_of_ble_eq_true rfl) dX10_strikes_15 (Nat.zero_add _).symm (Nat.zero_add _).symm hc8 ?_
    refine J_if_eq (tgt := 38) dX10_strikes_18 (by decide) (fun hb27 => ?_) (fun hb27 => ?_)
    · replace hw := hw.1 hb27
      refine J_iconst (v := 0) (by decide) dX10_strikes_38 ?_
      obtain ⟨v12, m13, hc11, hw⟩ := hw
      refine J_callV (as := [.int 0]) (k := 63) (st := []) cal_X10_isWrong cai_X10_isWrong gw_1663 ⟨by decide, by decide⟩ cnt_X10_isWrong sh_63 rfl rfl (Nat.le_of_ble_eq_true rfl) dX10_strikes_39 (Nat.zero_add _).symm (Nat.zero_add _).symm hc11 ?_
      refine J_if_eq (tgt := 47) dX10_strikes_42 (by decide) (fun hb14 => ?_) (fun hb14 => ?_)
      · replace hw := hw.1 hb14
        exact hw
      · replace hw := hw.2 hb14
        refine J_iconst (v := 0) (by decide) dX10_strikes_45 ?_
        exact J_fini (ty := .int) rfl rfl dX10_strikes_46 hw
    · replace hw := hw.2 hb27
      refine J_iload_n rfl (i := 3) rfl dX10_strikes_21 ?_
      refine J_i2l dX10_strikes_22 ?_
      refine J_iload_n rfl (i := 2) rfl dX10_strikes_23 ?_
      refine J_i2l dX10_strikes_24 ?_
      refine J_ldc2 gw_1874 dX10_strikes_25 ?_
      obtain ⟨v16, hc15, hw⟩ := hw
      refine J_callS (as := [.long (Int32.toInt64 x3), .long (Int32.toInt64 x2), .long 9999]) (st := [.ref 63]) cal_X10_isIn cas_X10_isIn gw_1573 ⟨by decide, by decide⟩ cnt_X10_isIn rfl (Nat.le_of_ble_eq_true rfl) dX10_strikes_28 (Nat.zero_add _).symm (Nat.zero_add _).symm hc15 ?_
      refine J_if_eq (tgt := 38) dX10_strikes_31 (by decide) (fun hb26 => ?_) (fun hb26 => ?_)
      · replace hw := hw.1 hb26
        refine J_iconst (v := 0) (by decide) dX10_strikes_38 ?_
        obtain ⟨v19, m20, hc18, hw⟩ := hw
        refine J_callV (as := [.int 0]) (k := 63) (st := []) cal_X10_isWrong cai_X10_isWrong gw_1663 ⟨by decide, by decide⟩ cnt_X10_isWrong sh_63 rfl rfl (Nat.le_of_ble_eq_true rfl) dX10_strikes_39 (Nat.zero_add _).symm (Nat.zero_add _).symm hc18 ?_
        refine J_if_eq (tgt := 47) dX10_strikes_42 (by decide) (fun hb21 => ?_) (fun hb21 => ?_)
        · replace hw := hw.1 hb21
          exact hw
        · replace hw := hw.2 hb21
          refine J_iconst (v := 0) (by decide) dX10_strikes_45 ?_
          exact J_fini (ty := .int) rfl rfl dX10_strikes_46 hw
      · replace hw := hw.2 hb26
        refine J_iconst (v := 1) (by decide) dX10_strikes_34 ?_
        refine J_goto (tgt := 39) dX10_strikes_35 (by decide) ?_
        obtain ⟨v23, m24, hc22, hw⟩ := hw
        refine J_callV (as := [.int 1]) (k := 63) (st := []) cal_X10_isWrong cai_X10_isWrong gw_1663 ⟨by decide, by decide⟩ cnt_X10_isWrong sh_63 rfl rfl (Nat.le_of_ble_eq_true rfl) dX10_strikes_39 (Nat.zero_add _).symm (Nat.zero_add _).symm hc22 ?_
        refine J_if_eq (tgt := 47) dX10_strikes_42 (by decide) (fun hb25 => ?_) (fun hb25 => ?_)
        · replace hw := hw.1 hb25
          exact hw
        · replace hw := hw.2 hb25
          refine J_iconst (v := 0) (by decide) dX10_strikes_45 ?_
          exact J_fini (ty := .int) rfl rfl dX10_strikes_46 hw
set_option maxRecDepth 20000 in
theorem bX10_strikes_47 {G : Gx} {mm : Nat → Nat → Int32} {lm : Nat → Int64} {x1 : Int32} {x2 : Int32} {x3 : Int32} {o : Ou} {z : Wd} {a b : Nat} (hw : ∃ (v2 : Int32), Ct G M_X10_swings [.ref 63, .int x1] (SH, mm, lm) false (.inl (some (.int v2))) (SH, mm, lm) false 0 0 ∧ ((¬ v2 = 0) → J G M_X10_strikes 64 [(0, .ref 63), (1, .int x1), (3, .int x3), (4, .int 0), (5, .int x2)] [] (SH, mm, lm) false o z false a b) ∧ ((v2 = 0) → o = .inl (some (.int (-2))) ∧ z = (SH, mm, lm))) :
    J G M_X10_strikes 47 [(0, .ref 63), (1, .int x1), (2, .int x2), (3, .int x3)] [] (SH, mm, lm) false o z false a b := by
  refine J_aload_n rfl (i := 0) rfl dX10_strikes_47 ?_
  refine J_iload_n rfl (i := 1) rfl dX10_strikes_48 ?_
  obtain ⟨v2, hc1, hw⟩ := hw
  refine J_callV (as := [.int x1]) (k := 63) (st := []) cal_X10_swings cai_X10_swings gw_1862 ⟨by decide, by decide⟩ cnt_X10_swings sh_63 rfl rfl (Nat.le_of_ble_eq_true rfl) dX10_strikes_49 (Nat.zero_add _).symm (Nat.zero_add _).symm hc1 ?_
  refine J_if_ne (tgt := 58) dX10_strikes_52 (by decide) (fun hb4 => ?_) (fun hb4 => ?_)
  · replace hw := hw.1 hb4
    refine J_iconst (v := 0) (by decide) dX10_strikes_58 ?_
    refine J_istore [(4, .int 0), (0, .ref 63), (1, .int x1), (2, .int x2), (3, .int x3)] (i := 4) (by decide) rfl dX10_strikes_59 ?_
    refine J_iload_n rfl (i := 2) rfl dX10_strikes_61 ?_
    refine J_istore [(5, .int x2), (4, .int 0), (0, .ref 63), (1, .int x1), (2, .int x2), (3, .int x3)] (i := 5) (by decide) rfl dX10_strikes_62 ?_
    exact J_sub [2, 3, 5, 1, 0] rfl hw
  · replace hw := hw.2 hb4
    refine J_bipush (v := (-2)) (by decide) dX10_strikes_55 ?_
    exact J_fini (ty := .int) rfl rfl dX10_strikes_57 hw
set_option maxRecDepth 20000 in
theorem bX10_strikes_64 {G : Gx} {mm : Nat → Nat → Int32} {lm : Nat → Int64} {x1 : Int32} {x3 : Int32} {x4 : Int32} {x5 : Int32} {o : Ou} {z : Wd} {a b : Nat} (hw : ((x3 < x5) → o = .inl (some (.int x4)) ∧ z = (SH, mm, lm)) ∧ ((¬ x3 < x5) → ∃ (v2 : Int32), Ct G M_X10_strikesAt [.ref 63, .int x1, .int x5] (SH, mm, lm) false (.inl (some (.int v2))) (SH, mm, lm) false 0 0 ∧ ((v2 = 0) → J G M_X10_strikes 64 [(0, .ref 63), (1, .int x1), (3, .int x3), (4, .int (x4 + 0)), (5, .int (x5 + 1))] [] (SH, mm, lm) false o z false a b) ∧ ((¬ v2 = 0) → J G M_X10_strikes 64 [(0, .ref 63), (1, .int x1), (3, .int x3), (4, .int (x4 + 1)), (5, .int (x5 + 1))] [] (SH, mm, lm) false o z false a b))) :
    J G M_X10_strikes 64 [(0, .ref 63), (1, .int x1), (3, .int x3), (4, .int x4), (5, .int x5)] [] (SH, mm, lm) false o z false a b := by
  refine J_iload (i := 5) rfl dX10_strikes_64 ?_
  refine J_iload_n rfl (i := 3) rfl dX10_strikes_66 ?_
  refine J_icmp_gt (tgt := 96) dX10_strikes_67 (by decide) (fun hb5 => ?_) (fun hb5 => ?_)
  · replace hw := hw.1 hb5
    refine J_iload (i := 4) rfl dX10_strikes_96 ?_
    exact J_fini (ty := .int) rfl rfl dX10_strikes_98 hw
  · replace hw := hw.2 hb5
    refine J_iload (i := 4) rfl dX10_strikes_70 ?_
    refine J_aload_n rfl (i := 0) rfl dX10_strikes_72 ?_
    refine J_iload_n rfl (i := 1) rfl dX10_strikes_73 ?_
    refine J_iload (i := 5) rfl dX10_strikes_74 ?_
    obtain ⟨v2, hc1, hw⟩ := hw
    refine J_callV (as := [.int x1, .int x5]) (k := 63) (st := [.int x4]) cal_X10_strikesAt cai_X10_strikesAt gw_1927 ⟨by decide, by decide⟩ cnt_X10_strikesAt sh_63 rfl rfl (Nat.le_of_ble_eq_true rfl) dX10_strikes_76 (Nat.zero_add _).symm (Nat.zero_add _).symm hc1 ?_
    refine J_if_eq (tgt := 86) dX10_strikes_79 (by decide) (fun hb4 => ?_) (fun hb4 => ?_)
    · replace hw := hw.1 hb4
      refine J_iconst (v := 0) (by decide) dX10_strikes_86 ?_
      refine J_iadd dX10_strikes_87 ?_
      refine J_istore [(4, .int (x4 + 0)), (0, .ref 63), (1, .int x1), (3, .int x3), (5, .int x5)] (i := 4) (by decide) rfl dX10_strikes_88 ?_
      refine J_iinc [(5, .int (x5 + 1)), (4, .int (x4 + 0)), (0, .ref 63), (1, .int x1), (3, .int x3)] (i := 5) (v := (x5 + 1)) rfl rfl (by decide) rfl dX10_strikes_90 ?_
      refine J_goto (tgt := 64) dX10_strikes_93 (by decide) ?_
      exact J_sub [2, 3, 4, 1, 0] rfl hw
    · replace hw := hw.2 hb4
      refine J_iconst (v := 1) (by decide) dX10_strikes_82 ?_
      refine J_goto (tgt := 87) dX10_strikes_83 (by decide) ?_
      refine J_iadd dX10_strikes_87 ?_
      refine J_istore [(4, .int (x4 + 1)), (0, .ref 63), (1, .int x1), (3, .int x3), (5, .int x5)] (i := 4) (by decide) rfl dX10_strikes_88 ?_
      refine J_iinc [(5, .int (x5 + 1)), (4, .int (x4 + 1)), (0, .ref 63), (1, .int x1), (3, .int x3)] (i := 5) (v := (x5 + 1)) rfl rfl (by decide) rfl dX10_strikes_90 ?_
      refine J_goto (tgt := 64) dX10_strikes_93 (by decide) ?_
      exact J_sub [2, 3, 4, 1, 0] rfl hw
theorem dX10_strikeTogether_0 : decode cX10_strikeTogether 0 = .ok (.aload_n 0, 1) := by decide +kernel
theorem dX10_strikeTogether_1 : decode cX10_strikeTogether 1 = .ok (.aload_n 0, 1) := by decide +kernel
theorem dX10_strikeTogether_2 : decode cX10_strikeTogether 2 = .ok (.iload_n 1, 1) := by decide +kernel
theorem dX10_strikeTogether_3 : decode cX10_strikeTogether 3 = .ok (.invokevirtual 235, 3) := by decide +kernel
theorem dX10_strikeTogether_6 : decode cX10_strikeTogether 6 = .ok (.ifCond .eq 15, 3) := by decide +kernel
theorem dX10_strikeTogether_9 : decode cX10_strikeTogether 9 = .ok (.aload_n 0, 1) := by decide +kernel
theorem dX10_strikeTogether_10 : decode cX10_strikeTogether 10 = .ok (.iload_n 2, 1) := by decide +kernel
theorem dX10_strikeTogether_11 : decode cX10_strikeTogether 11 = .ok (.invokevirtual 235, 3) := by decide +kernel
theorem dX10_strikeTogether_14 : decode cX10_strikeTogether 14 = .ok (.ifCond .eq 7, 3) := by decide +kernel
theorem dX10_strikeTogether_17 : decode cX10_strikeTogether 17 = .ok (.iconst 1, 1) := by decide +kernel
theorem dX10_strikeTogether_18 : decode cX10_strikeTogether 18 = .ok (.goto 4, 3) := by decide +kernel
theorem dX10_strikeTogether_21 : decode cX10_strikeTogether 21 = .ok (.iconst 0, 1) := by decide +kernel
theorem dX10_strikeTogether_22 : decode cX10_strikeTogether 22 = .ok (.invokevirtual 221, 3) := by decide +kernel
theorem dX10_strikeTogether_25 : decode cX10_strikeTogether 25 = .ok (.ifCond .eq 5, 3) := by decide +kernel
theorem dX10_strikeTogether_28 : decode cX10_strikeTogether 28 = .ok (.iconst 0, 1) := by decide +kernel
theorem dX10_strikeTogether_29 : decode cX10_strikeTogether 29 = .ok (.ireturn, 1) := by decide +kernel
theorem dX10_strikeTogether_30 : decode cX10_strikeTogether 30 = .ok (.aload_n 0, 1) := by decide +kernel
theorem dX10_strikeTogether_31 : decode cX10_strikeTogether 31 = .ok (.iload_n 1, 1) := by decide +kernel
theorem dX10_strikeTogether_32 : decode cX10_strikeTogether 32 = .ok (.invokevirtual 325, 3) := by decide +kernel
theorem dX10_strikeTogether_35 : decode cX10_strikeTogether 35 = .ok (.ifCond .eq 11, 3) := by decide +kernel
theorem dX10_strikeTogether_38 : decode cX10_strikeTogether 38 = .ok (.aload_n 0, 1) := by decide +kernel
theorem dX10_strikeTogether_39 : decode cX10_strikeTogether 39 = .ok (.iload_n 2, 1) := by decide +kernel
theorem dX10_strikeTogether_40 : decode cX10_strikeTogether 40 = .ok (.invokevirtual 325, 3) := by decide +kernel
theorem dX10_strikeTogether_43 : decode cX10_strikeTogether 43 = .ok (.ifCond .ne 6, 3) := by decide +kernel
theorem dX10_strikeTogether_46 : decode cX10_strikeTogether 46 = .ok (.bipush (-2), 2) := by decide +kernel
theorem dX10_strikeTogether_48 : decode cX10_strikeTogether 48 = .ok (.ireturn, 1) := by decide +kernel
theorem dX10_strikeTogether_49 : decode cX10_strikeTogether 49 = .ok (.iconst 0, 1) := by decide +kernel
theorem dX10_strikeTogether_50 : decode cX10_strikeTogether 50 = .ok (.istore_n 3, 1) := by decide +kernel
theorem dX10_strikeTogether_51 : decode cX10_strikeTogether 51 = .ok (.iload_n 3, 1) := by decide +kernel
theorem dX10_strikeTogether_52 : decode cX10_strikeTogether 52 = .ok (.sipush 9999, 3) := by decide +kernel
theorem dX10_strikeTogether_55 : decode cX10_strikeTogether 55 = .ok (.if_icmp .gt 29, 3) := by decide +kernel
theorem dX10_strikeTogether_58 : decode cX10_strikeTogether 58 = .ok (.aload_n 0, 1) := by decide +kernel
theorem dX10_strikeTogether_59 : decode cX10_strikeTogether 59 = .ok (.iload_n 1, 1) := by decide +kernel
theorem dX10_strikeTogether_60 : decode cX10_strikeTogether 60 = .ok (.iload_n 3, 1) := by decide +kernel
theorem dX10_strikeTogether_61 : decode cX10_strikeTogether 61 = .ok (.invokevirtual 357, 3) := by decide +kernel
theorem dX10_strikeTogether_64 : decode cX10_strikeTogether 64 = .ok (.ifCond .eq 14, 3) := by decide +kernel
theorem dX10_strikeTogether_67 : decode cX10_strikeTogether 67 = .ok (.aload_n 0, 1) := by decide +kernel
theorem dX10_strikeTogether_68 : decode cX10_strikeTogether 68 = .ok (.iload_n 2, 1) := by decide +kernel
theorem dX10_strikeTogether_69 : decode cX10_strikeTogether 69 = .ok (.iload_n 3, 1) := by decide +kernel
theorem dX10_strikeTogether_70 : decode cX10_strikeTogether 70 = .ok (.invokevirtual 357, 3) := by decide +kernel
theorem dX10_strikeTogether_73 : decode cX10_strikeTogether 73 = .ok (.ifCond .eq 5, 3) := by decide +kernel
theorem dX10_strikeTogether_76 : decode cX10_strikeTogether 76 = .ok (.iload_n 3, 1) := by decide +kernel
theorem dX10_strikeTogether_77 : decode cX10_strikeTogether 77 = .ok (.ireturn, 1) := by decide +kernel
theorem dX10_strikeTogether_78 : decode cX10_strikeTogether 78 = .ok (.iinc 3 1, 3) := by decide +kernel
theorem dX10_strikeTogether_81 : decode cX10_strikeTogether 81 = .ok (.goto (-30), 3) := by decide +kernel
theorem dX10_strikeTogether_84 : decode cX10_strikeTogether 84 = .ok (.bipush (-3), 2) := by decide +kernel
theorem dX10_strikeTogether_86 : decode cX10_strikeTogether 86 = .ok (.ireturn, 1) := by decide +kernel
set_option maxRecDepth 20000 in
theorem bX10_strikeTogether_0 {G : Gx} {mm : Nat → Nat → Int32} {lm : Nat → Int64} {x1 : Int32} {x2 : Int32} {o : Ou} {z : Wd} {a b : Nat} (hw : ∃ (v2 : Int32), Ct G M_X10_isBell [.ref 63, .int x1] (SH, mm, lm) false (.inl (some (.int v2))) (SH, mm, lm) false 0 0 ∧ ((v2 = 0) → ∃ (v5 : Int32) (m6 : Nat → Nat → Int32), Ct G M_X10_isWrong [.ref 63, .int 0] (SH, mm, lm) false (.inl (some (.int v5))) (SH, m6, lm) false 0 0 ∧ ((v5 = 0) → J G M_X10_strikeTogether 30 [(0, .ref 63), (1, .int x1), (2, .int x2)] [] (SH, m6, lm) false o z false a b) ∧ ((¬ v5 = 0) → o = .inl (some (.int 0)) ∧ z = (SH, m6, lm))) ∧ ((¬ v2 = 0) → ∃ (v9 : Int32), Ct G M_X10_isBell [.ref 63, .int x2] (SH, mm, lm) false (.inl (some (.int v9))) (SH, mm, lm) false 0 0 ∧ ((v9 = 0) → ∃ (v12 : Int32) (m13 : Nat → Nat → Int32), Ct G M_X10_isWrong [.ref 63, .int 0] (SH, mm, lm) false (.inl (some (.int v12))) (SH, m13, lm) false 0 0 ∧ ((v12 = 0) → J G M_X10_strikeTogether 30 [(0, .ref 63), (1, .int x1), (2, .int x2)] [] (SH, m13, lm) false o z false a b) ∧ ((¬ v12 = 0) → o = .inl (some (.int 0)) ∧ z = (SH, m13, lm))) ∧ ((¬ v9 = 0) → ∃ (v16 : Int32) (m17 : Nat → Nat → Int32), Ct G M_X10_isWrong [.ref 63, .int 1] (SH, mm, lm) false (.inl (some (.int v16))) (SH, m17, lm) false 0 0 ∧ ((v16 = 0) → J G M_X10_strikeTogether 30 [(0, .ref 63), (1, .int x1), (2, .int x2)] [] (SH, m17, lm) false o z false a b) ∧ ((¬ v16 = 0) → o = .inl (some (.int 0)) ∧ z = (SH, m17, lm))))) :
    J G M_X10_strikeTogether 0 [(0, .ref 63), (1, .int x1), (2, .int x2)] [] (SH, mm, lm) false o z false a b := by
  refine J_aload_n rfl (i := 0) rfl dX10_strikeTogether_0 ?_
  refine J_aload_n rfl (i := 0) rfl dX10_strikeTogether_1 ?_
  refine J_iload_n rfl (i := 1) rfl dX10_strikeTogether_2 ?_
  obtain ⟨v2, hc1, hw⟩ := hw
  refine J_callV (as := [.int x1]) (k := 63) (st := [.ref 63]) cal_X10_isBell cai_X10_isBell gw_1671 ⟨by decide, by decide⟩ cnt_X10_isBell sh_63 rfl rfl (Nat.le_of_ble_eq_true rfl) dX10_strikeTogether_3 (Nat.zero_add _).symm (Nat.zero_add _).symm hc1 ?_
  refine J_if_eq (tgt := 21) dX10_strikeTogether_6 (by decide) (fun hb20 => ?_) (fun hb20 => ?_)
  · replace hw := hw.1 hb20
    refine J_iconst (v := 0) (by decide) dX10_strikeTogether_21 ?_
    obtain ⟨v5, m6, hc4, hw⟩ := hw
    refine J_callV (as := [.int 0]) (k := 63) (st := []) cal_X10_isWrong cai_X10_isWrong gw_1663 ⟨by decide, by decide⟩ cnt_X10_isWrong sh_63 rfl rfl (Nat.le_of_ble_eq_true rfl) dX10_strikeTogether_22 (Nat.zero_add _).symm (Nat.zero_add _).symm hc4 ?_
    refine J_if_eq (tgt := 30) dX10_strikeTogether_25 (by decide) (fun hb7 => ?_) (fun hb7 => ?_)
    · replace hw := hw.1 hb7
      exact hw
    · replace hw := hw.2 hb7
      refine J_iconst (v := 0) (by decide) dX10_strikeTogether_28 ?_
      exact J_fini (ty := .int) rfl rfl dX10_strikeTogether_29 hw
  · replace hw := hw.2 hb20
    refine J_aload_n rfl (i := 0) rfl dX10_strikeTogether_9 ?_
    refine J_iload_n rfl (i := 2) rfl dX10_strikeTogether_10 ?_
    obtain ⟨v9, hc8, hw⟩ := hw
    refine J_callV (as := [.int x2]) (k := 63) (st := [.ref 63]) cal_X10_isBell cai_X10_isBell gw_1671 ⟨by decide, by decide⟩ cnt_X10_isBell sh_63 rfl rfl (Nat.le_of_ble_eq_true rfl) dX10_strikeTogether_11 (Nat.zero_add _).symm (Nat.zero_add _).symm hc8 ?_
    refine J_if_eq (tgt := 21) dX10_strikeTogether_14 (by decide) (fun hb19 => ?_) (fun hb19 => ?_)
    · replace hw := hw.1 hb19
      refine J_iconst (v := 0) (by decide) dX10_strikeTogether_21 ?_
      obtain ⟨v12, m13, hc11, hw⟩ := hw
      refine J_callV (as := [.int 0]) (k := 63) (st := []) cal_X10_isWrong cai_X10_isWrong gw_1663 ⟨by decide, by decide⟩ cnt_X10_isWrong sh_63 rfl rfl (Nat.le_of_ble_eq_true rfl) dX10_strikeTogether_22 (Nat.zero_add _).symm (Nat.zero_add _).symm hc11 ?_
      refine J_if_eq (tgt := 30) dX10_strikeTogether_25 (by decide) (fun hb14 => ?_) (fun hb14 => ?_)
      · replace hw := hw.1 hb14
        exact hw
      · replace hw := hw.2 hb14
        refine J_iconst (v := 0) (by decide) dX10_strikeTogether_28 ?_
        exact J_fini (ty := .int) rfl rfl dX10_strikeTogether_29 hw
    · replace hw := hw.2 hb19
      refine J_iconst (v := 1) (by decide) dX10_strikeTogether_17 ?_
      refine J_goto (tgt := 22) dX10_strikeTogether_18 (by decide) ?_
      obtain ⟨v16, m17, hc15, hw⟩ := hw
      refine J_callV (as := [.int 1]) (k := 63) (st := []) cal_X10_isWrong cai_X10_isWrong gw_1663 ⟨by decide, by decide⟩ cnt_X10_isWrong sh_63 rfl rfl (Nat.le_of_ble_eq_true rfl) dX10_strikeTogether_22 (Nat.zero_add _).symm (Nat.zero_add _).symm hc15 ?_
      refine J_if_eq (tgt := 30) dX10_strikeTogether_25 (by decide) (fun hb18 => ?_) (fun hb18 => ?_)
      · replace hw := hw.1 hb18
        exact hw
      · replace hw := hw.2 hb18
        refine J_iconst (v := 0) (by decide) dX10_strikeTogether_28 ?_
        exact J_fini (ty := .int) rfl rfl dX10_strikeTogether_29 hw
set_option maxRecDepth 20000 in
theorem bX10_strikeTogether_30 {G : Gx} {mm : Nat → Nat → Int32} {lm : Nat → Int64} {x1 : Int32} {x2 : Int32} {o : Ou} {z : Wd} {a b : Nat} (hw : ∃ (v2 : Int32), Ct G M_X10_swings [.ref 63, .int x1] (SH, mm, lm) false (.inl (some (.int v2))) (SH, mm, lm) false 0 0 ∧ ((v2 = 0) → o = .inl (some (.int (-2))) ∧ z = (SH, mm, lm)) ∧ ((¬ v2 = 0) → ∃ (v5 : Int32), Ct G M_X10_swings [.ref 63, .int x2] (SH, mm, lm) false (.inl (some (.int v5))) (SH, mm, lm) false 0 0 ∧ ((¬ v5 = 0) → J G M_X10_strikeTogether 51 [(0, .ref 63), (1, .int x1), (2, .int x2), (3, .int 0)] [] (SH, mm, lm) false o z false a b) ∧ ((v5 = 0) → o = .inl (some (.int (-2))) ∧ z = (SH, mm, lm)))) :
    J G M_X10_strikeTogether 30 [(0, .ref 63), (1, .int x1), (2, .int x2)] [] (SH, mm, lm) false o z false a b := by
  refine J_aload_n rfl (i := 0) rfl dX10_strikeTogether_30 ?_
  refine J_iload_n rfl (i := 1) rfl dX10_strikeTogether_31 ?_
  obtain ⟨v2, hc1, hw⟩ := hw
  refine J_callV (as := [.int x1]) (k := 63) (st := []) cal_X10_swings cai_X10_swings gw_1862 ⟨by decide, by decide⟩ cnt_X10_swings sh_63 rfl rfl (Nat.le_of_ble_eq_true rfl) dX10_strikeTogether_32 (Nat.zero_add _).symm (Nat.zero_add _).symm hc1 ?_
  refine J_if_eq (tgt := 46) dX10_strikeTogether_35 (by decide) (fun hb8 => ?_) (fun hb8 => ?_)
  · replace hw := hw.1 hb8
    refine J_bipush (v := (-2)) (by decide) dX10_strikeTogether_46 ?_
    exact J_fini (ty := .int) rfl rfl dX10_strikeTogether_48 hw
  · replace hw := hw.2 hb8
    refine J_aload_n rfl (i := 0) rfl dX10_strikeTogether_38 ?_
    refine J_iload_n rfl (i := 2) rfl dX10_strikeTogether_39 ?_
    obtain ⟨v5, hc4, hw⟩ := hw
    refine J_callV (as := [.int x2]) (k := 63) (st := []) cal_X10_swings cai_X10_swings gw_1862 ⟨by decide, by decide⟩ cnt_X10_swings sh_63 rfl rfl (Nat.le_of_ble_eq_true rfl) dX10_strikeTogether_40 (Nat.zero_add _).symm (Nat.zero_add _).symm hc4 ?_
    refine J_if_ne (tgt := 49) dX10_strikeTogether_43 (by decide) (fun hb7 => ?_) (fun hb7 => ?_)
    · replace hw := hw.1 hb7
      refine J_iconst (v := 0) (by decide) dX10_strikeTogether_49 ?_
      refine J_istore_n [(3, .int 0), (0, .ref 63), (1, .int x1), (2, .int x2)] rfl (i := 3) (by decide) rfl dX10_strikeTogether_50 ?_
      exact J_sub [1, 2, 3, 0] rfl hw
    · replace hw := hw.2 hb7
      refine J_bipush (v := (-2)) (by decide) dX10_strikeTogether_46 ?_
      exact J_fini (ty := .int) rfl rfl dX10_strikeTogether_48 hw
set_option maxRecDepth 20000 in
theorem bX10_strikeTogether_51 {G : Gx} {mm : Nat → Nat → Int32} {lm : Nat → Int64} {x1 : Int32} {x2 : Int32} {x3 : Int32} {o : Ou} {z : Wd} {a b : Nat} (hw : ((9999 < x3) → o = .inl (some (.int (-3))) ∧ z = (SH, mm, lm)) ∧ ((¬ 9999 < x3) → ∃ (v2 : Int32), Ct G M_X10_strikesAt [.ref 63, .int x1, .int x3] (SH, mm, lm) false (.inl (some (.int v2))) (SH, mm, lm) false 0 0 ∧ ((v2 = 0) → J G M_X10_strikeTogether 51 [(0, .ref 63), (1, .int x1), (2, .int x2), (3, .int (x3 + 1))] [] (SH, mm, lm) false o z false a b) ∧ ((¬ v2 = 0) → ∃ (v5 : Int32), Ct G M_X10_strikesAt [.ref 63, .int x2, .int x3] (SH, mm, lm) false (.inl (some (.int v5))) (SH, mm, lm) false 0 0 ∧ ((v5 = 0) → J G M_X10_strikeTogether 51 [(0, .ref 63), (1, .int x1), (2, .int x2), (3, .int (x3 + 1))] [] (SH, mm, lm) false o z false a b) ∧ ((¬ v5 = 0) → o = .inl (some (.int x3)) ∧ z = (SH, mm, lm))))) :
    J G M_X10_strikeTogether 51 [(0, .ref 63), (1, .int x1), (2, .int x2), (3, .int x3)] [] (SH, mm, lm) false o z false a b := by
  refine J_iload_n rfl (i := 3) rfl dX10_strikeTogether_51 ?_
  refine J_sipush (v := 9999) (by decide) dX10_strikeTogether_52 ?_
  refine J_icmp_gt (tgt := 84) dX10_strikeTogether_55 (by decide) (fun hb9 => ?_) (fun hb9 => ?_)
  · replace hw := hw.1 hb9
    refine J_bipush (v := (-3)) (by decide) dX10_strikeTogether_84 ?_
    exact J_fini (ty := .int) rfl rfl dX10_strikeTogether_86 hw
  · replace hw := hw.2 hb9
    refine J_aload_n rfl (i := 0) rfl dX10_strikeTogether_58 ?_
    refine J_iload_n rfl (i := 1) rfl dX10_strikeTogether_59 ?_
    refine J_iload_n rfl (i := 3) rfl dX10_strikeTogether_60 ?_
    obtain ⟨v2, hc1, hw⟩ := hw
    refine J_callV (as := [.int x1, .int x3]) (k := 63) (st := []) cal_X10_strikesAt cai_X10_strikesAt gw_1927 ⟨by decide, by decide⟩ cnt_X10_strikesAt sh_63 rfl rfl (Nat.le_of_ble_eq_true rfl) dX10_strikeTogether_61 (Nat.zero_add _).symm (Nat.zero_add _).symm hc1 ?_
    refine J_if_eq (tgt := 78) dX10_strikeTogether_64 (by decide) (fun hb8 => ?_) (fun hb8 => ?_)
    · replace hw := hw.1 hb8
      refine J_iinc [(3, .int (x3 + 1)), (0, .ref 63), (1, .int x1), (2, .int x2)] (i := 3) (v := (x3 + 1)) rfl rfl (by decide) rfl dX10_strikeTogether_78 ?_
      refine J_goto (tgt := 51) dX10_strikeTogether_81 (by decide) ?_
      exact J_sub [1, 2, 3, 0] rfl hw
    · replace hw := hw.2 hb8
      refine J_aload_n rfl (i := 0) rfl dX10_strikeTogether_67 ?_
      refine J_iload_n rfl (i := 2) rfl dX10_strikeTogether_68 ?_
      refine J_iload_n rfl (i := 3) rfl dX10_strikeTogether_69 ?_
      obtain ⟨v5, hc4, hw⟩ := hw
      refine J_callV (as := [.int x2, .int x3]) (k := 63) (st := []) cal_X10_strikesAt cai_X10_strikesAt gw_1927 ⟨by decide, by decide⟩ cnt_X10_strikesAt sh_63 rfl rfl (Nat.le_of_ble_eq_true rfl) dX10_strikeTogether_70 (Nat.zero_add _).symm (Nat.zero_add _).symm hc4 ?_
      refine J_if_eq (tgt := 78) dX10_strikeTogether_73 (by decide) (fun hb7 => ?_) (fun hb7 => ?_)
      · replace hw := hw.1 hb7
        refine J_iinc [(3, .int (x3 + 1)), (0, .ref 63), (1, .int x1), (2, .int x2)] (i := 3) (v := (x3 + 1)) rfl rfl (by decide) rfl dX10_strikeTogether_78 ?_
        refine J_goto (tgt := 51) dX10_strikeTogether_81 (by decide) ?_
        exact J_sub [1, 2, 3, 0] rfl hw
      · replace hw := hw.2 hb7
        refine J_iload_n rfl (i := 3) rfl dX10_strikeTogether_76 ?_
        exact J_fini (ty := .int) rfl rfl dX10_strikeTogether_77 hw
