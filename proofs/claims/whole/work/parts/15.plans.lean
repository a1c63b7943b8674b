/-! ===== decode rows and walks between cut points, by program (wip/gen/mk10.py) ===== -/
theorem dX4_countPlanned_0 : decode cX4_countPlanned 0 = .ok (.iconst 0, 1) := by decide +kernel
theorem dX4_countPlanned_1 : decode cX4_countPlanned 1 = .ok (.istore_n 1, 1) := by decide +kernel
theorem dX4_countPlanned_2 : decode cX4_countPlanned 2 = .ok (.iconst 0, 1) := by decide +kernel
theorem dX4_countPlanned_3 : decode cX4_countPlanned 3 = .ok (.istore_n 2, 1) := by decide +kernel
theorem dX4_countPlanned_4 : decode cX4_countPlanned 4 = .ok (.iload_n 2, 1) := by decide +kernel
theorem dX4_countPlanned_5 : decode cX4_countPlanned 5 = .ok (.aload_n 0, 1) := by decide +kernel
theorem dX4_countPlanned_6 : decode cX4_countPlanned 6 = .ok (.getfield 27, 3) := by decide +kernel
theorem dX4_countPlanned_9 : decode cX4_countPlanned 9 = .ok (.getfield 35, 3) := by decide +kernel
theorem dX4_countPlanned_12 : decode cX4_countPlanned 12 = .ok (.if_icmp .ge 24, 3) := by decide +kernel
theorem dX4_countPlanned_15 : decode cX4_countPlanned 15 = .ok (.aload_n 0, 1) := by decide +kernel
theorem dX4_countPlanned_16 : decode cX4_countPlanned 16 = .ok (.getfield 31, 3) := by decide +kernel
theorem dX4_countPlanned_19 : decode cX4_countPlanned 19 = .ok (.iload_n 2, 1) := by decide +kernel
theorem dX4_countPlanned_20 : decode cX4_countPlanned 20 = .ok (.aaload, 1) := by decide +kernel
theorem dX4_countPlanned_21 : decode cX4_countPlanned 21 = .ok (.invokevirtual 40, 3) := by decide +kernel
theorem dX4_countPlanned_24 : decode cX4_countPlanned 24 = .ok (.ifCond .eq 6, 3) := by decide +kernel
theorem dX4_countPlanned_27 : decode cX4_countPlanned 27 = .ok (.iinc 1 1, 3) := by decide +kernel
theorem dX4_countPlanned_30 : decode cX4_countPlanned 30 = .ok (.iinc 2 1, 3) := by decide +kernel
theorem dX4_countPlanned_33 : decode cX4_countPlanned 33 = .ok (.goto (-29), 3) := by decide +kernel
theorem dX4_countPlanned_36 : decode cX4_countPlanned 36 = .ok (.iload_n 1, 1) := by decide +kernel
theorem dX4_countPlanned_37 : decode cX4_countPlanned 37 = .ok (.ireturn, 1) := by decide +kernel
set_option maxRecDepth 20000 in
theorem bX4_countPlanned_0 {G : Gx} {mm : Nat → Nat → Int32} {lm : Nat → Int64}  {o : Ou} {z : Wd} {a b : Nat} (hw : J G M_X4_countPlanned 4 [(0, .ref 32), (1, .int 0), (2, .int 0)] [] (SH, mm, lm) false o z false a b) :
    J G M_X4_countPlanned 0 [(0, .ref 32)] [] (SH, mm, lm) false o z false a b := by
  refine J_iconst (v := 0) (by decide) dX4_countPlanned_0 ?_
  refine J_istore_n [(1, .int 0), (0, .ref 32)] rfl (i := 1) (by decide) rfl dX4_countPlanned_1 ?_
  refine J_iconst (v := 0) (by decide) dX4_countPlanned_2 ?_
  refine J_istore_n [(2, .int 0), (1, .int 0), (0, .ref 32)] rfl (i := 2) (by decide) rfl dX4_countPlanned_3 ?_
  exact J_sub [2, 1, 0] rfl hw
set_option maxRecDepth 20000 in
theorem bX4_countPlanned_4 {G : Gx} {mm : Nat → Nat → Int32} {lm : Nat → Int64} {x1 : Int32} {x2 : Int32} {o : Ou} {z : Wd} {a b : Nat} (hw : (((mm 4 9) ≤ x2) → o = .inl (some (.int x1)) ∧ z = (SH, mm, lm)) ∧ ((¬ (mm 4 9) ≤ x2) → ∃ j1 : Nat, x2 = nI j1 ∧ j1 < 8 ∧ ∃ (v3 : Int32), Ct G M_X0_hasPlan [.ref (23 + j1)] (SH, mm, lm) false (.inl (some (.int v3))) (SH, mm, lm) false 0 0 ∧ ((v3 = 0) → J G M_X4_countPlanned 4 [(0, .ref 32), (1, .int x1), (2, .int (x2 + 1))] [] (SH, mm, lm) false o z false a b) ∧ ((¬ v3 = 0) → J G M_X4_countPlanned 4 [(0, .ref 32), (1, .int (x1 + 1)), (2, .int (x2 + 1))] [] (SH, mm, lm) false o z false a b))) :
    J G M_X4_countPlanned 4 [(0, .ref 32), (1, .int x1), (2, .int x2)] [] (SH, mm, lm) false o z false a b := by
  refine J_iload_n rfl (i := 2) rfl dX4_countPlanned_4 ?_
  refine J_aload_n rfl (i := 0) rfl dX4_countPlanned_5 ?_
  refine J_getr kls_4 (q := 32) (k := 0) sh_32 (by decide) rfl gw_314 dX4_countPlanned_6 ?_
  refine J_geti kls_7 (q := 4) (k := 9) sh_4 (by decide) rfl gw_207 dX4_countPlanned_9 ?_
  refine J_icmp_ge (tgt := 36) dX4_countPlanned_12 (by decide) (fun hb6 => ?_) (fun hb6 => ?_)
  · replace hw := hw.1 hb6
    refine J_iload_n rfl (i := 1) rfl dX4_countPlanned_36 ?_
    exact J_fini (ty := .int) rfl rfl dX4_countPlanned_37 hw
  · replace hw := hw.2 hb6
    refine J_aload_n rfl (i := 0) rfl dX4_countPlanned_15 ?_
    refine J_getr kls_4 (q := 32) (k := 1) sh_32 (by decide) rfl gw_315 dX4_countPlanned_16 ?_
    refine J_iload_n rfl (i := 2) rfl dX4_countPlanned_19 ?_
    obtain ⟨j1, ej1, hj1, hw⟩ := hw
    refine J_aald (r := 23 + j1) sh_22 ej1 hj1 (by decide) (if_pos hj1) dX4_countPlanned_20 ?_
    obtain ⟨v3, hc2, hw⟩ := hw
    refine J_callV (as := []) (k := (23 + j1)) (st := []) cal_X0_hasPlan cai_X0_hasPlan gw_950 ⟨by decide, by decide⟩ cnt_X0_hasPlan (sh_b23 hj1) rfl rfl (Nat.le_of_ble_eq_true rfl) dX4_countPlanned_21 (Nat.zero_add _).symm (Nat.zero_add _).symm hc2 ?_
    refine J_if_eq (tgt := 30) dX4_countPlanned_24 (by decide) (fun hb5 => ?_) (fun hb5 => ?_)
    · replace hw := hw.1 hb5
      refine J_iinc [(2, .int (x2 + 1)), (0, .ref 32), (1, .int x1)] (i := 2) (v := (x2 + 1)) rfl rfl (by decide) rfl dX4_countPlanned_30 ?_
      refine J_goto (tgt := 4) dX4_countPlanned_33 (by decide) ?_
      exact J_sub [1, 2, 0] rfl hw
    · replace hw := hw.2 hb5
      refine J_iinc [(1, .int (x1 + 1)), (0, .ref 32), (2, .int x2)] (i := 1) (v := (x1 + 1)) rfl rfl (by decide) rfl dX4_countPlanned_27 ?_
      refine J_iinc [(2, .int (x2 + 1)), (1, .int (x1 + 1)), (0, .ref 32)] (i := 2) (v := (x2 + 1)) rfl rfl (by decide) rfl dX4_countPlanned_30 ?_
      refine J_goto (tgt := 4) dX4_countPlanned_33 (by decide) ?_
      exact J_sub [2, 1, 0] rfl hw
theorem dX4_countConflicts_0 : decode cX4_countConflicts 0 = .ok (.aload_n 0, 1) := by decide +kernel
theorem dX4_countConflicts_1 : decode cX4_countConflicts 1 = .ok (.aload_n 0, 1) := by decide +kernel
theorem dX4_countConflicts_2 : decode cX4_countConflicts 2 = .ok (.invokevirtual 46, 3) := by decide +kernel
theorem dX4_countConflicts_5 : decode cX4_countConflicts 5 = .ok (.invokevirtual 50, 3) := by decide +kernel
theorem dX4_countConflicts_8 : decode cX4_countConflicts 8 = .ok (.aload_n 0, 1) := by decide +kernel
theorem dX4_countConflicts_9 : decode cX4_countConflicts 9 = .ok (.invokevirtual 54, 3) := by decide +kernel
theorem dX4_countConflicts_12 : decode cX4_countConflicts 12 = .ok (.ireturn, 1) := by decide +kernel
set_option maxRecDepth 20000 in
theorem bX4_countConflicts_0 {G : Gx} {mm : Nat → Nat → Int32} {lm : Nat → Int64}  {o : Ou} {z : Wd} {a b : Nat} (hw : ∃ (v2 : Int32), Ct G M_X4_goalArrangement [.ref 32] (SH, mm, lm) false (.inl (some (.int v2))) (SH, mm, lm) false 0 0 ∧ ∃ (m6 : Nat → Nat → Int32), Ct G M_X4_arrange [.ref 32, .int v2] (SH, mm, lm) false (.inl none) (SH, m6, lm) false 0 0 ∧ ∃ (v8 : Int32), Ct G M_X4_conflictsThere [.ref 32] (SH, m6, lm) false (.inl (some (.int v8))) (SH, m6, lm) false 0 0 ∧ o = .inl (some (.int v8)) ∧ z = (SH, m6, lm)) :
    J G M_X4_countConflicts 0 [(0, .ref 32)] [] (SH, mm, lm) false o z false a b := by
  refine J_aload_n rfl (i := 0) rfl dX4_countConflicts_0 ?_
  refine J_aload_n rfl (i := 0) rfl dX4_countConflicts_1 ?_
  obtain ⟨v2, hc1, hw⟩ := hw
  refine J_callV (as := []) (k := 32) (st := [.ref 32]) cal_X4_goalArrangement cai_X4_goalArrangement gw_973 ⟨by decide, by decide⟩ cnt_X4_goalArrangement sh_32 rfl rfl (Nat.le_of_ble_eq_true rfl) dX4_countConflicts_2 (Nat.zero_add _).symm (Nat.zero_add _).symm hc1 ?_
  obtain ⟨m6, hc4, hw⟩ := hw
  refine J_callV (as := [.int v2]) (k := 32) (st := []) cal_X4_arrange cai_X4_arrange gw_985 ⟨by decide, by decide⟩ cnt_X4_arrange sh_32 rfl rfl (Nat.le_of_ble_eq_true rfl) dX4_countConflicts_5 (Nat.zero_add _).symm (Nat.zero_add _).symm hc4 ?_
  refine J_aload_n rfl (i := 0) rfl dX4_countConflicts_8 ?_
  obtain ⟨v8, hc7, hw⟩ := hw
  refine J_callV (as := []) (k := 32) (st := []) cal_X4_conflictsThere cai_X4_conflictsThere gw_995 ⟨by decide, by decide⟩ cnt_X4_conflictsThere sh_32 rfl rfl (Nat.le_of_ble_eq_true rfl) dX4_countConflicts_9 (Nat.zero_add _).symm (Nat.zero_add _).symm hc7 ?_
  exact J_fini (ty := .int) rfl rfl dX4_countConflicts_12 hw
theorem dX4_unbalancedBeams_0 : decode cX4_unbalancedBeams 0 = .ok (.aload_n 0, 1) := by decide +kernel
theorem dX4_unbalancedBeams_1 : decode cX4_unbalancedBeams 1 = .ok (.aload_n 0, 1) := by decide +kernel
theorem dX4_unbalancedBeams_2 : decode cX4_unbalancedBeams 2 = .ok (.invokevirtual 46, 3) := by decide +kernel
theorem dX4_unbalancedBeams_5 : decode cX4_unbalancedBeams 5 = .ok (.invokevirtual 50, 3) := by decide +kernel
theorem dX4_unbalancedBeams_8 : decode cX4_unbalancedBeams 8 = .ok (.aload_n 0, 1) := by decide +kernel
theorem dX4_unbalancedBeams_9 : decode cX4_unbalancedBeams 9 = .ok (.invokevirtual 57, 3) := by decide +kernel
theorem dX4_unbalancedBeams_12 : decode cX4_unbalancedBeams 12 = .ok (.ireturn, 1) := by decide +kernel
set_option maxRecDepth 20000 in
theorem bX4_unbalancedBeams_0 {G : Gx} {mm : Nat → Nat → Int32} {lm : Nat → Int64}  {o : Ou} {z : Wd} {a b : Nat} (hw : ∃ (v2 : Int32), Ct G M_X4_goalArrangement [.ref 32] (SH, mm, lm) false (.inl (some (.int v2))) (SH, mm, lm) false 0 0 ∧ ∃ (m6 : Nat → Nat → Int32), Ct G M_X4_arrange [.ref 32, .int v2] (SH, mm, lm) false (.inl none) (SH, m6, lm) false 0 0 ∧ ∃ (v8 : Int32), Ct G M_X4_unbalancedThere [.ref 32] (SH, m6, lm) false (.inl (some (.int v8))) (SH, m6, lm) false 0 0 ∧ o = .inl (some (.int v8)) ∧ z = (SH, m6, lm)) :
    J G M_X4_unbalancedBeams 0 [(0, .ref 32)] [] (SH, mm, lm) false o z false a b := by
  refine J_aload_n rfl (i := 0) rfl dX4_unbalancedBeams_0 ?_
  refine J_aload_n rfl (i := 0) rfl dX4_unbalancedBeams_1 ?_
  obtain ⟨v2, hc1, hw⟩ := hw
  refine J_callV (as := []) (k := 32) (st := [.ref 32]) cal_X4_goalArrangement cai_X4_goalArrangement gw_973 ⟨by decide, by decide⟩ cnt_X4_goalArrangement sh_32 rfl rfl (Nat.le_of_ble_eq_true rfl) dX4_unbalancedBeams_2 (Nat.zero_add _).symm (Nat.zero_add _).symm hc1 ?_
  obtain ⟨m6, hc4, hw⟩ := hw
  refine J_callV (as := [.int v2]) (k := 32) (st := []) cal_X4_arrange cai_X4_arrange gw_985 ⟨by decide, by decide⟩ cnt_X4_arrange sh_32 rfl rfl (Nat.le_of_ble_eq_true rfl) dX4_unbalancedBeams_5 (Nat.zero_add _).symm (Nat.zero_add _).symm hc4 ?_
  refine J_aload_n rfl (i := 0) rfl dX4_unbalancedBeams_8 ?_
  obtain ⟨v8, hc7, hw⟩ := hw
  refine J_callV (as := []) (k := 32) (st := []) cal_X4_unbalancedThere cai_X4_unbalancedThere gw_1011 ⟨by decide, by decide⟩ cnt_X4_unbalancedThere sh_32 rfl rfl (Nat.le_of_ble_eq_true rfl) dX4_unbalancedBeams_9 (Nat.zero_add _).symm (Nat.zero_add _).symm hc7 ?_
  exact J_fini (ty := .int) rfl rfl dX4_unbalancedBeams_12 hw
theorem dX4_findWay_0 : decode cX4_findWay 0 = .ok (.aload_n 0, 1) := by decide +kernel
theorem dX4_findWay_1 : decode cX4_findWay 1 = .ok (.invokevirtual 60, 3) := by decide +kernel
theorem dX4_findWay_4 : decode cX4_findWay 4 = .ok (.istore_n 1, 1) := by decide +kernel
theorem dX4_findWay_5 : decode cX4_findWay 5 = .ok (.aload_n 0, 1) := by decide +kernel
theorem dX4_findWay_6 : decode cX4_findWay 6 = .ok (.aload_n 0, 1) := by decide +kernel
theorem dX4_findWay_7 : decode cX4_findWay 7 = .ok (.invokevirtual 46, 3) := by decide +kernel
theorem dX4_findWay_10 : decode cX4_findWay 10 = .ok (.putfield 63, 3) := by decide +kernel
theorem dX4_findWay_13 : decode cX4_findWay 13 = .ok (.iconst 0, 1) := by decide +kernel
theorem dX4_findWay_14 : decode cX4_findWay 14 = .ok (.istore_n 2, 1) := by decide +kernel
theorem dX4_findWay_15 : decode cX4_findWay 15 = .ok (.iload_n 2, 1) := by decide +kernel
theorem dX4_findWay_16 : decode cX4_findWay 16 = .ok (.sipush 6561, 3) := by decide +kernel
theorem dX4_findWay_19 : decode cX4_findWay 19 = .ok (.if_icmp .ge 16, 3) := by decide +kernel
theorem dX4_findWay_22 : decode cX4_findWay 22 = .ok (.aload_n 0, 1) := by decide +kernel
theorem dX4_findWay_23 : decode cX4_findWay 23 = .ok (.getfield 11, 3) := by decide +kernel
theorem dX4_findWay_26 : decode cX4_findWay 26 = .ok (.iload_n 2, 1) := by decide +kernel
theorem dX4_findWay_27 : decode cX4_findWay 27 = .ok (.iconst (-1), 1) := by decide +kernel
theorem dX4_findWay_28 : decode cX4_findWay 28 = .ok (.iastore, 1) := by decide +kernel
theorem dX4_findWay_29 : decode cX4_findWay 29 = .ok (.iinc 2 1, 3) := by decide +kernel
theorem dX4_findWay_32 : decode cX4_findWay 32 = .ok (.goto (-17), 3) := by decide +kernel
theorem dX4_findWay_35 : decode cX4_findWay 35 = .ok (.aload_n 0, 1) := by decide +kernel
theorem dX4_findWay_36 : decode cX4_findWay 36 = .ok (.getfield 11, 3) := by decide +kernel
theorem dX4_findWay_39 : decode cX4_findWay 39 = .ok (.iload_n 1, 1) := by decide +kernel
theorem dX4_findWay_40 : decode cX4_findWay 40 = .ok (.bipush (-3), 2) := by decide +kernel
theorem dX4_findWay_42 : decode cX4_findWay 42 = .ok (.iastore, 1) := by decide +kernel
theorem dX4_findWay_43 : decode cX4_findWay 43 = .ok (.aload_n 0, 1) := by decide +kernel
theorem dX4_findWay_44 : decode cX4_findWay 44 = .ok (.getfield 15, 3) := by decide +kernel
theorem dX4_findWay_47 : decode cX4_findWay 47 = .ok (.iconst 0, 1) := by decide +kernel
theorem dX4_findWay_48 : decode cX4_findWay 48 = .ok (.iload_n 1, 1) := by decide +kernel
theorem dX4_findWay_49 : decode cX4_findWay 49 = .ok (.iastore, 1) := by decide +kernel
theorem dX4_findWay_50 : decode cX4_findWay 50 = .ok (.aload_n 0, 1) := by decide +kernel
theorem dX4_findWay_51 : decode cX4_findWay 51 = .ok (.iconst 1, 1) := by decide +kernel
theorem dX4_findWay_52 : decode cX4_findWay 52 = .ok (.putfield 66, 3) := by decide +kernel
theorem dX4_findWay_55 : decode cX4_findWay 55 = .ok (.aload_n 0, 1) := by decide +kernel
theorem dX4_findWay_56 : decode cX4_findWay 56 = .ok (.aload_n 0, 1) := by decide +kernel
theorem dX4_findWay_57 : decode cX4_findWay 57 = .ok (.getfield 63, 3) := by decide +kernel
theorem dX4_findWay_60 : decode cX4_findWay 60 = .ok (.invokevirtual 69, 3) := by decide +kernel
theorem dX4_findWay_63 : decode cX4_findWay 63 = .ok (.ifCond .ne 5, 3) := by decide +kernel
theorem dX4_findWay_66 : decode cX4_findWay 66 = .ok (.iconst 0, 1) := by decide +kernel
theorem dX4_findWay_67 : decode cX4_findWay 67 = .ok (.ireturn, 1) := by decide +kernel
theorem dX4_findWay_68 : decode cX4_findWay 68 = .ok (.iconst 0, 1) := by decide +kernel
theorem dX4_findWay_69 : decode cX4_findWay 69 = .ok (.istore_n 2, 1) := by decide +kernel
theorem dX4_findWay_70 : decode cX4_findWay 70 = .ok (.iload_n 2, 1) := by decide +kernel
theorem dX4_findWay_71 : decode cX4_findWay 71 = .ok (.aload_n 0, 1) := by decide +kernel
theorem dX4_findWay_72 : decode cX4_findWay 72 = .ok (.getfield 66, 3) := by decide +kernel
theorem dX4_findWay_75 : decode cX4_findWay 75 = .ok (.if_icmp .ge 37, 3) := by decide +kernel
theorem dX4_findWay_78 : decode cX4_findWay 78 = .ok (.iload_n 2, 1) := by decide +kernel
theorem dX4_findWay_79 : decode cX4_findWay 79 = .ok (.sipush 6561, 3) := by decide +kernel
theorem dX4_findWay_82 : decode cX4_findWay 82 = .ok (.if_icmp .ge 30, 3) := by decide +kernel
theorem dX4_findWay_85 : decode cX4_findWay 85 = .ok (.aload_n 0, 1) := by decide +kernel
theorem dX4_findWay_86 : decode cX4_findWay 86 = .ok (.aload_n 0, 1) := by decide +kernel
theorem dX4_findWay_87 : decode cX4_findWay 87 = .ok (.getfield 63, 3) := by decide +kernel
theorem dX4_findWay_90 : decode cX4_findWay 90 = .ok (.invokevirtual 73, 3) := by decide +kernel
theorem dX4_findWay_93 : decode cX4_findWay 93 = .ok (.ifCond .ne 19, 3) := by decide +kernel
theorem dX4_findWay_96 : decode cX4_findWay 96 = .ok (.aload_n 0, 1) := by decide +kernel
theorem dX4_findWay_97 : decode cX4_findWay 97 = .ok (.aload_n 0, 1) := by decide +kernel
theorem dX4_findWay_98 : decode cX4_findWay 98 = .ok (.getfield 15, 3) := by decide +kernel
theorem dX4_findWay_101 : decode cX4_findWay 101 = .ok (.iload_n 2, 1) := by decide +kernel
theorem dX4_findWay_102 : decode cX4_findWay 102 = .ok (.iaload, 1) := by decide +kernel
theorem dX4_findWay_103 : decode cX4_findWay 103 = .ok (.invokevirtual 76, 3) := by decide +kernel
theorem dX4_findWay_106 : decode cX4_findWay 106 = .ok (.iinc 2 1, 3) := by decide +kernel
theorem dX4_findWay_109 : decode cX4_findWay 109 = .ok (.goto (-39), 3) := by decide +kernel
theorem dX4_findWay_112 : decode cX4_findWay 112 = .ok (.aload_n 0, 1) := by decide +kernel
theorem dX4_findWay_113 : decode cX4_findWay 113 = .ok (.aload_n 0, 1) := by decide +kernel
theorem dX4_findWay_114 : decode cX4_findWay 114 = .ok (.getfield 63, 3) := by decide +kernel
theorem dX4_findWay_117 : decode cX4_findWay 117 = .ok (.invokevirtual 73, 3) := by decide +kernel
theorem dX4_findWay_120 : decode cX4_findWay 120 = .ok (.ireturn, 1) := by decide +kernel
set_option maxRecDepth 20000 in
theorem bX4_findWay_0 {G : Gx} {mm : Nat → Nat → Int32} {lm : Nat → Int64}  {o : Ou} {z : Wd} {a b : Nat} (hw : ∃ (v2 : Int32), Ct G M_X4_presentArrangement [.ref 32] (SH, mm, lm) false (.inl (some (.int v2))) (SH, mm, lm) false 0 0 ∧ ∃ (v5 : Int32), Ct G M_X4_goalArrangement [.ref 32] (SH, mm, lm) false (.inl (some (.int v5))) (SH, mm, lm) false 0 0 ∧ J G M_X4_findWay 15 [(0, .ref 32), (1, .int v2), (2, .int 0)] [] (SH, (mset mm 32 8 v5), lm) false o z false a b) :
    J G M_X4_findWay 0 [(0, .ref 32)] [] (SH, mm, lm) false o z false a b := by
  refine J_aload_n rfl (i := 0) rfl dX4_findWay_0 ?_
  obtain ⟨v2, hc1, hw⟩ := hw
  refine J_callV (as := []) (k := 32) (st := []) cal_X4_presentArrangement cai_X4_presentArrangement gw_1027 ⟨by decide, by decide⟩ cnt_X4_presentArrangement sh_32 rfl rfl (Nat.le_of_ble_eq_true rfl) dX4_findWay_1 (Nat.zero_add _).symm (Nat.zero_add _).symm hc1 ?_
  refine J_istore_n [(1, .int v2), (0, .ref 32)] rfl (i := 1) (by decide) rfl dX4_findWay_4 ?_
  refine J_aload_n rfl (i := 0) rfl dX4_findWay_5 ?_
  refine J_aload_n rfl (i := 0) rfl dX4_findWay_6 ?_
  obtain ⟨v5, hc4, hw⟩ := hw
  refine J_callV (as := []) (k := 32) (st := [.ref 32]) cal_X4_goalArrangement cai_X4_goalArrangement gw_973 ⟨by decide, by decide⟩ cnt_X4_goalArrangement sh_32 rfl rfl (Nat.le_of_ble_eq_true rfl) dX4_findWay_7 (Nat.zero_add _).symm (Nat.zero_add _).symm hc4 ?_
  refine J_puti kls_4 (q := 32) (k := 8) sh_32 (by decide) rfl rfl (fun _ => rfl) (fun _ => rfl) gw_322 dX4_findWay_10 ?_
  refine J_iconst (v := 0) (by decide) dX4_findWay_13 ?_
  refine J_istore_n [(2, .int 0), (1, .int v2), (0, .ref 32)] rfl (i := 2) (by decide) rfl dX4_findWay_14 ?_
  exact J_sub [2, 1, 0] rfl hw
set_option maxRecDepth 20000 in
theorem bX4_findWay_15 {G : Gx} {mm : Nat → Nat → Int32} {lm : Nat → Int64} {x1 : Int32} {x2 : Int32} {o : Ou} {z : Wd} {a b : Nat} (hw : ((6561 ≤ x2) → ∃ j1 : Nat, x1 = nI j1 ∧ j1 < 6561 ∧ ∃ j2 : Nat, 0 = nI j2 ∧ j2 < 6561 ∧ ∃ (v4 : Int32) (m5 : Nat → Nat → Int32), Ct G M_X4_allowed [.ref 32, .int ((mset (mset (mset mm 33 j1 (-3)) 34 j2 x1) 32 7 1) 32 8)] (SH, (mset (mset (mset mm 33 j1 (-3)) 34 j2 x1) 32 7 1), lm) false (.inl (some (.int v4))) (SH, m5, lm) false 0 0 ∧ ((¬ v4 = 0) → J G M_X4_findWay 70 [(0, .ref 32), (2, .int 0)] [] (SH, m5, lm) false o z false a b) ∧ ((v4 = 0) → o = .inl (some (.int 0)) ∧ z = (SH, m5, lm))) ∧ ((¬ 6561 ≤ x2) → ∃ j7 : Nat, x2 = nI j7 ∧ j7 < 6561 ∧ J G M_X4_findWay 15 [(0, .ref 32), (1, .int x1), (2, .int (x2 + 1))] [] (SH, (mset mm 33 j7 (-1)), lm) false o z false a b)) :
    J G M_X4_findWay 15 [(0, .ref 32), (1, .int x1), (2, .int x2)] [] (SH, mm, lm) false o z false a b := by
  refine J_iload_n rfl (i := 2) rfl dX4_findWay_15 ?_
  refine J_sipush (v := 6561) (by decide) dX4_findWay_16 ?_
  refine J_icmp_ge (tgt := 35) dX4_findWay_19 (by decide) (fun hb8 => ?_) (fun hb8 => ?_)
  · replace hw := hw.1 hb8
    refine J_aload_n rfl (i := 0) rfl dX4_findWay_35 ?_
    refine J_getr kls_4 (q := 32) (k := 2) sh_32 (by decide) rfl gw_316 dX4_findWay_36 ?_
    refine J_iload_n rfl (i := 1) rfl dX4_findWay_39 ?_
    refine J_bipush (v := (-3)) (by decide) dX4_findWay_40 ?_
    obtain ⟨j1, ej1, hj1, hw⟩ := hw
    refine J_iast sh_33 ej1 hj1 (by decide) dX4_findWay_42 ?_
    refine J_aload_n rfl (i := 0) rfl dX4_findWay_43 ?_
    refine J_getr kls_4 (q := 32) (k := 3) sh_32 (by decide) rfl gw_317 dX4_findWay_44 ?_
    refine J_iconst (v := 0) (by decide) dX4_findWay_47 ?_
    refine J_iload_n rfl (i := 1) rfl dX4_findWay_48 ?_
    obtain ⟨j2, ej2, hj2, hw⟩ := hw
    refine J_iast sh_34 ej2 hj2 (by decide) dX4_findWay_49 ?_
    refine J_aload_n rfl (i := 0) rfl dX4_findWay_50 ?_
    refine J_iconst (v := 1) (by decide) dX4_findWay_51 ?_
    refine J_puti kls_4 (q := 32) (k := 7) sh_32 (by decide) rfl rfl (fun _ => rfl) (fun _ => rfl) gw_321 dX4_findWay_52 ?_
    refine J_aload_n rfl (i := 0) rfl dX4_findWay_55 ?_
    refine J_aload_n rfl (i := 0) rfl dX4_findWay_56 ?_
    refine J_geti kls_4 (q := 32) (k := 8) sh_32 (by decide) rfl gw_322 dX4_findWay_57 ?_
    obtain ⟨v4, m5, hc3, hw⟩ := hw
    refine J_callV (as := [.int ((mset (mset (mset mm 33 j1 (-3)) 34 j2 x1) 32 7 1) 32 8)]) (k := 32) (st := []) cal_X4_allowed cai_X4_allowed gw_1031 ⟨by decide, by decide⟩ cnt_X4_allowed sh_32 rfl rfl (Nat.le_of_ble_eq_true rfl) dX4_findWay_60 (Nat.zero_add _).symm (Nat.zero_add _).symm hc3 ?_
    refine J_if_ne (tgt := 68) dX4_findWay_63 (by decide) (fun hb6 => ?_) (fun hb6 => ?_)
    · replace hw := hw.1 hb6
      refine J_iconst (v := 0) (by decide) dX4_findWay_68 ?_
      refine J_istore_n [(2, .int 0), (0, .ref 32), (1, .int x1)] rfl (i := 2) (by decide) rfl dX4_findWay_69 ?_
      exact J_sub [1, 0] rfl hw
    · replace hw := hw.2 hb6
      refine J_iconst (v := 0) (by decide) dX4_findWay_66 ?_
      exact J_fini (ty := .boolean) rfl rfl dX4_findWay_67 hw
  · replace hw := hw.2 hb8
    refine J_aload_n rfl (i := 0) rfl dX4_findWay_22 ?_
    refine J_getr kls_4 (q := 32) (k := 2) sh_32 (by decide) rfl gw_316 dX4_findWay_23 ?_
    refine J_iload_n rfl (i := 2) rfl dX4_findWay_26 ?_
    refine J_iconst (v := (-1)) (by decide) dX4_findWay_27 ?_
    obtain ⟨j7, ej7, hj7, hw⟩ := hw
    refine J_iast sh_33 ej7 hj7 (by decide) dX4_findWay_28 ?_
    refine J_iinc [(2, .int (x2 + 1)), (0, .ref 32), (1, .int x1)] (i := 2) (v := (x2 + 1)) rfl rfl (by decide) rfl dX4_findWay_29 ?_
    refine J_goto (tgt := 15) dX4_findWay_32 (by decide) ?_
    exact J_sub [1, 2, 0] rfl hw
set_option maxRecDepth 20000 in
theorem bX4_findWay_70 {G : Gx} {mm : Nat → Nat → Int32} {lm : Nat → Int64} {x2 : Int32} {o : Ou} {z : Wd} {a b : Nat} (hw : (((mm 32 7) ≤ x2) → ∃ (v2 : Int32), Ct G M_X4_isReached [.ref 32, .int (mm 32 8)] (SH, mm, lm) false (.inl (some (.int v2))) (SH, mm, lm) false 0 0 ∧ narrow .boolean (.int v2) = .int v2 ∧ o = .inl (some (.int v2)) ∧ z = (SH, mm, lm)) ∧ ((¬ (mm 32 7) ≤ x2) → ((6561 ≤ x2) → ∃ (v5 : Int32), Ct G M_X4_isReached [.ref 32, .int (mm 32 8)] (SH, mm, lm) false (.inl (some (.int v5))) (SH, mm, lm) false 0 0 ∧ narrow .boolean (.int v5) = .int v5 ∧ o = .inl (some (.int v5)) ∧ z = (SH, mm, lm)) ∧ ((¬ 6561 ≤ x2) → ∃ (v8 : Int32), Ct G M_X4_isReached [.ref 32, .int (mm 32 8)] (SH, mm, lm) false (.inl (some (.int v8))) (SH, mm, lm) false 0 0 ∧ ((¬ v8 = 0) → ∃ (v11 : Int32), Ct G M_X4_isReached [.ref 32, .int (mm 32 8)] (SH, mm, lm) false (.inl (some (.int v11))) (SH, mm, lm) false 0 0 ∧ narrow .boolean (.int v11) = .int v11 ∧ o = .inl (some (.int v11)) ∧ z = (SH, mm, lm)) ∧ ((v8 = 0) → ∃ j13 : Nat, x2 = nI j13 ∧ j13 < 6561 ∧ ∃ (m16 : Nat → Nat → Int32), Ct G M_X4_stepFrom [.ref 32, .int (mm 34 j13)] (SH, mm, lm) false (.inl none) (SH, m16, lm) false 0 0 ∧ J G M_X4_findWay 70 [(0, .ref 32), (2, .int (x2 + 1))] [] (SH, m16, lm) false o z false a b)))) :
    J G M_X4_findWay 70 [(0, .ref 32), (2, .int x2)] [] (SH, mm, lm) false o z false a b := by
  refine J_iload_n rfl (i := 2) rfl dX4_findWay_70 ?_
  refine J_aload_n rfl (i := 0) rfl dX4_findWay_71 ?_
  refine J_geti kls_4 (q := 32) (k := 7) sh_32 (by decide) rfl gw_321 dX4_findWay_72 ?_
  refine J_icmp_ge (tgt := 112) dX4_findWay_75 (by decide) (fun hb19 => ?_) (fun hb19 => ?_)
  · replace hw := hw.1 hb19
    refine J_aload_n rfl (i := 0) rfl dX4_findWay_112 ?_
    refine J_aload_n rfl (i := 0) rfl dX4_findWay_113 ?_
    refine J_geti kls_4 (q := 32) (k := 8) sh_32 (by decide) rfl gw_322 dX4_findWay_114 ?_
    obtain ⟨v2, hc1, hw⟩ := hw
    refine J_callV (as := [.int (mm 32 8)]) (k := 32) (st := []) cal_X4_isReached cai_X4_isReached gw_1035 ⟨by decide, by decide⟩ cnt_X4_isReached sh_32 rfl rfl (Nat.le_of_ble_eq_true rfl) dX4_findWay_117 (Nat.zero_add _).symm (Nat.zero_add _).symm hc1 ?_
    exact J_fini (ty := .boolean) rfl hw.1 dX4_findWay_120 hw.2
  · replace hw := hw.2 hb19
    refine J_iload_n rfl (i := 2) rfl dX4_findWay_78 ?_
    refine J_sipush (v := 6561) (by decide) dX4_findWay_79 ?_
    refine J_icmp_ge (tgt := 112) dX4_findWay_82 (by decide) (fun hb18 => ?_) (fun hb18 => ?_)
    · replace hw := hw.1 hb18
      refine J_aload_n rfl (i := 0) rfl dX4_findWay_112 ?_
      refine J_aload_n rfl (i := 0) rfl dX4_findWay_113 ?_
      refine J_geti kls_4 (q := 32) (k := 8) sh_32 (by decide) rfl gw_322 dX4_findWay_114 ?_
      obtain ⟨v5, hc4, hw⟩ := hw
      refine J_callV (as := [.int (mm 32 8)]) (k := 32) (st := []) cal_X4_isReached cai_X4_isReached gw_1035 ⟨by decide, by decide⟩ cnt_X4_isReached sh_32 rfl rfl (Nat.le_of_ble_eq_true rfl) dX4_findWay_117 (Nat.zero_add _).symm (Nat.zero_add _).symm hc4 ?_
      exact J_fini (ty := .boolean) rfl hw.1 dX4_findWay_120 hw.2
    · replace hw := hw.2 hb18
      refine J_aload_n rfl (i := 0) rfl dX4_findWay_85 ?_
      refine J_aload_n rfl (i := 0) rfl dX4_findWay_86 ?_
      refine J_geti kls_4 (q := 32) (k := 8) sh_32 (by decide) rfl gw_322 dX4_findWay_87 ?_
      obtain ⟨v8, hc7, hw⟩ := hw
      refine J_callV (as := [.int (mm 32 8)]) (k := 32) (st := []) cal_X4_isReached cai_X4_isReached gw_1035 ⟨by decide, by decide⟩ cnt_X4_isReached sh_32 rfl rfl (Nat.le_of_ble_eq_true rfl) dX4_findWay_90 (Nat.zero_add _).symm (Nat.zero_add _).symm hc7 ?_
      refine J_if_ne (tgt := 112) dX4_findWay_93 (by decide) (fun hb17 => ?_) (fun hb17 => ?_)
      · replace hw := hw.1 hb17
        refine J_aload_n rfl (i := 0) rfl dX4_findWay_112 ?_
        refine J_aload_n rfl (i := 0) rfl dX4_findWay_113 ?_
        refine J_geti kls_4 (q := 32) (k := 8) sh_32 (by decide) rfl gw_322 dX4_findWay_114 ?_
        obtain ⟨v11, hc10, hw⟩ := hw
        refine J_callV (as := [.int (mm 32 8)]) (k := 32) (st := []) cal_X4_isReached cai_X4_isReached gw_1035 ⟨by decide, by decide⟩ cnt_X4_isReached sh_32 rfl rfl (Nat.le_of_ble_eq_true rfl) dX4_findWay_117 (Nat.zero_add _).symm (Nat.zero_add _).symm hc10 ?_
        exact J_fini (ty := .boolean) rfl hw.1 dX4_findWay_120 hw.2
      · replace hw := hw.2 hb17
        refine J_aload_n rfl (i := 0) rfl dX4_findWay_96 ?_
        refine J_aload_n rfl (i := 0) rfl dX4_findWay_97 ?_
        refine J_getr kls_4 (q := 32) (k := 3) sh_32 (by decide) rfl gw_317 dX4_findWay_98 ?_
        refine J_iload_n rfl (i := 2) rfl dX4_findWay_101 ?_
        obtain ⟨j13, ej13, hj13, hw⟩ := hw
        refine J_iald sh_34 ej13 hj13 (by decide) dX4_findWay_102 ?_
        obtain ⟨m16, hc14, hw⟩ := hw
        refine J_callV (as := [.int (mm 34 j13)]) (k := 32) (st := []) cal_X4_stepFrom cai_X4_stepFrom gw_1039 ⟨by decide, by decide⟩ cnt_X4_stepFrom sh_32 rfl rfl (Nat.le_of_ble_eq_true rfl) dX4_findWay_103 (Nat.zero_add _).symm (Nat.zero_add _).symm hc14 ?_
        refine J_iinc [(2, .int (x2 + 1)), (0, .ref 32)] (i := 2) (v := (x2 + 1)) rfl rfl (by decide) rfl dX4_findWay_106 ?_
        refine J_goto (tgt := 70) dX4_findWay_109 (by decide) ?_
        exact J_sub [1, 0] rfl hw
theorem dX4_countSteps_0 : decode cX4_countSteps 0 = .ok (.iconst 0, 1) := by decide +kernel
theorem dX4_countSteps_1 : decode cX4_countSteps 1 = .ok (.istore_n 1, 1) := by decide +kernel
theorem dX4_countSteps_2 : decode cX4_countSteps 2 = .ok (.aload_n 0, 1) := by decide +kernel
theorem dX4_countSteps_3 : decode cX4_countSteps 3 = .ok (.getfield 63, 3) := by decide +kernel
theorem dX4_countSteps_6 : decode cX4_countSteps 6 = .ok (.istore_n 2, 1) := by decide +kernel
theorem dX4_countSteps_7 : decode cX4_countSteps 7 = .ok (.iload_n 1, 1) := by decide +kernel
theorem dX4_countSteps_8 : decode cX4_countSteps 8 = .ok (.sipush 6561, 3) := by decide +kernel
theorem dX4_countSteps_11 : decode cX4_countSteps 11 = .ok (.if_icmp .ge 28, 3) := by decide +kernel
theorem dX4_countSteps_14 : decode cX4_countSteps 14 = .ok (.aload_n 0, 1) := by decide +kernel
theorem dX4_countSteps_15 : decode cX4_countSteps 15 = .ok (.getfield 11, 3) := by decide +kernel
theorem dX4_countSteps_18 : decode cX4_countSteps 18 = .ok (.iload_n 2, 1) := by decide +kernel
theorem dX4_countSteps_19 : decode cX4_countSteps 19 = .ok (.iaload, 1) := by decide +kernel
theorem dX4_countSteps_20 : decode cX4_countSteps 20 = .ok (.ifCond .lt 19, 3) := by decide +kernel
theorem dX4_countSteps_23 : decode cX4_countSteps 23 = .ok (.aload_n 0, 1) := by decide +kernel
theorem dX4_countSteps_24 : decode cX4_countSteps 24 = .ok (.getfield 11, 3) := by decide +kernel
theorem dX4_countSteps_27 : decode cX4_countSteps 27 = .ok (.iload_n 2, 1) := by decide +kernel
theorem dX4_countSteps_28 : decode cX4_countSteps 28 = .ok (.iaload, 1) := by decide +kernel
theorem dX4_countSteps_29 : decode cX4_countSteps 29 = .ok (.bipush 32, 2) := by decide +kernel
theorem dX4_countSteps_31 : decode cX4_countSteps 31 = .ok (.idiv, 1) := by decide +kernel
theorem dX4_countSteps_32 : decode cX4_countSteps 32 = .ok (.istore_n 2, 1) := by decide +kernel
theorem dX4_countSteps_33 : decode cX4_countSteps 33 = .ok (.iinc 1 1, 3) := by decide +kernel
theorem dX4_countSteps_36 : decode cX4_countSteps 36 = .ok (.goto (-29), 3) := by decide +kernel
theorem dX4_countSteps_39 : decode cX4_countSteps 39 = .ok (.iload_n 1, 1) := by decide +kernel
theorem dX4_countSteps_40 : decode cX4_countSteps 40 = .ok (.ireturn, 1) := by decide +kernel
set_option maxRecDepth 20000 in
theorem bX4_countSteps_0 {G : Gx} {mm : Nat → Nat → Int32} {lm : Nat → Int64}  {o : Ou} {z : Wd} {a b : Nat} (hw : J G M_X4_countSteps 7 [(0, .ref 32), (1, .int 0), (2, .int (mm 32 8))] [] (SH, mm, lm) false o z false a b) :
    J G M_X4_countSteps 0 [(0, .ref 32)] [] (SH, mm, lm) false o z false a b := by
  refine J_iconst (v := 0) (by decide) dX4_countSteps_0 ?_
  refine J_istore_n [(1, .int 0), (0, .ref 32)] rfl (i := 1) (by decide) rfl dX4_countSteps_1 ?_
  refine J_aload_n rfl (i := 0) rfl dX4_countSteps_2 ?_
  refine J_geti kls_4 (q := 32) (k := 8) sh_32 (by decide) rfl gw_322 dX4_countSteps_3 ?_
  refine J_istore_n [(2, .int (mm 32 8)), (1, .int 0), (0, .ref 32)] rfl (i := 2) (by decide) rfl dX4_countSteps_6 ?_
  exact J_sub [2, 1, 0] rfl hw
set_option maxRecDepth 20000 in
theorem bX4_countSteps_7 {G : Gx} {mm : Nat → Nat → Int32} {lm : Nat → Int64} {x1 : Int32} {x2 : Int32} {o : Ou} {z : Wd} {a b : Nat} (hw : ((6561 ≤ x1) → o = .inl (some (.int x1)) ∧ z = (SH, mm, lm)) ∧ ((¬ 6561 ≤ x1) → ∃ j1 : Nat, x2 = nI j1 ∧ j1 < 6561 ∧ (((mm 33 j1) < 0) → o = .inl (some (.int x1)) ∧ z = (SH, mm, lm)) ∧ ((¬ (mm 33 j1) < 0) → ∃ j2 : Nat, x2 = nI j2 ∧ j2 < 6561 ∧ J G M_X4_countSteps 7 [(0, .ref 32), (1, .int (x1 + 1)), (2, .int ((mm 33 j2) / 32))] [] (SH, mm, lm) false o z false a b))) :
    J G M_X4_countSteps 7 [(0, .ref 32), (1, .int x1), (2, .int x2)] [] (SH, mm, lm) false o z false a b := by
  refine J_iload_n rfl (i := 1) rfl dX4_countSteps_7 ?_
  refine J_sipush (v := 6561) (by decide) dX4_countSteps_8 ?_
  refine J_icmp_ge (tgt := 39) dX4_countSteps_11 (by decide) (fun hb4 => ?_) (fun hb4 => ?_)
  · replace hw := hw.1 hb4
    refine J_iload_n rfl (i := 1) rfl dX4_countSteps_39 ?_
    exact J_fini (ty := .int) rfl rfl dX4_countSteps_40 hw
  · replace hw := hw.2 hb4
    refine J_aload_n rfl (i := 0) rfl dX4_countSteps_14 ?_
    refine J_getr kls_4 (q := 32) (k := 2) sh_32 (by decide) rfl gw_316 dX4_countSteps_15 ?_
    refine J_iload_n rfl (i := 2) rfl dX4_countSteps_18 ?_
    obtain ⟨j1, ej1, hj1, hw⟩ := hw
    refine J_iald sh_33 ej1 hj1 (by decide) dX4_countSteps_19 ?_
    refine J_if_lt (tgt := 39) dX4_countSteps_20 (by decide) (fun hb3 => ?_) (fun hb3 => ?_)
    · replace hw := hw.1 hb3
      refine J_iload_n rfl (i := 1) rfl dX4_countSteps_39 ?_
      exact J_fini (ty := .int) rfl rfl dX4_countSteps_40 hw
    · replace hw := hw.2 hb3
      refine J_aload_n rfl (i := 0) rfl dX4_countSteps_23 ?_
      refine J_getr kls_4 (q := 32) (k := 2) sh_32 (by decide) rfl gw_316 dX4_countSteps_24 ?_
      refine J_iload_n rfl (i := 2) rfl dX4_countSteps_27 ?_
      obtain ⟨j2, ej2, hj2, hw⟩ := hw
      refine J_iald sh_33 ej2 hj2 (by decide) dX4_countSteps_28 ?_
      refine J_bipush (v := 32) (by decide) dX4_countSteps_29 ?_
      refine J_idiv (by decide) dX4_countSteps_31 ?_
      refine J_istore_n [(2, .int ((mm 33 j2) / 32)), (0, .ref 32), (1, .int x1)] rfl (i := 2) (by decide) rfl dX4_countSteps_32 ?_
      refine J_iinc [(1, .int (x1 + 1)), (2, .int ((mm 33 j2) / 32)), (0, .ref 32)] (i := 1) (v := (x1 + 1)) rfl rfl (by decide) rfl dX4_countSteps_33 ?_
      refine J_goto (tgt := 7) dX4_countSteps_36 (by decide) ?_
      exact J_sub [2, 0, 1] rfl hw
theorem dX4_stepOfWay_0 : decode cX4_stepOfWay 0 = .ok (.aload_n 0, 1) := by decide +kernel
theorem dX4_stepOfWay_1 : decode cX4_stepOfWay 1 = .ok (.invokevirtual 79, 3) := by decide +kernel
theorem dX4_stepOfWay_4 : decode cX4_stepOfWay 4 = .ok (.iconst 1, 1) := by decide +kernel
theorem dX4_stepOfWay_5 : decode cX4_stepOfWay 5 = .ok (.isub, 1) := by decide +kernel
theorem dX4_stepOfWay_6 : decode cX4_stepOfWay 6 = .ok (.iload_n 1, 1) := by decide +kernel
theorem dX4_stepOfWay_7 : decode cX4_stepOfWay 7 = .ok (.isub, 1) := by decide +kernel
theorem dX4_stepOfWay_8 : decode cX4_stepOfWay 8 = .ok (.istore_n 2, 1) := by decide +kernel
theorem dX4_stepOfWay_9 : decode cX4_stepOfWay 9 = .ok (.iload_n 2, 1) := by decide +kernel
theorem dX4_stepOfWay_10 : decode cX4_stepOfWay 10 = .ok (.ifCond .ge 6, 3) := by decide +kernel
theorem dX4_stepOfWay_13 : decode cX4_stepOfWay 13 = .ok (.bipush (-3), 2) := by decide +kernel
theorem dX4_stepOfWay_15 : decode cX4_stepOfWay 15 = .ok (.ireturn, 1) := by decide +kernel
theorem dX4_stepOfWay_16 : decode cX4_stepOfWay 16 = .ok (.aload_n 0, 1) := by decide +kernel
theorem dX4_stepOfWay_17 : decode cX4_stepOfWay 17 = .ok (.getfield 63, 3) := by decide +kernel
theorem dX4_stepOfWay_20 : decode cX4_stepOfWay 20 = .ok (.istore_n 3, 1) := by decide +kernel
theorem dX4_stepOfWay_21 : decode cX4_stepOfWay 21 = .ok (.iconst 0, 1) := by decide +kernel
theorem dX4_stepOfWay_22 : decode cX4_stepOfWay 22 = .ok (.istore 4, 2) := by decide +kernel
theorem dX4_stepOfWay_24 : decode cX4_stepOfWay 24 = .ok (.iload 4, 2) := by decide +kernel
theorem dX4_stepOfWay_26 : decode cX4_stepOfWay 26 = .ok (.iload_n 2, 1) := by decide +kernel
theorem dX4_stepOfWay_27 : decode cX4_stepOfWay 27 = .ok (.if_icmp .ge 28, 3) := by decide +kernel
theorem dX4_stepOfWay_30 : decode cX4_stepOfWay 30 = .ok (.aload_n 0, 1) := by decide +kernel
theorem dX4_stepOfWay_31 : decode cX4_stepOfWay 31 = .ok (.getfield 11, 3) := by decide +kernel
theorem dX4_stepOfWay_34 : decode cX4_stepOfWay 34 = .ok (.iload_n 3, 1) := by decide +kernel
theorem dX4_stepOfWay_35 : decode cX4_stepOfWay 35 = .ok (.iaload, 1) := by decide +kernel
theorem dX4_stepOfWay_36 : decode cX4_stepOfWay 36 = .ok (.ifCond .lt 19, 3) := by decide +kernel
theorem dX4_stepOfWay_39 : decode cX4_stepOfWay 39 = .ok (.aload_n 0, 1) := by decide +kernel
theorem dX4_stepOfWay_40 : decode cX4_stepOfWay 40 = .ok (.getfield 11, 3) := by decide +kernel
theorem dX4_stepOfWay_43 : decode cX4_stepOfWay 43 = .ok (.iload_n 3, 1) := by decide +kernel
theorem dX4_stepOfWay_44 : decode cX4_stepOfWay 44 = .ok (.iaload, 1) := by decide +kernel
theorem dX4_stepOfWay_45 : decode cX4_stepOfWay 45 = .ok (.bipush 32, 2) := by decide +kernel
theorem dX4_stepOfWay_47 : decode cX4_stepOfWay 47 = .ok (.idiv, 1) := by decide +kernel
theorem dX4_stepOfWay_48 : decode cX4_stepOfWay 48 = .ok (.istore_n 3, 1) := by decide +kernel
theorem dX4_stepOfWay_49 : decode cX4_stepOfWay 49 = .ok (.iinc 4 1, 3) := by decide +kernel
theorem dX4_stepOfWay_52 : decode cX4_stepOfWay 52 = .ok (.goto (-28), 3) := by decide +kernel
theorem dX4_stepOfWay_55 : decode cX4_stepOfWay 55 = .ok (.aload_n 0, 1) := by decide +kernel
theorem dX4_stepOfWay_56 : decode cX4_stepOfWay 56 = .ok (.getfield 11, 3) := by decide +kernel
theorem dX4_stepOfWay_59 : decode cX4_stepOfWay 59 = .ok (.iload_n 3, 1) := by decide +kernel
theorem dX4_stepOfWay_60 : decode cX4_stepOfWay 60 = .ok (.iaload, 1) := by decide +kernel
theorem dX4_stepOfWay_61 : decode cX4_stepOfWay 61 = .ok (.bipush 32, 2) := by decide +kernel
theorem dX4_stepOfWay_63 : decode cX4_stepOfWay 63 = .ok (.irem, 1) := by decide +kernel
theorem dX4_stepOfWay_64 : decode cX4_stepOfWay 64 = .ok (.ireturn, 1) := by decide +kernel
set_option maxRecDepth 20000 in
theorem bX4_stepOfWay_0 {G : Gx} {mm : Nat → Nat → Int32} {lm : Nat → Int64} {x1 : Int32} {o : Ou} {z : Wd} {a b : Nat} (hw : ∃ (v2 : Int32), Ct G M_X4_countSteps [.ref 32] (SH, mm, lm) false (.inl (some (.int v2))) (SH, mm, lm) false 0 0 ∧ ((0 ≤ ((v2 - 1) - x1)) → J G M_X4_stepOfWay 24 [(0, .ref 32), (2, .int ((v2 - 1) - x1)), (3, .int (mm 32 8)), (4, .int 0)] [] (SH, mm, lm) false o z false a b) ∧ ((¬ 0 ≤ ((v2 - 1) - x1)) → o = .inl (some (.int (-3))) ∧ z = (SH, mm, lm))) :
    J G M_X4_stepOfWay 0 [(0, .ref 32), (1, .int x1)] [] (SH, mm, lm) false o z false a b := by
  refine J_aload_n rfl (i := 0) rfl dX4_stepOfWay_0 ?_
  obtain ⟨v2, hc1, hw⟩ := hw
  refine J_callV (as := []) (k := 32) (st := []) cal_X4_countSteps cai_X4_countSteps gw_1062 ⟨by decide, by decide⟩ cnt_X4_countSteps sh_32 rfl rfl (Nat.le_of_ble_eq_true rfl) dX4_stepOfWay_1 (Nat.zero_add _).symm (Nat.zero_add _).symm hc1 ?_
  refine J_iconst (v := 1) (by decide) dX4_stepOfWay_4 ?_
  refine J_isub dX4_stepOfWay_5 ?_
  refine J_iload_n rfl (i := 1) rfl dX4_stepOfWay_6 ?_
  refine J_isub dX4_stepOfWay_7 ?_
  refine J_istore_n [(2, .int ((v2 - 1) - x1)), (0, .ref 32), (1, .int x1)] rfl (i := 2) (by decide) rfl dX4_stepOfWay_8 ?_
  refine J_iload_n rfl (i := 2) rfl dX4_stepOfWay_9 ?_
  refine J_if_ge (tgt := 16) dX4_stepOfWay_10 (by decide) (fun hb4 => ?_) (fun hb4 => ?_)
  · replace hw := hw.1 hb4
    refine J_aload_n rfl (i := 0) rfl dX4_stepOfWay_16 ?_
    refine J_geti kls_4 (q := 32) (k := 8) sh_32 (by decide) rfl gw_322 dX4_stepOfWay_17 ?_
    refine J_istore_n [(3, .int (mm 32 8)), (2, .int ((v2 - 1) - x1)), (0, .ref 32), (1, .int x1)] rfl (i := 3) (by decide) rfl dX4_stepOfWay_20 ?_
    refine J_iconst (v := 0) (by decide) dX4_stepOfWay_21 ?_
    refine J_istore [(4, .int 0), (3, .int (mm 32 8)), (2, .int ((v2 - 1) - x1)), (0, .ref 32), (1, .int x1)] (i := 4) (by decide) rfl dX4_stepOfWay_22 ?_
    exact J_sub [3, 2, 1, 0] rfl hw
  · replace hw := hw.2 hb4
    refine J_bipush (v := (-3)) (by decide) dX4_stepOfWay_13 ?_
    exact J_fini (ty := .int) rfl rfl dX4_stepOfWay_15 hw
set_option maxRecDepth 20000 in
theorem bX4_stepOfWay_24 {G : Gx} {mm : Nat → Nat → Int32} {lm : Nat → Int64} {x2 : Int32} {x3 : Int32} {x4 : Int32} {o : Ou} {z : Wd} {a b : Nat} (hw : ((x2 ≤ x4) → ∃ j1 : Nat, x3 = nI j1 ∧ j1 < 6561 ∧ o = .inl (some (.int ((mm 33 j1) - (mm 33 j1) / 32 * 32))) ∧ z = (SH, mm, lm)) ∧ ((¬ x2 ≤ x4) → ∃ j2 : Nat, x3 = nI j2 ∧ j2 < 6561 ∧ (((mm 33 j2) < 0) → ∃ j3 : Nat, x3 = nI j3 ∧ j3 < 6561 ∧ o = .inl (some (.int ((mm 33 j3) - (mm 33 j3) / 32 * 32))) ∧ z = (SH, mm, lm)) ∧ ((¬ (mm 33 j2) < 0) → ∃ j4 : Nat, x3 = nI j4 ∧ j4 < 6561 ∧ J G M_X4_stepOfWay 24 [(0, .ref 32), (2, .int x2), (3, .int ((mm 33 j4) / 32)), (4, .int (x4 + 1))] [] (SH, mm, lm) false o z false a b))) :
    J G M_X4_stepOfWay 24 [(0, .ref 32), (2, .int x2), (3, .int x3), (4, .int x4)] [] (SH, mm, lm) false o z false a b := by
  refine J_iload (i := 4) rfl dX4_stepOfWay_24 ?_
  refine J_iload_n rfl (i := 2) rfl dX4_stepOfWay_26 ?_
  refine J_icmp_ge (tgt := 55) dX4_stepOfWay_27 (by decide) (fun hb6 => ?_) (fun hb6 => ?_)
  · replace hw := hw.1 hb6
    refine J_aload_n rfl (i := 0) rfl dX4_stepOfWay_55 ?_
    refine J_getr kls_4 (q := 32) (k := 2) sh_32 (by decide) rfl gw_316 dX4_stepOfWay_56 ?_
    refine J_iload_n rfl (i := 3) rfl dX4_stepOfWay_59 ?_
    obtain ⟨j1, ej1, hj1, hw⟩ := hw
    refine J_iald sh_33 ej1 hj1 (by decide) dX4_stepOfWay_60 ?_
    refine J_bipush (v := 32) (by decide) dX4_stepOfWay_61 ?_
    refine J_irem (by decide) dX4_stepOfWay_63 ?_
    exact J_fini (ty := .int) rfl rfl dX4_stepOfWay_64 hw
  · replace hw := hw.2 hb6
    refine J_aload_n rfl (i := 0) rfl dX4_stepOfWay_30 ?_
    refine J_getr kls_4 (q := 32) (k := 2) sh_32 (by decide) rfl gw_316 dX4_stepOfWay_31 ?_
    refine J_iload_n rfl (i := 3) rfl dX4_stepOfWay_34 ?_
    obtain ⟨j2, ej2, hj2, hw⟩ := hw
    refine J_iald sh_33 ej2 hj2 (by decide) dX4_stepOfWay_35 ?_
    refine J_if_lt (tgt := 55) dX4_stepOfWay_36 (by decide) (fun hb5 => ?_) (fun hb5 => ?_)
    · replace hw := hw.1 hb5
      refine J_aload_n rfl (i := 0) rfl dX4_stepOfWay_55 ?_
      refine J_getr kls_4 (q := 32) (k := 2) sh_32 (by decide) rfl gw_316 dX4_stepOfWay_56 ?_
      refine J_iload_n rfl (i := 3) rfl dX4_stepOfWay_59 ?_
      obtain ⟨j3, ej3, hj3, hw⟩ := hw
      refine J_iald sh_33 ej3 hj3 (by decide) dX4_stepOfWay_60 ?_
      refine J_bipush (v := 32) (by decide) dX4_stepOfWay_61 ?_
      refine J_irem (by decide) dX4_stepOfWay_63 ?_
      exact J_fini (ty := .int) rfl rfl dX4_stepOfWay_64 hw
    · replace hw := hw.2 hb5
      refine J_aload_n rfl (i := 0) rfl dX4_stepOfWay_39 ?_
      refine J_getr kls_4 (q := 32) (k := 2) sh_32 (by decide) rfl gw_316 dX4_stepOfWay_40 ?_
      refine J_iload_n rfl (i := 3) rfl dX4_stepOfWay_43 ?_
      obtain ⟨j4, ej4, hj4, hw⟩ := hw
      refine J_iald sh_33 ej4 hj4 (by decide) dX4_stepOfWay_44 ?_
      refine J_bipush (v := 32) (by decide) dX4_stepOfWay_45 ?_
      refine J_idiv (by decide) dX4_stepOfWay_47 ?_
      refine J_istore_n [(3, .int ((mm 33 j4) / 32)), (0, .ref 32), (2, .int x2), (4, .int x4)] rfl (i := 3) (by decide) rfl dX4_stepOfWay_48 ?_
      refine J_iinc [(4, .int (x4 + 1)), (3, .int ((mm 33 j4) / 32)), (0, .ref 32), (2, .int x2)] (i := 4) (v := (x4 + 1)) rfl rfl (by decide) rfl dX4_stepOfWay_49 ?_
      refine J_goto (tgt := 24) dX4_stepOfWay_52 (by decide) ?_
      exact J_sub [2, 3, 1, 0] rfl hw
theorem dX4_presentArrangement_0 : decode cX4_presentArrangement 0 = .ok (.iconst 0, 1) := by decide +kernel
theorem dX4_presentArrangement_1 : decode cX4_presentArrangement 1 = .ok (.istore_n 1, 1) := by decide +kernel
theorem dX4_presentArrangement_2 : decode cX4_presentArrangement 2 = .ok (.iconst 0, 1) := by decide +kernel
theorem dX4_presentArrangement_3 : decode cX4_presentArrangement 3 = .ok (.istore_n 2, 1) := by decide +kernel
theorem dX4_presentArrangement_4 : decode cX4_presentArrangement 4 = .ok (.iload_n 2, 1) := by decide +kernel
theorem dX4_presentArrangement_5 : decode cX4_presentArrangement 5 = .ok (.aload_n 0, 1) := by decide +kernel
theorem dX4_presentArrangement_6 : decode cX4_presentArrangement 6 = .ok (.getfield 27, 3) := by decide +kernel
theorem dX4_presentArrangement_9 : decode cX4_presentArrangement 9 = .ok (.getfield 35, 3) := by decide +kernel
theorem dX4_presentArrangement_12 : decode cX4_presentArrangement 12 = .ok (.if_icmp .ge 31, 3) := by decide +kernel
theorem dX4_presentArrangement_15 : decode cX4_presentArrangement 15 = .ok (.aload_n 0, 1) := by decide +kernel
theorem dX4_presentArrangement_16 : decode cX4_presentArrangement 16 = .ok (.getfield 31, 3) := by decide +kernel
theorem dX4_presentArrangement_19 : decode cX4_presentArrangement 19 = .ok (.iload_n 2, 1) := by decide +kernel
theorem dX4_presentArrangement_20 : decode cX4_presentArrangement 20 = .ok (.aaload, 1) := by decide +kernel
theorem dX4_presentArrangement_21 : decode cX4_presentArrangement 21 = .ok (.invokevirtual 82, 3) := by decide +kernel
theorem dX4_presentArrangement_24 : decode cX4_presentArrangement 24 = .ok (.ifCond .eq 13, 3) := by decide +kernel
theorem dX4_presentArrangement_27 : decode cX4_presentArrangement 27 = .ok (.iload_n 1, 1) := by decide +kernel
theorem dX4_presentArrangement_28 : decode cX4_presentArrangement 28 = .ok (.iconst 1, 1) := by decide +kernel
theorem dX4_presentArrangement_29 : decode cX4_presentArrangement 29 = .ok (.getstatic 85, 3) := by decide +kernel
theorem dX4_presentArrangement_32 : decode cX4_presentArrangement 32 = .ok (.iload_n 2, 1) := by decide +kernel
theorem dX4_presentArrangement_33 : decode cX4_presentArrangement 33 = .ok (.iaload, 1) := by decide +kernel
theorem dX4_presentArrangement_34 : decode cX4_presentArrangement 34 = .ok (.imul, 1) := by decide +kernel
theorem dX4_presentArrangement_35 : decode cX4_presentArrangement 35 = .ok (.iadd, 1) := by decide +kernel
theorem dX4_presentArrangement_36 : decode cX4_presentArrangement 36 = .ok (.istore_n 1, 1) := by decide +kernel
theorem dX4_presentArrangement_37 : decode cX4_presentArrangement 37 = .ok (.iinc 2 1, 3) := by decide +kernel
theorem dX4_presentArrangement_40 : decode cX4_presentArrangement 40 = .ok (.goto (-36), 3) := by decide +kernel
theorem dX4_presentArrangement_43 : decode cX4_presentArrangement 43 = .ok (.iload_n 1, 1) := by decide +kernel
theorem dX4_presentArrangement_44 : decode cX4_presentArrangement 44 = .ok (.ireturn, 1) := by decide +kernel
set_option maxRecDepth 20000 in
theorem bX4_presentArrangement_0 {G : Gx} {mm : Nat → Nat → Int32} {lm : Nat → Int64}  {o : Ou} {z : Wd} {a b : Nat} (hw : J G M_X4_presentArrangement 4 [(0, .ref 32), (1, .int 0), (2, .int 0)] [] (SH, mm, lm) false o z false a b) :
    J G M_X4_presentArrangement 0 [(0, .ref 32)] [] (SH, mm, lm) false o z false a b := by
  refine J_iconst (v := 0) (by decide) dX4_presentArrangement_0 ?_
  refine J_istore_n [(1, .int 0), (0, .ref 32)] rfl (i := 1) (by decide) rfl dX4_presentArrangement_1 ?_
  refine J_iconst (v := 0) (by decide) dX4_presentArrangement_2 ?_
  refine J_istore_n [(2, .int 0), (1, .int 0), (0, .ref 32)] rfl (i := 2) (by decide) rfl dX4_presentArrangement_3 ?_
  exact J_sub [2, 1, 0] rfl hw
set_option maxRecDepth 20000 in
theorem bX4_presentArrangement_4 {G : Gx} {mm : Nat → Nat → Int32} {lm : Nat → Int64} {x1 : Int32} {x2 : Int32} {o : Ou} {z : Wd} {a b : Nat} (hw : (((mm 4 9) ≤ x2) → o = .inl (some (.int x1)) ∧ z = (SH, mm, lm)) ∧ ((¬ (mm 4 9) ≤ x2) → ∃ j1 : Nat, x2 = nI j1 ∧ j1 < 8 ∧ ∃ (v3 : Int32), Ct G M_X0_hangs [.ref (23 + j1)] (SH, mm, lm) false (.inl (some (.int v3))) (SH, mm, lm) false 0 0 ∧ ((v3 = 0) → J G M_X4_presentArrangement 4 [(0, .ref 32), (1, .int x1), (2, .int (x2 + 1))] [] (SH, mm, lm) false o z false a b) ∧ ((¬ v3 = 0) → ∃ j5 : Nat, x2 = nI j5 ∧ j5 < 9 ∧ J G M_X4_presentArrangement 4 [(0, .ref 32), (1, .int (x1 + (1 * (tl_1001.getD j5 0)))), (2, .int (x2 + 1))] [] (SH, mm, lm) false o z false a b))) :
    J G M_X4_presentArrangement 4 [(0, .ref 32), (1, .int x1), (2, .int x2)] [] (SH, mm, lm) false o z false a b := by
  refine J_iload_n rfl (i := 2) rfl dX4_presentArrangement_4 ?_
  refine J_aload_n rfl (i := 0) rfl dX4_presentArrangement_5 ?_
  refine J_getr kls_4 (q := 32) (k := 0) sh_32 (by decide) rfl gw_314 dX4_presentArrangement_6 ?_
  refine J_geti kls_7 (q := 4) (k := 9) sh_4 (by decide) rfl gw_207 dX4_presentArrangement_9 ?_
  refine J_icmp_ge (tgt := 43) dX4_presentArrangement_12 (by decide) (fun hb7 => ?_) (fun hb7 => ?_)
  · replace hw := hw.1 hb7
    refine J_iload_n rfl (i := 1) rfl dX4_presentArrangement_43 ?_
    exact J_fini (ty := .int) rfl rfl dX4_presentArrangement_44 hw
  · replace hw := hw.2 hb7
    refine J_aload_n rfl (i := 0) rfl dX4_presentArrangement_15 ?_
    refine J_getr kls_4 (q := 32) (k := 1) sh_32 (by decide) rfl gw_315 dX4_presentArrangement_16 ?_
    refine J_iload_n rfl (i := 2) rfl dX4_presentArrangement_19 ?_
    obtain ⟨j1, ej1, hj1, hw⟩ := hw
    refine J_aald (r := 23 + j1) sh_22 ej1 hj1 (by decide) (if_pos hj1) dX4_presentArrangement_20 ?_
    obtain ⟨v3, hc2, hw⟩ := hw
    refine J_callV (as := []) (k := (23 + j1)) (st := []) cal_X0_hangs cai_X0_hangs gw_984 ⟨by decide, by decide⟩ cnt_X0_hangs (sh_b23 hj1) rfl rfl (Nat.le_of_ble_eq_true rfl) dX4_presentArrangement_21 (Nat.zero_add _).symm (Nat.zero_add _).symm hc2 ?_
    refine J_if_eq (tgt := 37) dX4_presentArrangement_24 (by decide) (fun hb6 => ?_) (fun hb6 => ?_)
    · replace hw := hw.1 hb6
      refine J_iinc [(2, .int (x2 + 1)), (0, .ref 32), (1, .int x1)] (i := 2) (v := (x2 + 1)) rfl rfl (by decide) rfl dX4_presentArrangement_37 ?_
      refine J_goto (tgt := 4) dX4_presentArrangement_40 (by decide) ?_
      exact J_sub [1, 2, 0] rfl hw
    · replace hw := hw.2 hb6
      refine J_iload_n rfl (i := 1) rfl dX4_presentArrangement_27 ?_
      refine J_iconst (v := 1) (by decide) dX4_presentArrangement_28 ?_
      refine J_gets tb_1001 gw_982 dX4_presentArrangement_29 ?_
      refine J_iload_n rfl (i := 2) rfl dX4_presentArrangement_32 ?_
      obtain ⟨j5, ej5, hj5, hw⟩ := hw
      refine J_tab tb_1001 ej5 hj5 (by decide) dX4_presentArrangement_33 ?_
      refine J_imul dX4_presentArrangement_34 ?_
      refine J_iadd dX4_presentArrangement_35 ?_
      refine J_istore_n [(1, .int (x1 + (1 * (tl_1001.getD j5 0)))), (0, .ref 32), (2, .int x2)] rfl (i := 1) (by decide) rfl dX4_presentArrangement_36 ?_
      refine J_iinc [(2, .int (x2 + 1)), (1, .int (x1 + (1 * (tl_1001.getD j5 0)))), (0, .ref 32)] (i := 2) (v := (x2 + 1)) rfl rfl (by decide) rfl dX4_presentArrangement_37 ?_
      refine J_goto (tgt := 4) dX4_presentArrangement_40 (by decide) ?_
      exact J_sub [2, 1, 0] rfl hw
theorem dX4_goalArrangement_0 : decode cX4_goalArrangement 0 = .ok (.iconst 0, 1) := by decide +kernel
theorem dX4_goalArrangement_1 : decode cX4_goalArrangement 1 = .ok (.istore_n 1, 1) := by decide +kernel
theorem dX4_goalArrangement_2 : decode cX4_goalArrangement 2 = .ok (.iconst 0, 1) := by decide +kernel
theorem dX4_goalArrangement_3 : decode cX4_goalArrangement 3 = .ok (.istore_n 2, 1) := by decide +kernel
theorem dX4_goalArrangement_4 : decode cX4_goalArrangement 4 = .ok (.iload_n 2, 1) := by decide +kernel
theorem dX4_goalArrangement_5 : decode cX4_goalArrangement 5 = .ok (.aload_n 0, 1) := by decide +kernel
theorem dX4_goalArrangement_6 : decode cX4_goalArrangement 6 = .ok (.getfield 27, 3) := by decide +kernel
theorem dX4_goalArrangement_9 : decode cX4_goalArrangement 9 = .ok (.getfield 35, 3) := by decide +kernel
theorem dX4_goalArrangement_12 : decode cX4_goalArrangement 12 = .ok (.if_icmp .ge 68, 3) := by decide +kernel
theorem dX4_goalArrangement_15 : decode cX4_goalArrangement 15 = .ok (.aload_n 0, 1) := by decide +kernel
theorem dX4_goalArrangement_16 : decode cX4_goalArrangement 16 = .ok (.getfield 31, 3) := by decide +kernel
theorem dX4_goalArrangement_19 : decode cX4_goalArrangement 19 = .ok (.iload_n 2, 1) := by decide +kernel
theorem dX4_goalArrangement_20 : decode cX4_goalArrangement 20 = .ok (.aaload, 1) := by decide +kernel
theorem dX4_goalArrangement_21 : decode cX4_goalArrangement 21 = .ok (.invokevirtual 40, 3) := by decide +kernel
theorem dX4_goalArrangement_24 : decode cX4_goalArrangement 24 = .ok (.ifCond .eq 28, 3) := by decide +kernel
theorem dX4_goalArrangement_27 : decode cX4_goalArrangement 27 = .ok (.aload_n 0, 1) := by decide +kernel
theorem dX4_goalArrangement_28 : decode cX4_goalArrangement 28 = .ok (.getfield 31, 3) := by decide +kernel
theorem dX4_goalArrangement_31 : decode cX4_goalArrangement 31 = .ok (.iload_n 2, 1) := by decide +kernel
theorem dX4_goalArrangement_32 : decode cX4_goalArrangement 32 = .ok (.aaload, 1) := by decide +kernel
theorem dX4_goalArrangement_33 : decode cX4_goalArrangement 33 = .ok (.invokevirtual 88, 3) := by decide +kernel
theorem dX4_goalArrangement_36 : decode cX4_goalArrangement 36 = .ok (.ifCond .ne 16, 3) := by decide +kernel
theorem dX4_goalArrangement_39 : decode cX4_goalArrangement 39 = .ok (.iload_n 1, 1) := by decide +kernel
theorem dX4_goalArrangement_40 : decode cX4_goalArrangement 40 = .ok (.iconst 2, 1) := by decide +kernel
theorem dX4_goalArrangement_41 : decode cX4_goalArrangement 41 = .ok (.getstatic 85, 3) := by decide +kernel
theorem dX4_goalArrangement_44 : decode cX4_goalArrangement 44 = .ok (.iload_n 2, 1) := by decide +kernel
theorem dX4_goalArrangement_45 : decode cX4_goalArrangement 45 = .ok (.iaload, 1) := by decide +kernel
theorem dX4_goalArrangement_46 : decode cX4_goalArrangement 46 = .ok (.imul, 1) := by decide +kernel
theorem dX4_goalArrangement_47 : decode cX4_goalArrangement 47 = .ok (.iadd, 1) := by decide +kernel
theorem dX4_goalArrangement_48 : decode cX4_goalArrangement 48 = .ok (.istore_n 1, 1) := by decide +kernel
theorem dX4_goalArrangement_49 : decode cX4_goalArrangement 49 = .ok (.goto 25, 3) := by decide +kernel
theorem dX4_goalArrangement_52 : decode cX4_goalArrangement 52 = .ok (.aload_n 0, 1) := by decide +kernel
theorem dX4_goalArrangement_53 : decode cX4_goalArrangement 53 = .ok (.getfield 31, 3) := by decide +kernel
theorem dX4_goalArrangement_56 : decode cX4_goalArrangement 56 = .ok (.iload_n 2, 1) := by decide +kernel
theorem dX4_goalArrangement_57 : decode cX4_goalArrangement 57 = .ok (.aaload, 1) := by decide +kernel
theorem dX4_goalArrangement_58 : decode cX4_goalArrangement 58 = .ok (.invokevirtual 82, 3) := by decide +kernel
theorem dX4_goalArrangement_61 : decode cX4_goalArrangement 61 = .ok (.ifCond .eq 13, 3) := by decide +kernel
theorem dX4_goalArrangement_64 : decode cX4_goalArrangement 64 = .ok (.iload_n 1, 1) := by decide +kernel
theorem dX4_goalArrangement_65 : decode cX4_goalArrangement 65 = .ok (.iconst 1, 1) := by decide +kernel
theorem dX4_goalArrangement_66 : decode cX4_goalArrangement 66 = .ok (.getstatic 85, 3) := by decide +kernel
theorem dX4_goalArrangement_69 : decode cX4_goalArrangement 69 = .ok (.iload_n 2, 1) := by decide +kernel
theorem dX4_goalArrangement_70 : decode cX4_goalArrangement 70 = .ok (.iaload, 1) := by decide +kernel
theorem dX4_goalArrangement_71 : decode cX4_goalArrangement 71 = .ok (.imul, 1) := by decide +kernel
theorem dX4_goalArrangement_72 : decode cX4_goalArrangement 72 = .ok (.iadd, 1) := by decide +kernel
theorem dX4_goalArrangement_73 : decode cX4_goalArrangement 73 = .ok (.istore_n 1, 1) := by decide +kernel
theorem dX4_goalArrangement_74 : decode cX4_goalArrangement 74 = .ok (.iinc 2 1, 3) := by decide +kernel
theorem dX4_goalArrangement_77 : decode cX4_goalArrangement 77 = .ok (.goto (-73), 3) := by decide +kernel
theorem dX4_goalArrangement_80 : decode cX4_goalArrangement 80 = .ok (.iload_n 1, 1) := by decide +kernel
theorem dX4_goalArrangement_81 : decode cX4_goalArrangement 81 = .ok (.ireturn, 1) := by decide +kernel
set_option maxRecDepth 20000 in
theorem bX4_goalArrangement_0 {G : Gx} {mm : Nat → Nat → Int32} {lm : Nat → Int64}  {o : Ou} {z : Wd} {a b : Nat} (hw : J G M_X4_goalArrangement 4 [(0, .ref 32), (1, .int 0), (2, .int 0)] [] (SH, mm, lm) false o z false a b) :
    J G M_X4_goalArrangement 0 [(0, .ref 32)] [] (SH, mm, lm) false o z false a b := by
  refine J_iconst (v := 0) (by decide) dX4_goalArrangement_0 ?_
  refine J_istore_n [(1, .int 0), (0, .ref 32)] rfl (i := 1) (by decide) rfl dX4_goalArrangement_1 ?_
  refine J_iconst (v := 0) (by decide) dX4_goalArrangement_2 ?_
  refine J_istore_n [(2, .int 0), (1, .int 0), (0, .ref 32)] rfl (i := 2) (by decide) rfl dX4_goalArrangement_3 ?_
  exact J_sub [2, 1, 0] rfl hw
set_option maxRecDepth 20000 in
theorem bX4_goalArrangement_4 {G : Gx} {mm : Nat → Nat → Int32} {lm : Nat → Int64} {x1 : Int32} {x2 : Int32} {o : Ou} {z : Wd} {a b : Nat} (hw : (((mm 4 9) ≤ x2) → o = .inl (some (.int x1)) ∧ z = (SH, mm, lm)) ∧ ((¬ (mm 4 9) ≤ x2) → ∃ j1 : Nat, x2 = nI j1 ∧ j1 < 8 ∧ ∃ (v3 : Int32), Ct G M_X0_hasPlan [.ref (23 + j1)] (SH, mm, lm) false (.inl (some (.int v3))) (SH, mm, lm) false 0 0 ∧ ((v3 = 0) → ∃ j5 : Nat, x2 = nI j5 ∧ j5 < 8 ∧ ∃ (v7 : Int32), Ct G M_X0_hangs [.ref (23 + j5)] (SH, mm, lm) false (.inl (some (.int v7))) (SH, mm, lm) false 0 0 ∧ ((v7 = 0) → J G M_X4_goalArrangement 4 [(0, .ref 32), (1, .int x1), (2, .int (x2 + 1))] [] (SH, mm, lm) false o z false a b) ∧ ((¬ v7 = 0) → ∃ j9 : Nat, x2 = nI j9 ∧ j9 < 9 ∧ J G M_X4_goalArrangement 4 [(0, .ref 32), (1, .int (x1 + (1 * (tl_1001.getD j9 0)))), (2, .int (x2 + 1))] [] (SH, mm, lm) false o z false a b)) ∧ ((¬ v3 = 0) → ∃ j11 : Nat, x2 = nI j11 ∧ j11 < 8 ∧ ∃ (v13 : Int32), Ct G M_X0_plannedWhereItHangs [.ref (23 + j11)] (SH, mm, lm) false (.inl (some (.int v13))) (SH, mm, lm) false 0 0 ∧ ((¬ v13 = 0) → ∃ j15 : Nat, x2 = nI j15 ∧ j15 < 8 ∧ ∃ (v17 : Int32), Ct G M_X0_hangs [.ref (23 + j15)] (SH, mm, lm) false (.inl (some (.int v17))) (SH, mm, lm) false 0 0 ∧ ((v17 = 0) → J G M_X4_goalArrangement 4 [(0, .ref 32), (1, .int x1), (2, .int (x2 + 1))] [] (SH, mm, lm) false o z false a b) ∧ ((¬ v17 = 0) → ∃ j19 : Nat, x2 = nI j19 ∧ j19 < 9 ∧ J G M_X4_goalArrangement 4 [(0, .ref 32), (1, .int (x1 + (1 * (tl_1001.getD j19 0)))), (2, .int (x2 + 1))] [] (SH, mm, lm) false o z false a b)) ∧ ((v13 = 0) → ∃ j21 : Nat, x2 = nI j21 ∧ j21 < 9 ∧ J G M_X4_goalArrangement 4 [(0, .ref 32), (1, .int (x1 + (2 * (tl_1001.getD j21 0)))), (2, .int (x2 + 1))] [] (SH, mm, lm) false o z false a b)))) :
    J G M_X4_goalArrangement 4 [(0, .ref 32), (1, .int x1), (2, .int x2)] [] (SH, mm, lm) false o z false a b := by
  refine J_iload_n rfl (i := 2) rfl dX4_goalArrangement_4 ?_
  refine J_aload_n rfl (i := 0) rfl dX4_goalArrangement_5 ?_
  refine J_getr kls_4 (q := 32) (k := 0) sh_32 (by decide) rfl gw_314 dX4_goalArrangement_6 ?_
  refine J_geti kls_7 (q := 4) (k := 9) sh_4 (by decide) rfl gw_207 dX4_goalArrangement_9 ?_
  refine J_icmp_ge (tgt := 80) dX4_goalArrangement_12 (by decide) (fun hb24 => ?_) (fun hb24 => ?_)
  · replace hw := hw.1 hb24
    refine J_iload_n rfl (i := 1) rfl dX4_goalArrangement_80 ?_
    exact J_fini (ty := .int) rfl rfl dX4_goalArrangement_81 hw
  · replace hw := hw.2 hb24
    refine J_aload_n rfl (i := 0) rfl dX4_goalArrangement_15 ?_
    refine J_getr kls_4 (q := 32) (k := 1) sh_32 (by decide) rfl gw_315 dX4_goalArrangement_16 ?_
    refine J_iload_n rfl (i := 2) rfl dX4_goalArrangement_19 ?_
    obtain ⟨j1, ej1, hj1, hw⟩ := hw
    refine J_aald (r := 23 + j1) sh_22 ej1 hj1 (by decide) (if_pos hj1) dX4_goalArrangement_20 ?_
    obtain ⟨v3, hc2, hw⟩ := hw
    refine J_callV (as := []) (k := (23 + j1)) (st := []) cal_X0_hasPlan cai_X0_hasPlan gw_950 ⟨by decide, by decide⟩ cnt_X0_hasPlan (sh_b23 hj1) rfl rfl (Nat.le_of_ble_eq_true rfl) dX4_goalArrangement_21 (Nat.zero_add _).symm (Nat.zero_add _).symm hc2 ?_
    refine J_if_eq (tgt := 52) dX4_goalArrangement_24 (by decide) (fun hb23 => ?_) (fun hb23 => ?_)
    · replace hw := hw.1 hb23
      refine J_aload_n rfl (i := 0) rfl dX4_goalArrangement_52 ?_
      refine J_getr kls_4 (q := 32) (k := 1) sh_32 (by decide) rfl gw_315 dX4_goalArrangement_53 ?_
      refine J_iload_n rfl (i := 2) rfl dX4_goalArrangement_56 ?_
      obtain ⟨j5, ej5, hj5, hw⟩ := hw
      refine J_aald (r := 23 + j5) sh_22 ej5 hj5 (by decide) (if_pos hj5) dX4_goalArrangement_57 ?_
      obtain ⟨v7, hc6, hw⟩ := hw
      refine J_callV (as := []) (k := (23 + j5)) (st := []) cal_X0_hangs cai_X0_hangs gw_984 ⟨by decide, by decide⟩ cnt_X0_hangs (sh_b23 hj5) rfl rfl (Nat.le_of_ble_eq_true rfl) dX4_goalArrangement_58 (Nat.zero_add _).symm (Nat.zero_add _).symm hc6 ?_
      refine J_if_eq (tgt := 74) dX4_goalArrangement_61 (by decide) (fun hb10 => ?_) (fun hb10 => ?_)
      · replace hw := hw.1 hb10
        refine J_iinc [(2, .int (x2 + 1)), (0, .ref 32), (1, .int x1)] (i := 2) (v := (x2 + 1)) rfl rfl (by decide) rfl dX4_goalArrangement_74 ?_
        refine J_goto (tgt := 4) dX4_goalArrangement_77 (by decide) ?_
        exact J_sub [1, 2, 0] rfl hw
      · replace hw := hw.2 hb10
        refine J_iload_n rfl (i := 1) rfl dX4_goalArrangement_64 ?_
        refine J_iconst (v := 1) (by decide) dX4_goalArrangement_65 ?_
        refine J_gets tb_1001 gw_982 dX4_goalArrangement_66 ?_
        refine J_iload_n rfl (i := 2) rfl dX4_goalArrangement_69 ?_
        obtain ⟨j9, ej9, hj9, hw⟩ := hw
        refine J_tab tb_1001 ej9 hj9 (by decide) dX4_goalArrangement_70 ?_
        refine J_imul dX4_goalArrangement_71 ?_
        refine J_iadd dX4_goalArrangement_72 ?_
        refine J_istore_n [(1, .int (x1 + (1 * (tl_1001.getD j9 0)))), (0, .ref 32), (2, .int x2)] rfl (i := 1) (by decide) rfl dX4_goalArrangement_73 ?_
        refine J_iinc [(2, .int (x2 + 1)), (1, .int (x1 + (1 * (tl_1001.getD j9 0)))), (0, .ref 32)] (i := 2) (v := (x2 + 1)) rfl rfl (by decide) rfl dX4_goalArrangement_74 ?_
        refine J_goto (tgt := 4) dX4_goalArrangement_77 (by decide) ?_
        exact J_sub [2, 1, 0] rfl hw
    · replace hw := hw.2 hb23
      refine J_aload_n rfl (i := 0) rfl dX4_goalArrangement_27 ?_
      refine J_getr kls_4 (q := 32) (k := 1) sh_32 (by decide) rfl gw_315 dX4_goalArrangement_28 ?_
      refine J_iload_n rfl (i := 2) rfl dX4_goalArrangement_31 ?_
      obtain ⟨j11, ej11, hj11, hw⟩ := hw
      refine J_aald (r := 23 + j11) sh_22 ej11 hj11 (by decide) (if_pos hj11) dX4_goalArrangement_32 ?_
      obtain ⟨v13, hc12, hw⟩ := hw
      refine J_callV (as := []) (k := (23 + j11)) (st := []) cal_X0_plannedWhereItHangs cai_X0_plannedWhereItHangs gw_977 ⟨by decide, by decide⟩ cnt_X0_plannedWhereItHangs (sh_b23 hj11) rfl rfl (Nat.le_of_ble_eq_true rfl) dX4_goalArrangement_33 (Nat.zero_add _).symm (Nat.zero_add _).symm hc12 ?_
      refine J_if_ne (tgt := 52) dX4_goalArrangement_36 (by decide) (fun hb22 => ?_) (fun hb22 => ?_)
      · replace hw := hw.1 hb22
        refine J_aload_n rfl (i := 0) rfl dX4_goalArrangement_52 ?_
        refine J_getr kls_4 (q := 32) (k := 1) sh_32 (by decide) rfl gw_315 dX4_goalArrangement_53 ?_
        refine J_iload_n rfl (i := 2) rfl dX4_goalArrangement_56 ?_
        obtain ⟨j15, ej15, hj15, hw⟩ := hw
        refine J_aald (r := 23 + j15) sh_22 ej15 hj15 (by decide) (if_pos hj15) dX4_goalArrangement_57 ?_
        obtain ⟨v17, hc16, hw⟩ := hw
        refine J_callV (as := []) (k := (23 + j15)) (st := []) cal_X0_hangs cai_X0_hangs gw_984 ⟨by decide, by decide⟩ cnt_X0_hangs (sh_b23 hj15) rfl rfl (Nat.le_of_ble_eq_true rfl) dX4_goalArrangement_58 (Nat.zero_add _).symm (Nat.zero_add _).symm hc16 ?_
        refine J_if_eq (tgt := 74) dX4_goalArrangement_61 (by decide) (fun hb20 => ?_) (fun hb20 => ?_)
        · replace hw := hw.1 hb20
          refine J_iinc [(2, .int (x2 + 1)), (0, .ref 32), (1, .int x1)] (i := 2) (v := (x2 + 1)) rfl rfl (by decide) rfl dX4_goalArrangement_74 ?_
          refine J_goto (tgt := 4) dX4_goalArrangement_77 (by decide) ?_
          exact J_sub [1, 2, 0] rfl hw
        · replace hw := hw.2 hb20
          refine J_iload_n rfl (i := 1) rfl dX4_goalArrangement_64 ?_
          refine J_iconst (v := 1) (by decide) dX4_goalArrangement_65 ?_
          refine J_gets tb_1001 gw_982 dX4_goalArrangement_66 ?_
          refine J_iload_n rfl (i := 2) rfl dX4_goalArrangement_69 ?_
          obtain ⟨j19, ej19, hj19, hw⟩ := hw
          refine J_tab tb_1001 ej19 hj19 (by decide) dX4_goalArrangement_70 ?_
          refine J_imul dX4_goalArrangement_71 ?_
          refine J_iadd dX4_goalArrangement_72 ?_
          refine J_istore_n [(1, .int (x1 + (1 * (tl_1001.getD j19 0)))), (0, .ref 32), (2, .int x2)] rfl (i := 1) (by decide) rfl dX4_goalArrangement_73 ?_
          refine J_iinc [(2, .int (x2 + 1)), (1, .int (x1 + (1 * (tl_1001.getD j19 0)))), (0, .ref 32)] (i := 2) (v := (x2 + 1)) rfl rfl (by decide) rfl dX4_goalArrangement_74 ?_
          refine J_goto (tgt := 4) dX4_goalArrangement_77 (by decide) ?_
          exact J_sub [2, 1, 0] rfl hw
      · replace hw := hw.2 hb22
        refine J_iload_n rfl (i := 1) rfl dX4_goalArrangement_39 ?_
        refine J_iconst (v := 2) (by decide) dX4_goalArrangement_40 ?_
        refine J_gets tb_1001 gw_982 dX4_goalArrangement_41 ?_
        refine J_iload_n rfl (i := 2) rfl dX4_goalArrangement_44 ?_
        obtain ⟨j21, ej21, hj21, hw⟩ := hw
        refine J_tab tb_1001 ej21 hj21 (by decide) dX4_goalArrangement_45 ?_
        refine J_imul dX4_goalArrangement_46 ?_
        refine J_iadd dX4_goalArrangement_47 ?_
        refine J_istore_n [(1, .int (x1 + (2 * (tl_1001.getD j21 0)))), (0, .ref 32), (2, .int x2)] rfl (i := 1) (by decide) rfl dX4_goalArrangement_48 ?_
        refine J_goto (tgt := 74) dX4_goalArrangement_49 (by decide) ?_
        refine J_iinc [(2, .int (x2 + 1)), (1, .int (x1 + (2 * (tl_1001.getD j21 0)))), (0, .ref 32)] (i := 2) (v := (x2 + 1)) rfl rfl (by decide) rfl dX4_goalArrangement_74 ?_
        refine J_goto (tgt := 4) dX4_goalArrangement_77 (by decide) ?_
        exact J_sub [2, 1, 0] rfl hw
theorem dX4_isReached_0 : decode cX4_isReached 0 = .ok (.aload_n 0, 1) := by decide +kernel
theorem dX4_isReached_1 : decode cX4_isReached 1 = .ok (.getfield 11, 3) := by decide +kernel
theorem dX4_isReached_4 : decode cX4_isReached 4 = .ok (.iload_n 1, 1) := by decide +kernel
theorem dX4_isReached_5 : decode cX4_isReached 5 = .ok (.iaload, 1) := by decide +kernel
theorem dX4_isReached_6 : decode cX4_isReached 6 = .ok (.ifCond .ge 14, 3) := by decide +kernel
theorem dX4_isReached_9 : decode cX4_isReached 9 = .ok (.aload_n 0, 1) := by decide +kernel
theorem dX4_isReached_10 : decode cX4_isReached 10 = .ok (.getfield 11, 3) := by decide +kernel
theorem dX4_isReached_13 : decode cX4_isReached 13 = .ok (.iload_n 1, 1) := by decide +kernel
theorem dX4_isReached_14 : decode cX4_isReached 14 = .ok (.iaload, 1) := by decide +kernel
theorem dX4_isReached_15 : decode cX4_isReached 15 = .ok (.bipush (-3), 2) := by decide +kernel
theorem dX4_isReached_17 : decode cX4_isReached 17 = .ok (.if_icmp .ne 7, 3) := by decide +kernel
theorem dX4_isReached_20 : decode cX4_isReached 20 = .ok (.iconst 1, 1) := by decide +kernel
theorem dX4_isReached_21 : decode cX4_isReached 21 = .ok (.goto 4, 3) := by decide +kernel
theorem dX4_isReached_24 : decode cX4_isReached 24 = .ok (.iconst 0, 1) := by decide +kernel
theorem dX4_isReached_25 : decode cX4_isReached 25 = .ok (.ireturn, 1) := by decide +kernel
set_option maxRecDepth 20000 in
theorem bX4_isReached_0 {G : Gx} {mm : Nat → Nat → Int32} {lm : Nat → Int64} {x1 : Int32} {o : Ou} {z : Wd} {a b : Nat} (hw : ∃ j1 : Nat, x1 = nI j1 ∧ j1 < 6561 ∧ ((0 ≤ (mm 33 j1)) → o = .inl (some (.int 1)) ∧ z = (SH, mm, lm)) ∧ ((¬ 0 ≤ (mm 33 j1)) → ∃ j2 : Nat, x1 = nI j2 ∧ j2 < 6561 ∧ ((¬ (mm 33 j2) = (-3)) → o = .inl (some (.int 0)) ∧ z = (SH, mm, lm)) ∧ (((mm 33 j2) = (-3)) → o = .inl (some (.int 1)) ∧ z = (SH, mm, lm)))) :
    J G M_X4_isReached 0 [(0, .ref 32), (1, .int x1)] [] (SH, mm, lm) false o z false a b := by
  refine J_aload_n rfl (i := 0) rfl dX4_isReached_0 ?_
  refine J_getr kls_4 (q := 32) (k := 2) sh_32 (by decide) rfl gw_316 dX4_isReached_1 ?_
  refine J_iload_n rfl (i := 1) rfl dX4_isReached_4 ?_
  obtain ⟨j1, ej1, hj1, hw⟩ := hw
  refine J_iald sh_33 ej1 hj1 (by decide) dX4_isReached_5 ?_
  refine J_if_ge (tgt := 20) dX4_isReached_6 (by decide) (fun hb4 => ?_) (fun hb4 => ?_)
  · replace hw := hw.1 hb4
    refine J_iconst (v := 1) (by decide) dX4_isReached_20 ?_
    refine J_goto (tgt := 25) dX4_isReached_21 (by decide) ?_
    exact J_fini (ty := .boolean) rfl rfl dX4_isReached_25 hw
  · replace hw := hw.2 hb4
    refine J_aload_n rfl (i := 0) rfl dX4_isReached_9 ?_
    refine J_getr kls_4 (q := 32) (k := 2) sh_32 (by decide) rfl gw_316 dX4_isReached_10 ?_
    refine J_iload_n rfl (i := 1) rfl dX4_isReached_13 ?_
    obtain ⟨j2, ej2, hj2, hw⟩ := hw
    refine J_iald sh_33 ej2 hj2 (by decide) dX4_isReached_14 ?_
    refine J_bipush (v := (-3)) (by decide) dX4_isReached_15 ?_
    refine J_icmp_ne (tgt := 24) dX4_isReached_17 (by decide) (fun hb3 => ?_) (fun hb3 => ?_)
    · replace hw := hw.1 hb3
      refine J_iconst (v := 0) (by decide) dX4_isReached_24 ?_
      exact J_fini (ty := .boolean) rfl rfl dX4_isReached_25 hw
    · replace hw := hw.2 hb3
      refine J_iconst (v := 1) (by decide) dX4_isReached_20 ?_
      refine J_goto (tgt := 25) dX4_isReached_21 (by decide) ?_
      exact J_fini (ty := .boolean) rfl rfl dX4_isReached_25 hw
theorem dX4_stepFrom_0 : decode cX4_stepFrom 0 = .ok (.iconst 0, 1) := by decide +kernel
theorem dX4_stepFrom_1 : decode cX4_stepFrom 1 = .ok (.istore_n 2, 1) := by decide +kernel
theorem dX4_stepFrom_2 : decode cX4_stepFrom 2 = .ok (.iload_n 2, 1) := by decide +kernel
theorem dX4_stepFrom_3 : decode cX4_stepFrom 3 = .ok (.aload_n 0, 1) := by decide +kernel
theorem dX4_stepFrom_4 : decode cX4_stepFrom 4 = .ok (.getfield 27, 3) := by decide +kernel
theorem dX4_stepFrom_7 : decode cX4_stepFrom 7 = .ok (.getfield 35, 3) := by decide +kernel
theorem dX4_stepFrom_10 : decode cX4_stepFrom 10 = .ok (.if_icmp .ge 114, 3) := by decide +kernel
theorem dX4_stepFrom_13 : decode cX4_stepFrom 13 = .ok (.iload_n 1, 1) := by decide +kernel
theorem dX4_stepFrom_14 : decode cX4_stepFrom 14 = .ok (.iload_n 1, 1) := by decide +kernel
theorem dX4_stepFrom_15 : decode cX4_stepFrom 15 = .ok (.iload_n 2, 1) := by decide +kernel
theorem dX4_stepFrom_16 : decode cX4_stepFrom 16 = .ok (.invokestatic 91, 3) := by decide +kernel
theorem dX4_stepFrom_19 : decode cX4_stepFrom 19 = .ok (.getstatic 85, 3) := by decide +kernel
theorem dX4_stepFrom_22 : decode cX4_stepFrom 22 = .ok (.iload_n 2, 1) := by decide +kernel
theorem dX4_stepFrom_23 : decode cX4_stepFrom 23 = .ok (.iaload, 1) := by decide +kernel
theorem dX4_stepFrom_24 : decode cX4_stepFrom 24 = .ok (.imul, 1) := by decide +kernel
theorem dX4_stepFrom_25 : decode cX4_stepFrom 25 = .ok (.isub, 1) := by decide +kernel
theorem dX4_stepFrom_26 : decode cX4_stepFrom 26 = .ok (.istore_n 3, 1) := by decide +kernel
theorem dX4_stepFrom_27 : decode cX4_stepFrom 27 = .ok (.iload_n 3, 1) := by decide +kernel
theorem dX4_stepFrom_28 : decode cX4_stepFrom 28 = .ok (.iload_n 1, 1) := by decide +kernel
theorem dX4_stepFrom_29 : decode cX4_stepFrom 29 = .ok (.if_icmp .eq 15, 3) := by decide +kernel
theorem dX4_stepFrom_32 : decode cX4_stepFrom 32 = .ok (.aload_n 0, 1) := by decide +kernel
theorem dX4_stepFrom_33 : decode cX4_stepFrom 33 = .ok (.iload_n 3, 1) := by decide +kernel
theorem dX4_stepFrom_34 : decode cX4_stepFrom 34 = .ok (.iload_n 1, 1) := by decide +kernel
theorem dX4_stepFrom_35 : decode cX4_stepFrom 35 = .ok (.iconst 3, 1) := by decide +kernel
theorem dX4_stepFrom_36 : decode cX4_stepFrom 36 = .ok (.iload_n 2, 1) := by decide +kernel
theorem dX4_stepFrom_37 : decode cX4_stepFrom 37 = .ok (.imul, 1) := by decide +kernel
theorem dX4_stepFrom_38 : decode cX4_stepFrom 38 = .ok (.invokevirtual 95, 3) := by decide +kernel
theorem dX4_stepFrom_41 : decode cX4_stepFrom 41 = .ok (.goto 77, 3) := by decide +kernel
theorem dX4_stepFrom_44 : decode cX4_stepFrom 44 = .ok (.aload_n 0, 1) := by decide +kernel
theorem dX4_stepFrom_45 : decode cX4_stepFrom 45 = .ok (.getfield 31, 3) := by decide +kernel
theorem dX4_stepFrom_48 : decode cX4_stepFrom 48 = .ok (.iload_n 2, 1) := by decide +kernel
theorem dX4_stepFrom_49 : decode cX4_stepFrom 49 = .ok (.aaload, 1) := by decide +kernel
theorem dX4_stepFrom_50 : decode cX4_stepFrom 50 = .ok (.invokevirtual 82, 3) := by decide +kernel
theorem dX4_stepFrom_53 : decode cX4_stepFrom 53 = .ok (.ifCond .eq 22, 3) := by decide +kernel
theorem dX4_stepFrom_56 : decode cX4_stepFrom 56 = .ok (.aload_n 0, 1) := by decide +kernel
theorem dX4_stepFrom_57 : decode cX4_stepFrom 57 = .ok (.iload_n 3, 1) := by decide +kernel
theorem dX4_stepFrom_58 : decode cX4_stepFrom 58 = .ok (.iconst 1, 1) := by decide +kernel
theorem dX4_stepFrom_59 : decode cX4_stepFrom 59 = .ok (.getstatic 85, 3) := by decide +kernel
theorem dX4_stepFrom_62 : decode cX4_stepFrom 62 = .ok (.iload_n 2, 1) := by decide +kernel
theorem dX4_stepFrom_63 : decode cX4_stepFrom 63 = .ok (.iaload, 1) := by decide +kernel
theorem dX4_stepFrom_64 : decode cX4_stepFrom 64 = .ok (.imul, 1) := by decide +kernel
theorem dX4_stepFrom_65 : decode cX4_stepFrom 65 = .ok (.iadd, 1) := by decide +kernel
theorem dX4_stepFrom_66 : decode cX4_stepFrom 66 = .ok (.iload_n 1, 1) := by decide +kernel
theorem dX4_stepFrom_67 : decode cX4_stepFrom 67 = .ok (.iconst 3, 1) := by decide +kernel
theorem dX4_stepFrom_68 : decode cX4_stepFrom 68 = .ok (.iload_n 2, 1) := by decide +kernel
theorem dX4_stepFrom_69 : decode cX4_stepFrom 69 = .ok (.imul, 1) := by decide +kernel
theorem dX4_stepFrom_70 : decode cX4_stepFrom 70 = .ok (.iconst 1, 1) := by decide +kernel
theorem dX4_stepFrom_71 : decode cX4_stepFrom 71 = .ok (.iadd, 1) := by decide +kernel
theorem dX4_stepFrom_72 : decode cX4_stepFrom 72 = .ok (.invokevirtual 95, 3) := by decide +kernel
theorem dX4_stepFrom_75 : decode cX4_stepFrom 75 = .ok (.aload_n 0, 1) := by decide +kernel
theorem dX4_stepFrom_76 : decode cX4_stepFrom 76 = .ok (.getfield 31, 3) := by decide +kernel
theorem dX4_stepFrom_79 : decode cX4_stepFrom 79 = .ok (.iload_n 2, 1) := by decide +kernel
theorem dX4_stepFrom_80 : decode cX4_stepFrom 80 = .ok (.aaload, 1) := by decide +kernel
theorem dX4_stepFrom_81 : decode cX4_stepFrom 81 = .ok (.invokevirtual 40, 3) := by decide +kernel
theorem dX4_stepFrom_84 : decode cX4_stepFrom 84 = .ok (.ifCond .eq 34, 3) := by decide +kernel
theorem dX4_stepFrom_87 : decode cX4_stepFrom 87 = .ok (.aload_n 0, 1) := by decide +kernel
theorem dX4_stepFrom_88 : decode cX4_stepFrom 88 = .ok (.getfield 31, 3) := by decide +kernel
theorem dX4_stepFrom_91 : decode cX4_stepFrom 91 = .ok (.iload_n 2, 1) := by decide +kernel
theorem dX4_stepFrom_92 : decode cX4_stepFrom 92 = .ok (.aaload, 1) := by decide +kernel
theorem dX4_stepFrom_93 : decode cX4_stepFrom 93 = .ok (.invokevirtual 88, 3) := by decide +kernel
theorem dX4_stepFrom_96 : decode cX4_stepFrom 96 = .ok (.ifCond .ne 22, 3) := by decide +kernel
theorem dX4_stepFrom_99 : decode cX4_stepFrom 99 = .ok (.aload_n 0, 1) := by decide +kernel
theorem dX4_stepFrom_100 : decode cX4_stepFrom 100 = .ok (.iload_n 3, 1) := by decide +kernel
theorem dX4_stepFrom_101 : decode cX4_stepFrom 101 = .ok (.iconst 2, 1) := by decide +kernel
theorem dX4_stepFrom_102 : decode cX4_stepFrom 102 = .ok (.getstatic 85, 3) := by decide +kernel
theorem dX4_stepFrom_105 : decode cX4_stepFrom 105 = .ok (.iload_n 2, 1) := by decide +kernel
theorem dX4_stepFrom_106 : decode cX4_stepFrom 106 = .ok (.iaload, 1) := by decide +kernel
theorem dX4_stepFrom_107 : decode cX4_stepFrom 107 = .ok (.imul, 1) := by decide +kernel
theorem dX4_stepFrom_108 : decode cX4_stepFrom 108 = .ok (.iadd, 1) := by decide +kernel
theorem dX4_stepFrom_109 : decode cX4_stepFrom 109 = .ok (.iload_n 1, 1) := by decide +kernel
theorem dX4_stepFrom_110 : decode cX4_stepFrom 110 = .ok (.iconst 3, 1) := by decide +kernel
theorem dX4_stepFrom_111 : decode cX4_stepFrom 111 = .ok (.iload_n 2, 1) := by decide +kernel
theorem dX4_stepFrom_112 : decode cX4_stepFrom 112 = .ok (.imul, 1) := by decide +kernel
theorem dX4_stepFrom_113 : decode cX4_stepFrom 113 = .ok (.iconst 2, 1) := by decide +kernel
theorem dX4_stepFrom_114 : decode cX4_stepFrom 114 = .ok (.iadd, 1) := by decide +kernel
theorem dX4_stepFrom_115 : decode cX4_stepFrom 115 = .ok (.invokevirtual 95, 3) := by decide +kernel
theorem dX4_stepFrom_118 : decode cX4_stepFrom 118 = .ok (.iinc 2 1, 3) := by decide +kernel
theorem dX4_stepFrom_121 : decode cX4_stepFrom 121 = .ok (.goto (-119), 3) := by decide +kernel
theorem dX4_stepFrom_124 : decode cX4_stepFrom 124 = .ok (.return_, 1) := by decide +kernel
set_option maxRecDepth 20000 in
theorem bX4_stepFrom_0 {G : Gx} {mm : Nat → Nat → Int32} {lm : Nat → Int64} {x1 : Int32} {o : Ou} {z : Wd} {a b : Nat} (hw : J G M_X4_stepFrom 2 [(0, .ref 32), (1, .int x1), (2, .int 0)] [] (SH, mm, lm) false o z false a b) :
    J G M_X4_stepFrom 0 [(0, .ref 32), (1, .int x1)] [] (SH, mm, lm) false o z false a b := by
  refine J_iconst (v := 0) (by decide) dX4_stepFrom_0 ?_
  refine J_istore_n [(2, .int 0), (0, .ref 32), (1, .int x1)] rfl (i := 2) (by decide) rfl dX4_stepFrom_1 ?_
  exact J_sub [1, 2, 0] rfl hw
set_option maxRecDepth 20000 in
theorem bX4_stepFrom_2 {G : Gx} {mm : Nat → Nat → Int32} {lm : Nat → Int64} {x1 : Int32} {x2 : Int32} {o : Ou} {z : Wd} {a b : Nat} (hw : (((mm 4 9) ≤ x2) → o = .inl none ∧ z = (SH, mm, lm)) ∧ ((¬ (mm 4 9) ≤ x2) → ∃ (v2 : Int32), Ct G M_X4_stateIn [.int x1, .int x2] (SH, mm, lm) false (.inl (some (.int v2))) (SH, mm, lm) false 0 0 ∧ ∃ j4 : Nat, x2 = nI j4 ∧ j4 < 9 ∧ (((x1 - (v2 * (tl_1001.getD j4 0))) = x1) → ∃ j5 : Nat, x2 = nI j5 ∧ j5 < 8 ∧ ∃ (v7 : Int32), Ct G M_X0_hangs [.ref (23 + j5)] (SH, mm, lm) false (.inl (some (.int v7))) (SH, mm, lm) false 0 0 ∧ ((v7 = 0) → ∃ j9 : Nat, x2 = nI j9 ∧ j9 < 8 ∧ ∃ (v11 : Int32), Ct G M_X0_hasPlan [.ref (23 + j9)] (SH, mm, lm) false (.inl (some (.int v11))) (SH, mm, lm) false 0 0 ∧ ((v11 = 0) → J G M_X4_stepFrom 2 [(0, .ref 32), (1, .int x1), (2, .int (x2 + 1))] [] (SH, mm, lm) false o z false a b) ∧ ((¬ v11 = 0) → ∃ j13 : Nat, x2 = nI j13 ∧ j13 < 8 ∧ ∃ (v15 : Int32), Ct G M_X0_plannedWhereItHangs [.ref (23 + j13)] (SH, mm, lm) false (.inl (some (.int v15))) (SH, mm, lm) false 0 0 ∧ ((¬ v15 = 0) → J G M_X4_stepFrom 2 [(0, .ref 32), (1, .int x1), (2, .int (x2 + 1))] [] (SH, mm, lm) false o z false a b) ∧ ((v15 = 0) → ∃ j17 : Nat, x2 = nI j17 ∧ j17 < 9 ∧ ∃ (m20 : Nat → Nat → Int32), Ct G M_X4_reach [.ref 32, .int ((x1 - (v2 * (tl_1001.getD j4 0))) + (2 * (tl_1001.getD j17 0))), .int x1, .int ((3 * x2) + 2)] (SH, mm, lm) false (.inl none) (SH, m20, lm) false 0 0 ∧ J G M_X4_stepFrom 2 [(0, .ref 32), (1, .int x1), (2, .int (x2 + 1))] [] (SH, m20, lm) false o z false a b))) ∧ ((¬ v7 = 0) → ∃ j23 : Nat, x2 = nI j23 ∧ j23 < 9 ∧ ∃ (m26 : Nat → Nat → Int32), Ct G M_X4_reach [.ref 32, .int ((x1 - (v2 * (tl_1001.getD j4 0))) + (1 * (tl_1001.getD j23 0))), .int x1, .int ((3 * x2) + 1)] (SH, mm, lm) false (.inl none) (SH, m26, lm) false 0 0 ∧ ∃ j27 : Nat, x2 = nI j27 ∧ j27 < 8 ∧ ∃ (v29 : Int32), Ct G M_X0_hasPlan [.ref (23 + j27)] (SH, m26, lm) false (.inl (some (.int v29))) (SH, m26, lm) false 0 0 ∧ ((v29 = 0) → J G M_X4_stepFrom 2 [(0, .ref 32), (1, .int x1), (2, .int (x2 + 1))] [] (SH, m26, lm) false o z false a b) ∧ ((¬ v29 = 0) → ∃ j31 : Nat, x2 = nI j31 ∧ j31 < 8 ∧ ∃ (v33 : Int32), Ct G M_X0_plannedWhereItHangs [.ref (23 + j31)] (SH, m26, lm) false (.inl (some (.int v33))) (SH, m26, lm) false 0 0 ∧ ((¬ v33 = 0) → J G M_X4_stepFrom 2 [(0, .ref 32), (1, .int x1), (2, .int (x2 + 1))] [] (SH, m26, lm) false o z false a b) ∧ ((v33 = 0) → ∃ j35 : Nat, x2 = nI j35 ∧ j35 < 9 ∧ ∃ (m38 : Nat → Nat → Int32), Ct G M_X4_reach [.ref 32, .int ((x1 - (v2 * (tl_1001.getD j4 0))) + (2 * (tl_1001.getD j35 0))), .int x1, .int ((3 * x2) + 2)] (SH, m26, lm) false (.inl none) (SH, m38, lm) false 0 0 ∧ J G M_X4_stepFrom 2 [(0, .ref 32), (1, .int x1), (2, .int (x2 + 1))] [] (SH, m38, lm) false o z false a b)))) ∧ ((¬ (x1 - (v2 * (tl_1001.getD j4 0))) = x1) → ∃ (m44 : Nat → Nat → Int32), Ct G M_X4_reach [.ref 32, .int (x1 - (v2 * (tl_1001.getD j4 0))), .int x1, .int (3 * x2)] (SH, mm, lm) false (.inl none) (SH, m44, lm) false 0 0 ∧ J G M_X4_stepFrom 2 [(0, .ref 32), (1, .int x1), (2, .int (x2 + 1))] [] (SH, m44, lm) false o z false a b))) :
    J G M_X4_stepFrom 2 [(0, .ref 32), (1, .int x1), (2, .int x2)] [] (SH, mm, lm) false o z false a b := by
  refine J_iload_n rfl (i := 2) rfl dX4_stepFrom_2 ?_
  refine J_aload_n rfl (i := 0) rfl dX4_stepFrom_3 ?_
  refine J_getr kls_4 (q := 32) (k := 0) sh_32 (by decide) rfl gw_314 dX4_stepFrom_4 ?_
  refine J_geti kls_7 (q := 4) (k := 9) sh_4 (by decide) rfl gw_207 dX4_stepFrom_7 ?_
  refine J_icmp_ge (tgt := 124) dX4_stepFrom_10 (by decide) (fun hb46 => ?_) (fun hb46 => ?_)
  · replace hw := hw.1 hb46
    exact J_finv rfl dX4_stepFrom_124 hw
  · replace hw := hw.2 hb46
    refine J_iload_n rfl (i := 1) rfl dX4_stepFrom_13 ?_
    refine J_iload_n rfl (i := 1) rfl dX4_stepFrom_14 ?_
    refine J_iload_n rfl (i := 2) rfl dX4_stepFrom_15 ?_
    obtain ⟨v2, hc1, hw⟩ := hw
    refine J_callS (as := [.int x1, .int x2]) (st := [.int x1]) cal_X4_stateIn cas_X4_stateIn gw_989 ⟨by decide, by decide⟩ cnt_X4_stateIn rfl (Nat.le_of_ble_eq_true rfl) dX4_stepFrom_16 (Nat.zero_add _).symm (Nat.zero_add _).symm hc1 ?_
    refine J_gets tb_1001 gw_982 dX4_stepFrom_19 ?_
    refine J_iload_n rfl (i := 2) rfl dX4_stepFrom_22 ?_
    obtain ⟨j4, ej4, hj4, hw⟩ := hw
    refine J_tab tb_1001 ej4 hj4 (by decide) dX4_stepFrom_23 ?_
    refine J_imul dX4_stepFrom_24 ?_
    refine J_isub dX4_stepFrom_25 ?_
    refine J_istore_n [(3, .int (x1 - (v2 * (tl_1001.getD j4 0)))), (0, .ref 32), (1, .int x1), (2, .int x2)] rfl (i := 3) (by decide) rfl dX4_stepFrom_26 ?_
    refine J_iload_n rfl (i := 3) rfl dX4_stepFrom_27 ?_
    refine J_iload_n rfl (i := 1) rfl dX4_stepFrom_28 ?_
    refine J_icmp_eq (tgt := 44) dX4_stepFrom_29 (by decide) (fun hb45 => ?_) (fun hb45 => ?_)
    · replace hw := hw.1 hb45
      refine J_aload_n rfl (i := 0) rfl dX4_stepFrom_44 ?_
      refine J_getr kls_4 (q := 32) (k := 1) sh_32 (by decide) rfl gw_315 dX4_stepFrom_45 ?_
      refine J_iload_n rfl (i := 2) rfl dX4_stepFrom_48 ?_
      obtain ⟨j5, ej5, hj5, hw⟩ := hw
      refine J_aald (r := 23 + j5) sh_22 ej5 hj5 (by decide) (if_pos hj5) dX4_stepFrom_49 ?_
      obtain ⟨v7, hc6, hw⟩ := hw
      refine J_callV (as := []) (k := (23 + j5)) (st := []) cal_X0_hangs cai_X0_hangs gw_984 ⟨by decide, by decide⟩ cnt_X0_hangs (sh_b23 hj5) rfl rfl (Nat.le_of_ble_eq_true rfl) dX4_stepFrom_50 (Nat.zero_add _).symm (Nat.zero_add _).symm hc6 ?_
      refine J_if_eq (tgt := 75) dX4_stepFrom_53 (by decide) (fun hb41 => ?_) (fun hb41 => ?_)
      · replace hw := hw.1 hb41
        refine J_aload_n rfl (i := 0) rfl dX4_stepFrom_75 ?_
        refine J_getr kls_4 (q := 32) (k := 1) sh_32 (by decide) rfl gw_315 dX4_stepFrom_76 ?_
        refine J_iload_n rfl (i := 2) rfl dX4_stepFrom_79 ?_
        obtain ⟨j9, ej9, hj9, hw⟩ := hw
        refine J_aald (r := 23 + j9) sh_22 ej9 hj9 (by decide) (if_pos hj9) dX4_stepFrom_80 ?_
        obtain ⟨v11, hc10, hw⟩ := hw
        refine J_callV (as := []) (k := (23 + j9)) (st := []) cal_X0_hasPlan cai_X0_hasPlan gw_950 ⟨by decide, by decide⟩ cnt_X0_hasPlan (sh_b23 hj9) rfl rfl (Nat.le_of_ble_eq_true rfl) dX4_stepFrom_81 (Nat.zero_add _).symm (Nat.zero_add _).symm hc10 ?_
        refine J_if_eq (tgt := 118) dX4_stepFrom_84 (by decide) (fun hb22 => ?_) (fun hb22 => ?_)
        · replace hw := hw.1 hb22
          refine J_iinc [(2, .int (x2 + 1)), (3, .int (x1 - (v2 * (tl_1001.getD j4 0)))), (0, .ref 32), (1, .int x1)] (i := 2) (v := (x2 + 1)) rfl rfl (by decide) rfl dX4_stepFrom_118 ?_
          refine J_goto (tgt := 2) dX4_stepFrom_121 (by decide) ?_
          exact J_sub [2, 3, 0] rfl hw
        · replace hw := hw.2 hb22
          refine J_aload_n rfl (i := 0) rfl dX4_stepFrom_87 ?_
          refine J_getr kls_4 (q := 32) (k := 1) sh_32 (by decide) rfl gw_315 dX4_stepFrom_88 ?_
          refine J_iload_n rfl (i := 2) rfl dX4_stepFrom_91 ?_
          obtain ⟨j13, ej13, hj13, hw⟩ := hw
          refine J_aald (r := 23 + j13) sh_22 ej13 hj13 (by decide) (if_pos hj13) dX4_stepFrom_92 ?_
          obtain ⟨v15, hc14, hw⟩ := hw
          refine J_callV (as := []) (k := (23 + j13)) (st := []) cal_X0_plannedWhereItHangs cai_X0_plannedWhereItHangs gw_977 ⟨by decide, by decide⟩ cnt_X0_plannedWhereItHangs (sh_b23 hj13) rfl rfl (Nat.le_of_ble_eq_true rfl) dX4_stepFrom_93 (Nat.zero_add _).symm (Nat.zero_add _).symm hc14 ?_
          refine J_if_ne (tgt := 118) dX4_stepFrom_96 (by decide) (fun hb21 => ?_) (fun hb21 => ?_)
          · replace hw := hw.1 hb21
            refine J_iinc [(2, .int (x2 + 1)), (3, .int (x1 - (v2 * (tl_1001.getD j4 0)))), (0, .ref 32), (1, .int x1)] (i := 2) (v := (x2 + 1)) rfl rfl (by decide) rfl dX4_stepFrom_118 ?_
            refine J_goto (tgt := 2) dX4_stepFrom_121 (by decide) ?_
            exact J_sub [2, 3, 0] rfl hw
          · replace hw := hw.2 hb21
            refine J_aload_n rfl (i := 0) rfl dX4_stepFrom_99 ?_
            refine J_iload_n rfl (i := 3) rfl dX4_stepFrom_100 ?_
            refine J_iconst (v := 2) (by decide) dX4_stepFrom_101 ?_
            refine J_gets tb_1001 gw_982 dX4_stepFrom_102 ?_
            refine J_iload_n rfl (i := 2) rfl dX4_stepFrom_105 ?_
            obtain ⟨j17, ej17, hj17, hw⟩ := hw
            refine J_tab tb_1001 ej17 hj17 (by decide) dX4_stepFrom_106 ?_
            refine J_imul dX4_stepFrom_107 ?_
            refine J_iadd dX4_stepFrom_108 ?_
            refine J_iload_n rfl (i := 1) rfl dX4_stepFrom_109 ?_
            refine J_iconst (v := 3) (by decide) dX4_stepFrom_110 ?_
            refine J_iload_n rfl (i := 2) rfl dX4_stepFrom_111 ?_
            refine J_imul dX4_stepFrom_112 ?_
            refine J_iconst (v := 2) (by decide) dX4_stepFrom_113 ?_
            refine J_iadd dX4_stepFrom_114 ?_
            obtain ⟨m20, hc18, hw⟩ := hw
            refine J_callV (as := [.int ((x1 - (v2 * (tl_1001.getD j4 0))) + (2 * (tl_1001.getD j17 0))), .int x1, .int ((3 * x2) + 2)]) (k := 32) (st := []) cal_X4_reach cai_X4_reach gw_1043 ⟨by decide, by decide⟩ cnt_X4_reach sh_32 rfl rfl (Nat.le_of_ble_eq_true rfl) dX4_stepFrom_115 (Nat.zero_add _).symm (Nat.zero_add _).symm hc18 ?_
            refine J_iinc [(2, .int (x2 + 1)), (3, .int (x1 - (v2 * (tl_1001.getD j4 0)))), (0, .ref 32), (1, .int x1)] (i := 2) (v := (x2 + 1)) rfl rfl (by decide) rfl dX4_stepFrom_118 ?_
            refine J_goto (tgt := 2) dX4_stepFrom_121 (by decide) ?_
            exact J_sub [2, 3, 0] rfl hw
      · replace hw := hw.2 hb41
        refine J_aload_n rfl (i := 0) rfl dX4_stepFrom_56 ?_
        refine J_iload_n rfl (i := 3) rfl dX4_stepFrom_57 ?_
        refine J_iconst (v := 1) (by decide) dX4_stepFrom_58 ?_
        refine J_gets tb_1001 gw_982 dX4_stepFrom_59 ?_
        refine J_iload_n rfl (i := 2) rfl dX4_stepFrom_62 ?_
        obtain ⟨j23, ej23, hj23, hw⟩ := hw
        refine J_tab tb_1001 ej23 hj23 (by decide) dX4_stepFrom_63 ?_
        refine J_imul dX4_stepFrom_64 ?_
        refine J_iadd dX4_stepFrom_65 ?_
        refine J_iload_n rfl (i := 1) rfl dX4_stepFrom_66 ?_
        refine J_iconst (v := 3) (by decide) dX4_stepFrom_67 ?_
        refine J_iload_n rfl (i := 2) rfl dX4_stepFrom_68 ?_
        refine J_imul dX4_stepFrom_69 ?_
        refine J_iconst (v := 1) (by decide) dX4_stepFrom_70 ?_
        refine J_iadd dX4_stepFrom_71 ?_
        obtain ⟨m26, hc24, hw⟩ := hw
        refine J_callV (as := [.int ((x1 - (v2 * (tl_1001.getD j4 0))) + (1 * (tl_1001.getD j23 0))), .int x1, .int ((3 * x2) + 1)]) (k := 32) (st := []) cal_X4_reach cai_X4_reach gw_1043 ⟨by decide, by decide⟩ cnt_X4_reach sh_32 rfl rfl (Nat.le_of_ble_eq_true rfl) dX4_stepFrom_72 (Nat.zero_add _).symm (Nat.zero_add _).symm hc24 ?_
        refine J_aload_n rfl (i := 0) rfl dX4_stepFrom_75 ?_
        refine J_getr kls_4 (q := 32) (k := 1) sh_32 (by decide) rfl gw_315 dX4_stepFrom_76 ?_
        refine J_iload_n rfl (i := 2) rfl dX4_stepFrom_79 ?_
        obtain ⟨j27, ej27, hj27, hw⟩ := hw
        refine J_aald (r := 23 + j27) sh_22 ej27 hj27 (by decide) (if_pos hj27) dX4_stepFrom_80 ?_
        obtain ⟨v29, hc28, hw⟩ := hw
        refine J_callV (as := []) (k := (23 + j27)) (st := []) cal_X0_hasPlan cai_X0_hasPlan gw_950 ⟨by decide, by decide⟩ cnt_X0_hasPlan (sh_b23 hj27) rfl rfl (Nat.le_of_ble_eq_true rfl) dX4_stepFrom_81 (Nat.zero_add _).symm (Nat.zero_add _).symm hc28 ?_
        refine J_if_eq (tgt := 118) dX4_stepFrom_84 (by decide) (fun hb40 => ?_) (fun hb40 => ?_)
        · replace hw := hw.1 hb40
          refine J_iinc [(2, .int (x2 + 1)), (3, .int (x1 - (v2 * (tl_1001.getD j4 0)))), (0, .ref 32), (1, .int x1)] (i := 2) (v := (x2 + 1)) rfl rfl (by decide) rfl dX4_stepFrom_118 ?_
          refine J_goto (tgt := 2) dX4_stepFrom_121 (by decide) ?_
          exact J_sub [2, 3, 0] rfl hw
        · replace hw := hw.2 hb40
          refine J_aload_n rfl (i := 0) rfl dX4_stepFrom_87 ?_
          refine J_getr kls_4 (q := 32) (k := 1) sh_32 (by decide) rfl gw_315 dX4_stepFrom_88 ?_
          refine J_iload_n rfl (i := 2) rfl dX4_stepFrom_91 ?_
          obtain ⟨j31, ej31, hj31, hw⟩ := hw
          refine J_aald (r := 23 + j31) sh_22 ej31 hj31 (by decide) (if_pos hj31) dX4_stepFrom_92 ?_
          obtain ⟨v33, hc32, hw⟩ := hw
          refine J_callV (as := []) (k := (23 + j31)) (st := []) cal_X0_plannedWhereItHangs cai_X0_plannedWhereItHangs gw_977 ⟨by decide, by decide⟩ cnt_X0_plannedWhereItHangs (sh_b23 hj31) rfl rfl (Nat.le_of_ble_eq_true rfl) dX4_stepFrom_93 (Nat.zero_add _).symm (Nat.zero_add _).symm hc32 ?_
          refine J_if_ne (tgt := 118) dX4_stepFrom_96 (by decide) (fun hb39 => ?_) (fun hb39 => ?_)
          · replace hw := hw.1 hb39
            refine J_iinc [(2, .int (x2 + 1)), (3, .int (x1 - (v2 * (tl_1001.getD j4 0)))), (0, .ref 32), (1, .int x1)] (i := 2) (v := (x2 + 1)) rfl rfl (by decide) rfl dX4_stepFrom_118 ?_
            refine J_goto (tgt := 2) dX4_stepFrom_121 (by decide) ?_
            exact J_sub [2, 3, 0] rfl hw
          · replace hw := hw.2 hb39
            refine J_aload_n rfl (i := 0) rfl dX4_stepFrom_99 ?_
            refine J_iload_n rfl (i := 3) rfl dX4_stepFrom_100 ?_
            refine J_iconst (v := 2) (by decide) dX4_stepFrom_101 ?_
            refine J_gets tb_1001 gw_982 dX4_stepFrom_102 ?_
            refine J_iload_n rfl (i := 2) rfl dX4_stepFrom_105 ?_
            obtain ⟨j35, ej35, hj35, hw⟩ := hw
            refine J_tab tb_1001 ej35 hj35 (by decide) dX4_stepFrom_106 ?_
            refine J_imul dX4_stepFrom_107 ?_
            refine J_iadd dX4_stepFrom_108 ?_
            refine J_iload_n rfl (i := 1) rfl dX4_stepFrom_109 ?_
            refine J_iconst (v := 3) (by decide) dX4_stepFrom_110 ?_
            refine J_iload_n rfl (i := 2) rfl dX4_stepFrom_111 ?_
            refine J_imul dX4_stepFrom_112 ?_
            refine J_iconst (v := 2) (by decide) dX4_stepFrom_113 ?_
            refine J_iadd dX4_stepFrom_114 ?_
            obtain ⟨m38, hc36, hw⟩ := hw
            refine J_callV (as := [.int ((x1 - (v2 * (tl_1001.getD j4 0))) + (2 * (tl_1001.getD j35 0))), .int x1, .int ((3 * x2) + 2)]) (k := 32) (st := []) cal_X4_reach cai_X4_reach gw_1043 ⟨by decide, by decide⟩ cnt_X4_reach sh_32 rfl rfl (Nat.le_of_ble_eq_true rfl) dX4_stepFrom_115 (Nat.zero_add _).symm (Nat.zero_add _).symm hc36 ?_
            refine J_iinc [(2, .int (x2 + 1)), (3, .int (x1 - (v2 * (tl_1001.getD j4 0)))), (0, .ref 32), (1, .int x1)] (i := 2) (v := (x2 + 1)) rfl rfl (by decide) rfl dX4_stepFrom_118 ?_
            refine J_goto (tgt := 2) dX4_stepFrom_121 (by decide) ?_
            exact J_sub [2, 3, 0] rfl hw
    · replace hw := hw.2 hb45
      refine J_aload_n rfl (i := 0) rfl dX4_stepFrom_32 ?_
      refine J_iload_n rfl (i := 3) rfl dX4_stepFrom_33 ?_
      refine J_iload_n rfl (i := 1) rfl dX4_stepFrom_34 ?_
      refine J_iconst (v := 3) (by decide) dX4_stepFrom_35 ?_
      refine J_iload_n rfl (i := 2) rfl dX4_stepFrom_36 ?_
      refine J_imul dX4_stepFrom_37 ?_
      obtain ⟨m44, hc42, hw⟩ := hw
      refine J_callV (as := [.int (x1 - (v2 * (tl_1001.getD j4 0))), .int x1, .int (3 * x2)]) (k := 32) (st := []) cal_X4_reach cai_X4_reach gw_1043 ⟨by decide, by decide⟩ cnt_X4_reach sh_32 rfl rfl (Nat.le_of_ble_eq_true rfl) dX4_stepFrom_38 (Nat.zero_add _).symm (Nat.zero_add _).symm hc42 ?_
      refine J_goto (tgt := 118) dX4_stepFrom_41 (by decide) ?_
      refine J_iinc [(2, .int (x2 + 1)), (3, .int (x1 - (v2 * (tl_1001.getD j4 0)))), (0, .ref 32), (1, .int x1)] (i := 2) (v := (x2 + 1)) rfl rfl (by decide) rfl dX4_stepFrom_118 ?_
      refine J_goto (tgt := 2) dX4_stepFrom_121 (by decide) ?_
      exact J_sub [2, 3, 0] rfl hw
theorem dX4_reach_0 : decode cX4_reach 0 = .ok (.iload_n 1, 1) := by decide +kernel
theorem dX4_reach_1 : decode cX4_reach 1 = .ok (.ifCond .lt 20, 3) := by decide +kernel
theorem dX4_reach_4 : decode cX4_reach 4 = .ok (.iload_n 1, 1) := by decide +kernel
theorem dX4_reach_5 : decode cX4_reach 5 = .ok (.sipush 6561, 3) := by decide +kernel
theorem dX4_reach_8 : decode cX4_reach 8 = .ok (.if_icmp .ge 13, 3) := by decide +kernel
theorem dX4_reach_11 : decode cX4_reach 11 = .ok (.aload_n 0, 1) := by decide +kernel
theorem dX4_reach_12 : decode cX4_reach 12 = .ok (.getfield 11, 3) := by decide +kernel
theorem dX4_reach_15 : decode cX4_reach 15 = .ok (.iload_n 1, 1) := by decide +kernel
theorem dX4_reach_16 : decode cX4_reach 16 = .ok (.iaload, 1) := by decide +kernel
theorem dX4_reach_17 : decode cX4_reach 17 = .ok (.iconst (-1), 1) := by decide +kernel
theorem dX4_reach_18 : decode cX4_reach 18 = .ok (.if_icmp .eq 4, 3) := by decide +kernel
theorem dX4_reach_21 : decode cX4_reach 21 = .ok (.return_, 1) := by decide +kernel
theorem dX4_reach_22 : decode cX4_reach 22 = .ok (.aload_n 0, 1) := by decide +kernel
theorem dX4_reach_23 : decode cX4_reach 23 = .ok (.iload_n 1, 1) := by decide +kernel
theorem dX4_reach_24 : decode cX4_reach 24 = .ok (.invokevirtual 69, 3) := by decide +kernel
theorem dX4_reach_27 : decode cX4_reach 27 = .ok (.ifCond .ne 14, 3) := by decide +kernel
theorem dX4_reach_30 : decode cX4_reach 30 = .ok (.aload_n 0, 1) := by decide +kernel
theorem dX4_reach_31 : decode cX4_reach 31 = .ok (.getfield 11, 3) := by decide +kernel
theorem dX4_reach_34 : decode cX4_reach 34 = .ok (.iload_n 1, 1) := by decide +kernel
theorem dX4_reach_35 : decode cX4_reach 35 = .ok (.bipush (-2), 2) := by decide +kernel
theorem dX4_reach_37 : decode cX4_reach 37 = .ok (.iastore, 1) := by decide +kernel
theorem dX4_reach_38 : decode cX4_reach 38 = .ok (.goto 45, 3) := by decide +kernel
theorem dX4_reach_41 : decode cX4_reach 41 = .ok (.aload_n 0, 1) := by decide +kernel
theorem dX4_reach_42 : decode cX4_reach 42 = .ok (.getfield 66, 3) := by decide +kernel
theorem dX4_reach_45 : decode cX4_reach 45 = .ok (.sipush 6561, 3) := by decide +kernel
theorem dX4_reach_48 : decode cX4_reach 48 = .ok (.if_icmp .ge 35, 3) := by decide +kernel
theorem dX4_reach_51 : decode cX4_reach 51 = .ok (.aload_n 0, 1) := by decide +kernel
theorem dX4_reach_52 : decode cX4_reach 52 = .ok (.getfield 11, 3) := by decide +kernel
theorem dX4_reach_55 : decode cX4_reach 55 = .ok (.iload_n 1, 1) := by decide +kernel
theorem dX4_reach_56 : decode cX4_reach 56 = .ok (.iload_n 2, 1) := by decide +kernel
theorem dX4_reach_57 : decode cX4_reach 57 = .ok (.bipush 32, 2) := by decide +kernel
theorem dX4_reach_59 : decode cX4_reach 59 = .ok (.imul, 1) := by decide +kernel
theorem dX4_reach_60 : decode cX4_reach 60 = .ok (.iload_n 3, 1) := by decide +kernel
theorem dX4_reach_61 : decode cX4_reach 61 = .ok (.iadd, 1) := by decide +kernel
theorem dX4_reach_62 : decode cX4_reach 62 = .ok (.iastore, 1) := by decide +kernel
theorem dX4_reach_63 : decode cX4_reach 63 = .ok (.aload_n 0, 1) := by decide +kernel
theorem dX4_reach_64 : decode cX4_reach 64 = .ok (.getfield 15, 3) := by decide +kernel
theorem dX4_reach_67 : decode cX4_reach 67 = .ok (.aload_n 0, 1) := by decide +kernel
theorem dX4_reach_68 : decode cX4_reach 68 = .ok (.getfield 66, 3) := by decide +kernel
theorem dX4_reach_71 : decode cX4_reach 71 = .ok (.iload_n 1, 1) := by decide +kernel
theorem dX4_reach_72 : decode cX4_reach 72 = .ok (.iastore, 1) := by decide +kernel
theorem dX4_reach_73 : decode cX4_reach 73 = .ok (.aload_n 0, 1) := by decide +kernel
theorem dX4_reach_74 : decode cX4_reach 74 = .ok (.dup, 1) := by decide +kernel
theorem dX4_reach_75 : decode cX4_reach 75 = .ok (.getfield 66, 3) := by decide +kernel
theorem dX4_reach_78 : decode cX4_reach 78 = .ok (.iconst 1, 1) := by decide +kernel
theorem dX4_reach_79 : decode cX4_reach 79 = .ok (.iadd, 1) := by decide +kernel
theorem dX4_reach_80 : decode cX4_reach 80 = .ok (.putfield 66, 3) := by decide +kernel
theorem dX4_reach_83 : decode cX4_reach 83 = .ok (.return_, 1) := by decide +kernel
set_option maxRecDepth 20000 in
theorem bX4_reach_0 {G : Gx} {mm : Nat → Nat → Int32} {lm : Nat → Int64} {x1 : Int32} {x2 : Int32} {x3 : Int32} {o : Ou} {z : Wd} {a b : Nat} (hw : ((x1 < 0) → o = .inl none ∧ z = (SH, mm, lm)) ∧ ((¬ x1 < 0) → ((6561 ≤ x1) → o = .inl none ∧ z = (SH, mm, lm)) ∧ ((¬ 6561 ≤ x1) → ∃ j1 : Nat, x1 = nI j1 ∧ j1 < 6561 ∧ (((mm 33 j1) = (-1)) → ∃ (v3 : Int32) (m4 : Nat → Nat → Int32), Ct G M_X4_allowed [.ref 32, .int x1] (SH, mm, lm) false (.inl (some (.int v3))) (SH, m4, lm) false 0 0 ∧ ((¬ v3 = 0) → ((6561 ≤ (m4 32 7)) → o = .inl none ∧ z = (SH, m4, lm)) ∧ ((¬ 6561 ≤ (m4 32 7)) → ∃ j5 : Nat, x1 = nI j5 ∧ j5 < 6561 ∧ ∃ j6 : Nat, ((mset m4 33 j5 ((x2 * 32) + x3)) 32 7) = nI j6 ∧ j6 < 6561 ∧ o = .inl none ∧ z = (SH, (mset (mset (mset m4 33 j5 ((x2 * 32) + x3)) 34 j6 x1) 32 7 (((mset (mset m4 33 j5 ((x2 * 32) + x3)) 34 j6 x1) 32 7) + 1)), lm))) ∧ ((v3 = 0) → ∃ j8 : Nat, x1 = nI j8 ∧ j8 < 6561 ∧ o = .inl none ∧ z = (SH, (mset m4 33 j8 (-2)), lm))) ∧ ((¬ (mm 33 j1) = (-1)) → o = .inl none ∧ z = (SH, mm, lm))))) :
    J G M_X4_reach 0 [(0, .ref 32), (1, .int x1), (2, .int x2), (3, .int x3)] [] (SH, mm, lm) false o z false a b := by
  refine J_iload_n rfl (i := 1) rfl dX4_reach_0 ?_
  refine J_if_lt (tgt := 21) dX4_reach_1 (by decide) (fun hb12 => ?_) (fun hb12 => ?_)
  · replace hw := hw.1 hb12
    exact J_finv rfl dX4_reach_21 hw
  · replace hw := hw.2 hb12
    refine J_iload_n rfl (i := 1) rfl dX4_reach_4 ?_
    refine J_sipush (v := 6561) (by decide) dX4_reach_5 ?_
    refine J_icmp_ge (tgt := 21) dX4_reach_8 (by decide) (fun hb11 => ?_) (fun hb11 => ?_)
    · replace hw := hw.1 hb11
      exact J_finv rfl dX4_reach_21 hw
    · replace hw := hw.2 hb11
      refine J_aload_n rfl (i := 0) rfl dX4_reach_11 ?_
      refine J_getr kls_4 (q := 32) (k := 2) sh_32 (by decide) rfl gw_316 dX4_reach_12 ?_
      refine J_iload_n rfl (i := 1) rfl dX4_reach_15 ?_
      obtain ⟨j1, ej1, hj1, hw⟩ := hw
      refine J_iald sh_33 ej1 hj1 (by decide) dX4_reach_16 ?_
      refine J_iconst (v := (-1)) (by decide) dX4_reach_17 ?_
      refine J_icmp_eq (tgt := 22) dX4_reach_18 (by decide) (fun hb10 => ?_) (fun hb10 => ?_)
      · replace hw := hw.1 hb10
        refine J_aload_n rfl (i := 0) rfl dX4_reach_22 ?_
        refine J_iload_n rfl (i := 1) rfl dX4_reach_23 ?_
        obtain ⟨v3, m4, hc2, hw⟩ := hw
        refine J_callV (as := [.int x1]) (k := 32) (st := []) cal_X4_allowed cai_X4_allowed gw_1031 ⟨by decide, by decide⟩ cnt_X4_allowed sh_32 rfl rfl (Nat.le_of_ble_eq_true rfl) dX4_reach_24 (Nat.zero_add _).symm (Nat.zero_add _).symm hc2 ?_
        refine J_if_ne (tgt := 41) dX4_reach_27 (by decide) (fun hb9 => ?_) (fun hb9 => ?_)
        · replace hw := hw.1 hb9
          refine J_aload_n rfl (i := 0) rfl dX4_reach_41 ?_
          refine J_geti kls_4 (q := 32) (k := 7) sh_32 (by decide) rfl gw_321 dX4_reach_42 ?_
          refine J_sipush (v := 6561) (by decide) dX4_reach_45 ?_
          refine J_icmp_ge (tgt := 83) dX4_reach_48 (by decide) (fun hb7 => ?_) (fun hb7 => ?_)
          · replace hw := hw.1 hb7
            exact J_finv rfl dX4_reach_83 hw
          · replace hw := hw.2 hb7
            refine J_aload_n rfl (i := 0) rfl dX4_reach_51 ?_
            refine J_getr kls_4 (q := 32) (k := 2) sh_32 (by decide) rfl gw_316 dX4_reach_52 ?_
            refine J_iload_n rfl (i := 1) rfl dX4_reach_55 ?_
            refine J_iload_n rfl (i := 2) rfl dX4_reach_56 ?_
            refine J_bipush (v := 32) (by decide) dX4_reach_57 ?_
            refine J_imul dX4_reach_59 ?_
            refine J_iload_n rfl (i := 3) rfl dX4_reach_60 ?_
            refine J_iadd dX4_reach_61 ?_
            obtain ⟨j5, ej5, hj5, hw⟩ := hw
            refine J_iast sh_33 ej5 hj5 (by decide) dX4_reach_62 ?_
            refine J_aload_n rfl (i := 0) rfl dX4_reach_63 ?_
            refine J_getr kls_4 (q := 32) (k := 3) sh_32 (by decide) rfl gw_317 dX4_reach_64 ?_
            refine J_aload_n rfl (i := 0) rfl dX4_reach_67 ?_
            refine J_geti kls_4 (q := 32) (k := 7) sh_32 (by decide) rfl gw_321 dX4_reach_68 ?_
            refine J_iload_n rfl (i := 1) rfl dX4_reach_71 ?_
            obtain ⟨j6, ej6, hj6, hw⟩ := hw
            refine J_iast sh_34 ej6 hj6 (by decide) dX4_reach_72 ?_
            refine J_aload_n rfl (i := 0) rfl dX4_reach_73 ?_
            refine J_dupr dX4_reach_74 ?_
            refine J_geti kls_4 (q := 32) (k := 7) sh_32 (by decide) rfl gw_321 dX4_reach_75 ?_
            refine J_iconst (v := 1) (by decide) dX4_reach_78 ?_
            refine J_iadd dX4_reach_79 ?_
            refine J_puti kls_4 (q := 32) (k := 7) sh_32 (by decide) rfl rfl (fun _ => rfl) (fun _ => rfl) gw_321 dX4_reach_80 ?_
            exact J_finv rfl dX4_reach_83 hw
        · replace hw := hw.2 hb9
          refine J_aload_n rfl (i := 0) rfl dX4_reach_30 ?_
          refine J_getr kls_4 (q := 32) (k := 2) sh_32 (by decide) rfl gw_316 dX4_reach_31 ?_
          refine J_iload_n rfl (i := 1) rfl dX4_reach_34 ?_
          refine J_bipush (v := (-2)) (by decide) dX4_reach_35 ?_
          obtain ⟨j8, ej8, hj8, hw⟩ := hw
          refine J_iast sh_33 ej8 hj8 (by decide) dX4_reach_37 ?_
          refine J_goto (tgt := 83) dX4_reach_38 (by decide) ?_
          exact J_finv rfl dX4_reach_83 hw
      · replace hw := hw.2 hb10
        exact J_finv rfl dX4_reach_21 hw
theorem dX4_allowed_0 : decode cX4_allowed 0 = .ok (.aload_n 0, 1) := by decide +kernel
theorem dX4_allowed_1 : decode cX4_allowed 1 = .ok (.iload_n 1, 1) := by decide +kernel
theorem dX4_allowed_2 : decode cX4_allowed 2 = .ok (.invokevirtual 50, 3) := by decide +kernel
theorem dX4_allowed_5 : decode cX4_allowed 5 = .ok (.aload_n 0, 1) := by decide +kernel
theorem dX4_allowed_6 : decode cX4_allowed 6 = .ok (.invokevirtual 57, 3) := by decide +kernel
theorem dX4_allowed_9 : decode cX4_allowed 9 = .ok (.ifCond .ne 14, 3) := by decide +kernel
theorem dX4_allowed_12 : decode cX4_allowed 12 = .ok (.aload_n 0, 1) := by decide +kernel
theorem dX4_allowed_13 : decode cX4_allowed 13 = .ok (.invokevirtual 54, 3) := by decide +kernel
theorem dX4_allowed_16 : decode cX4_allowed 16 = .ok (.ifCond .ne 7, 3) := by decide +kernel
theorem dX4_allowed_19 : decode cX4_allowed 19 = .ok (.iconst 1, 1) := by decide +kernel
theorem dX4_allowed_20 : decode cX4_allowed 20 = .ok (.goto 4, 3) := by decide +kernel
theorem dX4_allowed_23 : decode cX4_allowed 23 = .ok (.iconst 0, 1) := by decide +kernel
theorem dX4_allowed_24 : decode cX4_allowed 24 = .ok (.ireturn, 1) := by decide +kernel
set_option maxRecDepth 20000 in
theorem bX4_allowed_0 {G : Gx} {mm : Nat → Nat → Int32} {lm : Nat → Int64} {x1 : Int32} {o : Ou} {z : Wd} {a b : Nat} (hw : ∃ (m3 : Nat → Nat → Int32), Ct G M_X4_arrange [.ref 32, .int x1] (SH, mm, lm) false (.inl none) (SH, m3, lm) false 0 0 ∧ ∃ (v5 : Int32), Ct G M_X4_unbalancedThere [.ref 32] (SH, m3, lm) false (.inl (some (.int v5))) (SH, m3, lm) false 0 0 ∧ ((¬ v5 = 0) → o = .inl (some (.int 0)) ∧ z = (SH, m3, lm)) ∧ ((v5 = 0) → ∃ (v8 : Int32), Ct G M_X4_conflictsThere [.ref 32] (SH, m3, lm) false (.inl (some (.int v8))) (SH, m3, lm) false 0 0 ∧ ((¬ v8 = 0) → o = .inl (some (.int 0)) ∧ z = (SH, m3, lm)) ∧ ((v8 = 0) → o = .inl (some (.int 1)) ∧ z = (SH, m3, lm)))) :
    J G M_X4_allowed 0 [(0, .ref 32), (1, .int x1)] [] (SH, mm, lm) false o z false a b := by
  refine J_aload_n rfl (i := 0) rfl dX4_allowed_0 ?_
  refine J_iload_n rfl (i := 1) rfl dX4_allowed_1 ?_
  obtain ⟨m3, hc1, hw⟩ := hw
  refine J_callV (as := [.int x1]) (k := 32) (st := []) cal_X4_arrange cai_X4_arrange gw_985 ⟨by decide, by decide⟩ cnt_X4_arrange sh_32 rfl rfl (Nat.le_of_ble_eq_true rfl) dX4_allowed_2 (Nat.zero_add _).symm (Nat.zero_add _).symm hc1 ?_
  refine J_aload_n rfl (i := 0) rfl dX4_allowed_5 ?_
  obtain ⟨v5, hc4, hw⟩ := hw
  refine J_callV (as := []) (k := 32) (st := []) cal_X4_unbalancedThere cai_X4_unbalancedThere gw_1011 ⟨by decide, by decide⟩ cnt_X4_unbalancedThere sh_32 rfl rfl (Nat.le_of_ble_eq_true rfl) dX4_allowed_6 (Nat.zero_add _).symm (Nat.zero_add _).symm hc4 ?_
  refine J_if_ne (tgt := 23) dX4_allowed_9 (by decide) (fun hb11 => ?_) (fun hb11 => ?_)
  · replace hw := hw.1 hb11
    refine J_iconst (v := 0) (by decide) dX4_allowed_23 ?_
    exact J_fini (ty := .boolean) rfl rfl dX4_allowed_24 hw
  · replace hw := hw.2 hb11
    refine J_aload_n rfl (i := 0) rfl dX4_allowed_12 ?_
    obtain ⟨v8, hc7, hw⟩ := hw
    refine J_callV (as := []) (k := 32) (st := []) cal_X4_conflictsThere cai_X4_conflictsThere gw_995 ⟨by decide, by decide⟩ cnt_X4_conflictsThere sh_32 rfl rfl (Nat.le_of_ble_eq_true rfl) dX4_allowed_13 (Nat.zero_add _).symm (Nat.zero_add _).symm hc7 ?_
    refine J_if_ne (tgt := 23) dX4_allowed_16 (by decide) (fun hb10 => ?_) (fun hb10 => ?_)
    · replace hw := hw.1 hb10
      refine J_iconst (v := 0) (by decide) dX4_allowed_23 ?_
      exact J_fini (ty := .boolean) rfl rfl dX4_allowed_24 hw
    · replace hw := hw.2 hb10
      refine J_iconst (v := 1) (by decide) dX4_allowed_19 ?_
      refine J_goto (tgt := 24) dX4_allowed_20 (by decide) ?_
      exact J_fini (ty := .boolean) rfl rfl dX4_allowed_24 hw
theorem dX4_arrange_0 : decode cX4_arrange 0 = .ok (.iconst 0, 1) := by decide +kernel
theorem dX4_arrange_1 : decode cX4_arrange 1 = .ok (.istore_n 2, 1) := by decide +kernel
theorem dX4_arrange_2 : decode cX4_arrange 2 = .ok (.iload_n 2, 1) := by decide +kernel
theorem dX4_arrange_3 : decode cX4_arrange 3 = .ok (.iconst 4, 1) := by decide +kernel
theorem dX4_arrange_4 : decode cX4_arrange 4 = .ok (.if_icmp .ge 16, 3) := by decide +kernel
theorem dX4_arrange_7 : decode cX4_arrange 7 = .ok (.aload_n 0, 1) := by decide +kernel
theorem dX4_arrange_8 : decode cX4_arrange 8 = .ok (.getfield 24, 3) := by decide +kernel
theorem dX4_arrange_11 : decode cX4_arrange 11 = .ok (.iload_n 2, 1) := by decide +kernel
theorem dX4_arrange_12 : decode cX4_arrange 12 = .ok (.iconst 0, 1) := by decide +kernel
theorem dX4_arrange_13 : decode cX4_arrange 13 = .ok (.iastore, 1) := by decide +kernel
theorem dX4_arrange_14 : decode cX4_arrange 14 = .ok (.iinc 2 1, 3) := by decide +kernel
theorem dX4_arrange_17 : decode cX4_arrange 17 = .ok (.goto (-15), 3) := by decide +kernel
theorem dX4_arrange_20 : decode cX4_arrange 20 = .ok (.iconst 0, 1) := by decide +kernel
theorem dX4_arrange_21 : decode cX4_arrange 21 = .ok (.istore_n 2, 1) := by decide +kernel
theorem dX4_arrange_22 : decode cX4_arrange 22 = .ok (.iload_n 2, 1) := by decide +kernel
theorem dX4_arrange_23 : decode cX4_arrange 23 = .ok (.aload_n 0, 1) := by decide +kernel
theorem dX4_arrange_24 : decode cX4_arrange 24 = .ok (.getfield 27, 3) := by decide +kernel
theorem dX4_arrange_27 : decode cX4_arrange 27 = .ok (.getfield 35, 3) := by decide +kernel
theorem dX4_arrange_30 : decode cX4_arrange 30 = .ok (.if_icmp .ge 104, 3) := by decide +kernel
theorem dX4_arrange_33 : decode cX4_arrange 33 = .ok (.iload_n 1, 1) := by decide +kernel
theorem dX4_arrange_34 : decode cX4_arrange 34 = .ok (.iload_n 2, 1) := by decide +kernel
theorem dX4_arrange_35 : decode cX4_arrange 35 = .ok (.invokestatic 91, 3) := by decide +kernel
theorem dX4_arrange_38 : decode cX4_arrange 38 = .ok (.istore_n 3, 1) := by decide +kernel
theorem dX4_arrange_39 : decode cX4_arrange 39 = .ok (.iload_n 3, 1) := by decide +kernel
theorem dX4_arrange_40 : decode cX4_arrange 40 = .ok (.aload_n 0, 1) := by decide +kernel
theorem dX4_arrange_41 : decode cX4_arrange 41 = .ok (.getfield 31, 3) := by decide +kernel
theorem dX4_arrange_44 : decode cX4_arrange 44 = .ok (.iload_n 2, 1) := by decide +kernel
theorem dX4_arrange_45 : decode cX4_arrange 45 = .ok (.aaload, 1) := by decide +kernel
theorem dX4_arrange_46 : decode cX4_arrange 46 = .ok (.invokestatic 99, 3) := by decide +kernel
theorem dX4_arrange_49 : decode cX4_arrange 49 = .ok (.istore 4, 2) := by decide +kernel
theorem dX4_arrange_51 : decode cX4_arrange 51 = .ok (.iload_n 3, 1) := by decide +kernel
theorem dX4_arrange_52 : decode cX4_arrange 52 = .ok (.iconst 2, 1) := by decide +kernel
theorem dX4_arrange_53 : decode cX4_arrange 53 = .ok (.if_icmp .ne 15, 3) := by decide +kernel
theorem dX4_arrange_56 : decode cX4_arrange 56 = .ok (.aload_n 0, 1) := by decide +kernel
theorem dX4_arrange_57 : decode cX4_arrange 57 = .ok (.getfield 31, 3) := by decide +kernel
theorem dX4_arrange_60 : decode cX4_arrange 60 = .ok (.iload_n 2, 1) := by decide +kernel
theorem dX4_arrange_61 : decode cX4_arrange 61 = .ok (.aaload, 1) := by decide +kernel
theorem dX4_arrange_62 : decode cX4_arrange 62 = .ok (.getfield 103, 3) := by decide +kernel
theorem dX4_arrange_65 : decode cX4_arrange 65 = .ok (.goto 12, 3) := by decide +kernel
theorem dX4_arrange_68 : decode cX4_arrange 68 = .ok (.aload_n 0, 1) := by decide +kernel
theorem dX4_arrange_69 : decode cX4_arrange 69 = .ok (.getfield 31, 3) := by decide +kernel
theorem dX4_arrange_72 : decode cX4_arrange 72 = .ok (.iload_n 2, 1) := by decide +kernel
theorem dX4_arrange_73 : decode cX4_arrange 73 = .ok (.aaload, 1) := by decide +kernel
theorem dX4_arrange_74 : decode cX4_arrange 74 = .ok (.getfield 106, 3) := by decide +kernel
theorem dX4_arrange_77 : decode cX4_arrange 77 = .ok (.istore 5, 2) := by decide +kernel
theorem dX4_arrange_79 : decode cX4_arrange 79 = .ok (.aload_n 0, 1) := by decide +kernel
theorem dX4_arrange_80 : decode cX4_arrange 80 = .ok (.getfield 18, 3) := by decide +kernel
theorem dX4_arrange_83 : decode cX4_arrange 83 = .ok (.iload_n 2, 1) := by decide +kernel
theorem dX4_arrange_84 : decode cX4_arrange 84 = .ok (.iload 4, 2) := by decide +kernel
theorem dX4_arrange_86 : decode cX4_arrange 86 = .ok (.iastore, 1) := by decide +kernel
theorem dX4_arrange_87 : decode cX4_arrange 87 = .ok (.aload_n 0, 1) := by decide +kernel
theorem dX4_arrange_88 : decode cX4_arrange 88 = .ok (.getfield 21, 3) := by decide +kernel
theorem dX4_arrange_91 : decode cX4_arrange 91 = .ok (.iload_n 2, 1) := by decide +kernel
theorem dX4_arrange_92 : decode cX4_arrange 92 = .ok (.iload 5, 2) := by decide +kernel
theorem dX4_arrange_94 : decode cX4_arrange 94 = .ok (.iastore, 1) := by decide +kernel
theorem dX4_arrange_95 : decode cX4_arrange 95 = .ok (.iload 4, 2) := by decide +kernel
theorem dX4_arrange_97 : decode cX4_arrange 97 = .ok (.ifCond .lt 31, 3) := by decide +kernel
theorem dX4_arrange_100 : decode cX4_arrange 100 = .ok (.iload 4, 2) := by decide +kernel
theorem dX4_arrange_102 : decode cX4_arrange 102 = .ok (.iconst 4, 1) := by decide +kernel
theorem dX4_arrange_103 : decode cX4_arrange 103 = .ok (.if_icmp .ge 25, 3) := by decide +kernel
theorem dX4_arrange_106 : decode cX4_arrange 106 = .ok (.aload_n 0, 1) := by decide +kernel
theorem dX4_arrange_107 : decode cX4_arrange 107 = .ok (.getfield 24, 3) := by decide +kernel
theorem dX4_arrange_110 : decode cX4_arrange 110 = .ok (.iload 4, 2) := by decide +kernel
theorem dX4_arrange_112 : decode cX4_arrange 112 = .ok (.dup2, 1) := by decide +kernel
theorem dX4_arrange_113 : decode cX4_arrange 113 = .ok (.iaload, 1) := by decide +kernel
theorem dX4_arrange_114 : decode cX4_arrange 114 = .ok (.aload_n 0, 1) := by decide +kernel
theorem dX4_arrange_115 : decode cX4_arrange 115 = .ok (.getfield 27, 3) := by decide +kernel
theorem dX4_arrange_118 : decode cX4_arrange 118 = .ok (.getfield 109, 3) := by decide +kernel
theorem dX4_arrange_121 : decode cX4_arrange 121 = .ok (.iload_n 2, 1) := by decide +kernel
theorem dX4_arrange_122 : decode cX4_arrange 122 = .ok (.iaload, 1) := by decide +kernel
theorem dX4_arrange_123 : decode cX4_arrange 123 = .ok (.iload 5, 2) := by decide +kernel
theorem dX4_arrange_125 : decode cX4_arrange 125 = .ok (.imul, 1) := by decide +kernel
theorem dX4_arrange_126 : decode cX4_arrange 126 = .ok (.iadd, 1) := by decide +kernel
theorem dX4_arrange_127 : decode cX4_arrange 127 = .ok (.iastore, 1) := by decide +kernel
theorem dX4_arrange_128 : decode cX4_arrange 128 = .ok (.iinc 2 1, 3) := by decide +kernel
theorem dX4_arrange_131 : decode cX4_arrange 131 = .ok (.goto (-109), 3) := by decide +kernel
theorem dX4_arrange_134 : decode cX4_arrange 134 = .ok (.return_, 1) := by decide +kernel
set_option maxRecDepth 20000 in
theorem bX4_arrange_0 {G : Gx} {mm : Nat → Nat → Int32} {lm : Nat → Int64} {x1 : Int32} {o : Ou} {z : Wd} {a b : Nat} (hw : J G M_X4_arrange 2 [(0, .ref 32), (1, .int x1), (2, .int 0)] [] (SH, mm, lm) false o z false a b) :
    J G M_X4_arrange 0 [(0, .ref 32), (1, .int x1)] [] (SH, mm, lm) false o z false a b := by
  refine J_iconst (v := 0) (by decide) dX4_arrange_0 ?_
  refine J_istore_n [(2, .int 0), (0, .ref 32), (1, .int x1)] rfl (i := 2) (by decide) rfl dX4_arrange_1 ?_
  exact J_sub [1, 2, 0] rfl hw
set_option maxRecDepth 20000 in
theorem bX4_arrange_2 {G : Gx} {mm : Nat → Nat → Int32} {lm : Nat → Int64} {x1 : Int32} {x2 : Int32} {o : Ou} {z : Wd} {a b : Nat} (hw : ((4 ≤ x2) → J G M_X4_arrange 22 [(0, .ref 32), (1, .int x1), (2, .int 0)] [] (SH, mm, lm) false o z false a b) ∧ ((¬ 4 ≤ x2) → ∃ j1 : Nat, x2 = nI j1 ∧ j1 < 4 ∧ J G M_X4_arrange 2 [(0, .ref 32), (1, .int x1), (2, .int (x2 + 1))] [] (SH, (mset mm 37 j1 0), lm) false o z false a b)) :
    J G M_X4_arrange 2 [(0, .ref 32), (1, .int x1), (2, .int x2)] [] (SH, mm, lm) false o z false a b := by
  refine J_iload_n rfl (i := 2) rfl dX4_arrange_2 ?_
  refine J_iconst (v := 4) (by decide) dX4_arrange_3 ?_
  refine J_icmp_ge (tgt := 20) dX4_arrange_4 (by decide) (fun hb2 => ?_) (fun hb2 => ?_)
  · replace hw := hw.1 hb2
    refine J_iconst (v := 0) (by decide) dX4_arrange_20 ?_
    refine J_istore_n [(2, .int 0), (0, .ref 32), (1, .int x1)] rfl (i := 2) (by decide) rfl dX4_arrange_21 ?_
    exact J_sub [1, 2, 0] rfl hw
  · replace hw := hw.2 hb2
    refine J_aload_n rfl (i := 0) rfl dX4_arrange_7 ?_
    refine J_getr kls_4 (q := 32) (k := 6) sh_32 (by decide) rfl gw_320 dX4_arrange_8 ?_
    refine J_iload_n rfl (i := 2) rfl dX4_arrange_11 ?_
    refine J_iconst (v := 0) (by decide) dX4_arrange_12 ?_
    obtain ⟨j1, ej1, hj1, hw⟩ := hw
    refine J_iast sh_37 ej1 hj1 (by decide) dX4_arrange_13 ?_
    refine J_iinc [(2, .int (x2 + 1)), (0, .ref 32), (1, .int x1)] (i := 2) (v := (x2 + 1)) rfl rfl (by decide) rfl dX4_arrange_14 ?_
    refine J_goto (tgt := 2) dX4_arrange_17 (by decide) ?_
    exact J_sub [1, 2, 0] rfl hw
set_option maxRecDepth 20000 in
theorem bX4_arrange_22 {G : Gx} {mm : Nat → Nat → Int32} {lm : Nat → Int64} {x1 : Int32} {x2 : Int32} {o : Ou} {z : Wd} {a b : Nat} (hw : (((mm 4 9) ≤ x2) → o = .inl none ∧ z = (SH, mm, lm)) ∧ ((¬ (mm 4 9) ≤ x2) → ∃ (v2 : Int32), Ct G M_X4_stateIn [.int x1, .int x2] (SH, mm, lm) false (.inl (some (.int v2))) (SH, mm, lm) false 0 0 ∧ ∃ j4 : Nat, x2 = nI j4 ∧ j4 < 8 ∧ ∃ (v6 : Int32), Ct G M_X4_beamIn [.int v2, .ref (23 + j4)] (SH, mm, lm) false (.inl (some (.int v6))) (SH, mm, lm) false 0 0 ∧ ((¬ v2 = 2) → ∃ j8 : Nat, x2 = nI j8 ∧ j8 < 8 ∧ ∃ j9 : Nat, x2 = nI j9 ∧ j9 < 8 ∧ ∃ j10 : Nat, x2 = nI j10 ∧ j10 < 8 ∧ ((v6 < 0) → J G M_X4_arrange 22 [(0, .ref 32), (1, .int x1), (2, .int (x2 + 1))] [] (SH, (mset (mset mm 35 j9 v6) 36 j10 (mm (23 + j8) 1)), lm) false o z false a b) ∧ ((¬ v6 < 0) → ((4 ≤ v6) → J G M_X4_arrange 22 [(0, .ref 32), (1, .int x1), (2, .int (x2 + 1))] [] (SH, (mset (mset mm 35 j9 v6) 36 j10 (mm (23 + j8) 1)), lm) false o z false a b) ∧ ((¬ 4 ≤ v6) → ∃ j11 : Nat, v6 = nI j11 ∧ j11 < 4 ∧ ∃ j12 : Nat, x2 = nI j12 ∧ j12 < 8 ∧ ∃ j13 : Nat, v6 = nI j13 ∧ j13 < 4 ∧ J G M_X4_arrange 22 [(0, .ref 32), (1, .int x1), (2, .int (x2 + 1))] [] (SH, (mset (mset (mset mm 35 j9 v6) 36 j10 (mm (23 + j8) 1)) 37 j13 (((mset (mset mm 35 j9 v6) 36 j10 (mm (23 + j8) 1)) 37 j11) + (((mset (mset mm 35 j9 v6) 36 j10 (mm (23 + j8) 1)) 7 j12) * (mm (23 + j8) 1)))), lm) false o z false a b))) ∧ ((v2 = 2) → ∃ j16 : Nat, x2 = nI j16 ∧ j16 < 8 ∧ ∃ j17 : Nat, x2 = nI j17 ∧ j17 < 8 ∧ ∃ j18 : Nat, x2 = nI j18 ∧ j18 < 8 ∧ ((v6 < 0) → J G M_X4_arrange 22 [(0, .ref 32), (1, .int x1), (2, .int (x2 + 1))] [] (SH, (mset (mset mm 35 j17 v6) 36 j18 (mm (23 + j16) 3)), lm) false o z false a b) ∧ ((¬ v6 < 0) → ((4 ≤ v6) → J G M_X4_arrange 22 [(0, .ref 32), (1, .int x1), (2, .int (x2 + 1))] [] (SH, (mset (mset mm 35 j17 v6) 36 j18 (mm (23 + j16) 3)), lm) false o z false a b) ∧ ((¬ 4 ≤ v6) → ∃ j19 : Nat, v6 = nI j19 ∧ j19 < 4 ∧ ∃ j20 : Nat, x2 = nI j20 ∧ j20 < 8 ∧ ∃ j21 : Nat, v6 = nI j21 ∧ j21 < 4 ∧ J G M_X4_arrange 22 [(0, .ref 32), (1, .int x1), (2, .int (x2 + 1))] [] (SH, (mset (mset (mset mm 35 j17 v6) 36 j18 (mm (23 + j16) 3)) 37 j21 (((mset (mset mm 35 j17 v6) 36 j18 (mm (23 + j16) 3)) 37 j19) + (((mset (mset mm 35 j17 v6) 36 j18 (mm (23 + j16) 3)) 7 j20) * (mm (23 + j16) 3)))), lm) false o z false a b))))) :
    J G M_X4_arrange 22 [(0, .ref 32), (1, .int x1), (2, .int x2)] [] (SH, mm, lm) false o z false a b := by
  refine J_iload_n rfl (i := 2) rfl dX4_arrange_22 ?_
  refine J_aload_n rfl (i := 0) rfl dX4_arrange_23 ?_
  refine J_getr kls_4 (q := 32) (k := 0) sh_32 (by decide) rfl gw_314 dX4_arrange_24 ?_
  refine J_geti kls_7 (q := 4) (k := 9) sh_4 (by decide) rfl gw_207 dX4_arrange_27 ?_
  refine J_icmp_ge (tgt := 134) dX4_arrange_30 (by decide) (fun hb25 => ?_) (fun hb25 => ?_)
  · replace hw := hw.1 hb25
    exact J_finv rfl dX4_arrange_134 hw
  · replace hw := hw.2 hb25
    refine J_iload_n rfl (i := 1) rfl dX4_arrange_33 ?_
    refine J_iload_n rfl (i := 2) rfl dX4_arrange_34 ?_
    obtain ⟨v2, hc1, hw⟩ := hw
    refine J_callS (as := [.int x1, .int x2]) (st := []) cal_X4_stateIn cas_X4_stateIn gw_989 ⟨by decide, by decide⟩ cnt_X4_stateIn rfl (Nat.le_of_ble_eq_true rfl) dX4_arrange_35 (Nat.zero_add _).symm (Nat.zero_add _).symm hc1 ?_
    refine J_istore_n [(3, .int v2), (0, .ref 32), (1, .int x1), (2, .int x2)] rfl (i := 3) (by decide) rfl dX4_arrange_38 ?_
    refine J_iload_n rfl (i := 3) rfl dX4_arrange_39 ?_
    refine J_aload_n rfl (i := 0) rfl dX4_arrange_40 ?_
    refine J_getr kls_4 (q := 32) (k := 1) sh_32 (by decide) rfl gw_315 dX4_arrange_41 ?_
    refine J_iload_n rfl (i := 2) rfl dX4_arrange_44 ?_
    obtain ⟨j4, ej4, hj4, hw⟩ := hw
    refine J_aald (r := 23 + j4) sh_22 ej4 hj4 (by decide) (if_pos hj4) dX4_arrange_45 ?_
    obtain ⟨v6, hc5, hw⟩ := hw
    refine J_callS (as := [.int v2, .ref (23 + j4)]) (st := []) cal_X4_beamIn cas_X4_beamIn gw_992 ⟨by decide, by decide⟩ cnt_X4_beamIn rfl (Nat.le_of_ble_eq_true rfl) dX4_arrange_46 (Nat.zero_add _).symm (Nat.zero_add _).symm hc5 ?_
    refine J_istore [(4, .int v6), (3, .int v2), (0, .ref 32), (1, .int x1), (2, .int x2)] (i := 4) (by decide) rfl dX4_arrange_49 ?_
    refine J_iload_n rfl (i := 3) rfl dX4_arrange_51 ?_
    refine J_iconst (v := 2) (by decide) dX4_arrange_52 ?_
    refine J_icmp_ne (tgt := 68) dX4_arrange_53 (by decide) (fun hb24 => ?_) (fun hb24 => ?_)
    · replace hw := hw.1 hb24
      refine J_aload_n rfl (i := 0) rfl dX4_arrange_68 ?_
      refine J_getr kls_4 (q := 32) (k := 1) sh_32 (by decide) rfl gw_315 dX4_arrange_69 ?_
      refine J_iload_n rfl (i := 2) rfl dX4_arrange_72 ?_
      obtain ⟨j8, ej8, hj8, hw⟩ := hw
      refine J_aald (r := 23 + j8) sh_22 ej8 hj8 (by decide) (if_pos hj8) dX4_arrange_73 ?_
      refine J_geti kls_0 (q := (23 + j8)) (k := 1) (sh_b23 hj8) (by decide) rfl gw_259 dX4_arrange_74 ?_
      refine J_istore [(5, .int (mm (23 + j8) 1)), (4, .int v6), (3, .int v2), (0, .ref 32), (1, .int x1), (2, .int x2)] (i := 5) (by decide) rfl dX4_arrange_77 ?_
      refine J_aload_n rfl (i := 0) rfl dX4_arrange_79 ?_
      refine J_getr kls_4 (q := 32) (k := 4) sh_32 (by decide) rfl gw_318 dX4_arrange_80 ?_
      refine J_iload_n rfl (i := 2) rfl dX4_arrange_83 ?_
      refine J_iload (i := 4) rfl dX4_arrange_84 ?_
      obtain ⟨j9, ej9, hj9, hw⟩ := hw
      refine J_iast sh_35 ej9 hj9 (by decide) dX4_arrange_86 ?_
      refine J_aload_n rfl (i := 0) rfl dX4_arrange_87 ?_
      refine J_getr kls_4 (q := 32) (k := 5) sh_32 (by decide) rfl gw_319 dX4_arrange_88 ?_
      refine J_iload_n rfl (i := 2) rfl dX4_arrange_91 ?_
      refine J_iload (i := 5) rfl dX4_arrange_92 ?_
      obtain ⟨j10, ej10, hj10, hw⟩ := hw
      refine J_iast sh_36 ej10 hj10 (by decide) dX4_arrange_94 ?_
      refine J_iload (i := 4) rfl dX4_arrange_95 ?_
      refine J_if_lt (tgt := 128) dX4_arrange_97 (by decide) (fun hb15 => ?_) (fun hb15 => ?_)
      · replace hw := hw.1 hb15
        refine J_iinc [(2, .int (x2 + 1)), (5, .int (mm (23 + j8) 1)), (4, .int v6), (3, .int v2), (0, .ref 32), (1, .int x1)] (i := 2) (v := (x2 + 1)) rfl rfl (by decide) rfl dX4_arrange_128 ?_
        refine J_goto (tgt := 22) dX4_arrange_131 (by decide) ?_
        exact J_sub [4, 5, 0] rfl hw
      · replace hw := hw.2 hb15
        refine J_iload (i := 4) rfl dX4_arrange_100 ?_
        refine J_iconst (v := 4) (by decide) dX4_arrange_102 ?_
        refine J_icmp_ge (tgt := 128) dX4_arrange_103 (by decide) (fun hb14 => ?_) (fun hb14 => ?_)
        · replace hw := hw.1 hb14
          refine J_iinc [(2, .int (x2 + 1)), (5, .int (mm (23 + j8) 1)), (4, .int v6), (3, .int v2), (0, .ref 32), (1, .int x1)] (i := 2) (v := (x2 + 1)) rfl rfl (by decide) rfl dX4_arrange_128 ?_
          refine J_goto (tgt := 22) dX4_arrange_131 (by decide) ?_
          exact J_sub [4, 5, 0] rfl hw
        · replace hw := hw.2 hb14
          refine J_aload_n rfl (i := 0) rfl dX4_arrange_106 ?_
          refine J_getr kls_4 (q := 32) (k := 6) sh_32 (by decide) rfl gw_320 dX4_arrange_107 ?_
          refine J_iload (i := 4) rfl dX4_arrange_110 ?_
          refine J_dup2 dX4_arrange_112 ?_
          obtain ⟨j11, ej11, hj11, hw⟩ := hw
          refine J_iald sh_37 ej11 hj11 (by decide) dX4_arrange_113 ?_
          refine J_aload_n rfl (i := 0) rfl dX4_arrange_114 ?_
          refine J_getr kls_4 (q := 32) (k := 0) sh_32 (by decide) rfl gw_314 dX4_arrange_115 ?_
          refine J_getr kls_7 (q := 4) (k := 2) sh_4 (by decide) rfl gw_189 dX4_arrange_118 ?_
          refine J_iload_n rfl (i := 2) rfl dX4_arrange_121 ?_
          obtain ⟨j12, ej12, hj12, hw⟩ := hw
          refine J_iald sh_7 ej12 hj12 (by decide) dX4_arrange_122 ?_
          refine J_iload (i := 5) rfl dX4_arrange_123 ?_
          refine J_imul dX4_arrange_125 ?_
          refine J_iadd dX4_arrange_126 ?_
          obtain ⟨j13, ej13, hj13, hw⟩ := hw
          refine J_iast sh_37 ej13 hj13 (by decide) dX4_arrange_127 ?_
          refine J_iinc [(2, .int (x2 + 1)), (5, .int (mm (23 + j8) 1)), (4, .int v6), (3, .int v2), (0, .ref 32), (1, .int x1)] (i := 2) (v := (x2 + 1)) rfl rfl (by decide) rfl dX4_arrange_128 ?_
          refine J_goto (tgt := 22) dX4_arrange_131 (by decide) ?_
          exact J_sub [4, 5, 0] rfl hw
    · replace hw := hw.2 hb24
      refine J_aload_n rfl (i := 0) rfl dX4_arrange_56 ?_
      refine J_getr kls_4 (q := 32) (k := 1) sh_32 (by decide) rfl gw_315 dX4_arrange_57 ?_
      refine J_iload_n rfl (i := 2) rfl dX4_arrange_60 ?_
      obtain ⟨j16, ej16, hj16, hw⟩ := hw
      refine J_aald (r := 23 + j16) sh_22 ej16 hj16 (by decide) (if_pos hj16) dX4_arrange_61 ?_
      refine J_geti kls_0 (q := (23 + j16)) (k := 3) (sh_b23 hj16) (by decide) rfl gw_264 dX4_arrange_62 ?_
      refine J_goto (tgt := 77) dX4_arrange_65 (by decide) ?_
      refine J_istore [(5, .int (mm (23 + j16) 3)), (4, .int v6), (3, .int v2), (0, .ref 32), (1, .int x1), (2, .int x2)] (i := 5) (by decide) rfl dX4_arrange_77 ?_
      refine J_aload_n rfl (i := 0) rfl dX4_arrange_79 ?_
      refine J_getr kls_4 (q := 32) (k := 4) sh_32 (by decide) rfl gw_318 dX4_arrange_80 ?_
      refine J_iload_n rfl (i := 2) rfl dX4_arrange_83 ?_
      refine J_iload (i := 4) rfl dX4_arrange_84 ?_
      obtain ⟨j17, ej17, hj17, hw⟩ := hw
      refine J_iast sh_35 ej17 hj17 (by decide) dX4_arrange_86 ?_
      refine J_aload_n rfl (i := 0) rfl dX4_arrange_87 ?_
      refine J_getr kls_4 (q := 32) (k := 5) sh_32 (by decide) rfl gw_319 dX4_arrange_88 ?_
      refine J_iload_n rfl (i := 2) rfl dX4_arrange_91 ?_
      refine J_iload (i := 5) rfl dX4_arrange_92 ?_
      obtain ⟨j18, ej18, hj18, hw⟩ := hw
      refine J_iast sh_36 ej18 hj18 (by decide) dX4_arrange_94 ?_
      refine J_iload (i := 4) rfl dX4_arrange_95 ?_
      refine J_if_lt (tgt := 128) dX4_arrange_97 (by decide) (fun hb23 => ?_) (fun hb23 => ?_)
      · replace hw := hw.1 hb23
        refine J_iinc [(2, .int (x2 + 1)), (5, .int (mm (23 + j16) 3)), (4, .int v6), (3, .int v2), (0, .ref 32), (1, .int x1)] (i := 2) (v := (x2 + 1)) rfl rfl (by decide) rfl dX4_arrange_128 ?_
        refine J_goto (tgt := 22) dX4_arrange_131 (by decide) ?_
        exact J_sub [4, 5, 0] rfl hw
      · replace hw := hw.2 hb23
        refine J_iload (i := 4) rfl dX4_arrange_100 ?_
        refine J_iconst (v := 4) (by decide) dX4_arrange_102 ?_
        refine J_icmp_ge (tgt := 128) dX4_arrange_103 (by decide) (fun hb22 => ?_) (fun hb22 => ?_)
        · replace hw := hw.1 hb22
          refine J_iinc [(2, .int (x2 + 1)), (5, .int (mm (23 + j16) 3)), (4, .int v6), (3, .int v2), (0, .ref 32), (1, .int x1)] (i := 2) (v := (x2 + 1)) rfl rfl (by decide) rfl dX4_arrange_128 ?_
          refine J_goto (tgt := 22) dX4_arrange_131 (by decide) ?_
          exact J_sub [4, 5, 0] rfl hw
        · replace hw := hw.2 hb22
          refine J_aload_n rfl (i := 0) rfl dX4_arrange_106 ?_
          refine J_getr kls_4 (q := 32) (k := 6) sh_32 (by decide) rfl gw_320 dX4_arrange_107 ?_
          refine J_iload (i := 4) rfl dX4_arrange_110 ?_
          refine J_dup2 dX4_arrange_112 ?_
          obtain ⟨j19, ej19, hj19, hw⟩ := hw
          refine J_iald sh_37 ej19 hj19 (by decide) dX4_arrange_113 ?_
          refine J_aload_n rfl (i := 0) rfl dX4_arrange_114 ?_
          refine J_getr kls_4 (q := 32) (k := 0) sh_32 (by decide) rfl gw_314 dX4_arrange_115 ?_
          refine J_getr kls_7 (q := 4) (k := 2) sh_4 (by decide) rfl gw_189 dX4_arrange_118 ?_
          refine J_iload_n rfl (i := 2) rfl dX4_arrange_121 ?_
          obtain ⟨j20, ej20, hj20, hw⟩ := hw
          refine J_iald sh_7 ej20 hj20 (by decide) dX4_arrange_122 ?_
          refine J_iload (i := 5) rfl dX4_arrange_123 ?_
          refine J_imul dX4_arrange_125 ?_
          refine J_iadd dX4_arrange_126 ?_
          obtain ⟨j21, ej21, hj21, hw⟩ := hw
          refine J_iast sh_37 ej21 hj21 (by decide) dX4_arrange_127 ?_
          refine J_iinc [(2, .int (x2 + 1)), (5, .int (mm (23 + j16) 3)), (4, .int v6), (3, .int v2), (0, .ref 32), (1, .int x1)] (i := 2) (v := (x2 + 1)) rfl rfl (by decide) rfl dX4_arrange_128 ?_
          refine J_goto (tgt := 22) dX4_arrange_131 (by decide) ?_
          exact J_sub [4, 5, 0] rfl hw
theorem dX4_unbalancedThere_0 : decode cX4_unbalancedThere 0 = .ok (.iconst 0, 1) := by decide +kernel
theorem dX4_unbalancedThere_1 : decode cX4_unbalancedThere 1 = .ok (.istore_n 1, 1) := by decide +kernel
theorem dX4_unbalancedThere_2 : decode cX4_unbalancedThere 2 = .ok (.iconst 0, 1) := by decide +kernel
theorem dX4_unbalancedThere_3 : decode cX4_unbalancedThere 3 = .ok (.istore_n 2, 1) := by decide +kernel
theorem dX4_unbalancedThere_4 : decode cX4_unbalancedThere 4 = .ok (.iload_n 2, 1) := by decide +kernel
theorem dX4_unbalancedThere_5 : decode cX4_unbalancedThere 5 = .ok (.aload_n 0, 1) := by decide +kernel
theorem dX4_unbalancedThere_6 : decode cX4_unbalancedThere 6 = .ok (.getfield 27, 3) := by decide +kernel
theorem dX4_unbalancedThere_9 : decode cX4_unbalancedThere 9 = .ok (.getfield 112, 3) := by decide +kernel
theorem dX4_unbalancedThere_12 : decode cX4_unbalancedThere 12 = .ok (.if_icmp .ge 32, 3) := by decide +kernel
theorem dX4_unbalancedThere_15 : decode cX4_unbalancedThere 15 = .ok (.aload_n 0, 1) := by decide +kernel
theorem dX4_unbalancedThere_16 : decode cX4_unbalancedThere 16 = .ok (.getfield 27, 3) := by decide +kernel
theorem dX4_unbalancedThere_19 : decode cX4_unbalancedThere 19 = .ok (.iload_n 2, 1) := by decide +kernel
theorem dX4_unbalancedThere_20 : decode cX4_unbalancedThere 20 = .ok (.aload_n 0, 1) := by decide +kernel
theorem dX4_unbalancedThere_21 : decode cX4_unbalancedThere 21 = .ok (.getfield 24, 3) := by decide +kernel
theorem dX4_unbalancedThere_24 : decode cX4_unbalancedThere 24 = .ok (.iload_n 2, 1) := by decide +kernel
theorem dX4_unbalancedThere_25 : decode cX4_unbalancedThere 25 = .ok (.iaload, 1) := by decide +kernel
theorem dX4_unbalancedThere_26 : decode cX4_unbalancedThere 26 = .ok (.invokevirtual 115, 3) := by decide +kernel
theorem dX4_unbalancedThere_29 : decode cX4_unbalancedThere 29 = .ok (.ifCond .ne 9, 3) := by decide +kernel
theorem dX4_unbalancedThere_32 : decode cX4_unbalancedThere 32 = .ok (.iload_n 1, 1) := by decide +kernel
theorem dX4_unbalancedThere_33 : decode cX4_unbalancedThere 33 = .ok (.iconst 1, 1) := by decide +kernel
theorem dX4_unbalancedThere_34 : decode cX4_unbalancedThere 34 = .ok (.iload_n 2, 1) := by decide +kernel
theorem dX4_unbalancedThere_35 : decode cX4_unbalancedThere 35 = .ok (.ishl, 1) := by decide +kernel
theorem dX4_unbalancedThere_36 : decode cX4_unbalancedThere 36 = .ok (.ior, 1) := by decide +kernel
theorem dX4_unbalancedThere_37 : decode cX4_unbalancedThere 37 = .ok (.istore_n 1, 1) := by decide +kernel
theorem dX4_unbalancedThere_38 : decode cX4_unbalancedThere 38 = .ok (.iinc 2 1, 3) := by decide +kernel
theorem dX4_unbalancedThere_41 : decode cX4_unbalancedThere 41 = .ok (.goto (-37), 3) := by decide +kernel
theorem dX4_unbalancedThere_44 : decode cX4_unbalancedThere 44 = .ok (.iload_n 1, 1) := by decide +kernel
theorem dX4_unbalancedThere_45 : decode cX4_unbalancedThere 45 = .ok (.ireturn, 1) := by decide +kernel
set_option maxRecDepth 20000 in
theorem bX4_unbalancedThere_0 {G : Gx} {mm : Nat → Nat → Int32} {lm : Nat → Int64}  {o : Ou} {z : Wd} {a b : Nat} (hw : J G M_X4_unbalancedThere 4 [(0, .ref 32), (1, .int 0), (2, .int 0)] [] (SH, mm, lm) false o z false a b) :
    J G M_X4_unbalancedThere 0 [(0, .ref 32)] [] (SH, mm, lm) false o z false a b := by
  refine J_iconst (v := 0) (by decide) dX4_unbalancedThere_0 ?_
  refine J_istore_n [(1, .int 0), (0, .ref 32)] rfl (i := 1) (by decide) rfl dX4_unbalancedThere_1 ?_
  refine J_iconst (v := 0) (by decide) dX4_unbalancedThere_2 ?_
  refine J_istore_n [(2, .int 0), (1, .int 0), (0, .ref 32)] rfl (i := 2) (by decide) rfl dX4_unbalancedThere_3 ?_
  exact J_sub [2, 1, 0] rfl hw
set_option maxRecDepth 20000 in
theorem bX4_unbalancedThere_4 {G : Gx} {mm : Nat → Nat → Int32} {lm : Nat → Int64} {x1 : Int32} {x2 : Int32} {o : Ou} {z : Wd} {a b : Nat} (hw : (((mm 4 8) ≤ x2) → o = .inl (some (.int x1)) ∧ z = (SH, mm, lm)) ∧ ((¬ (mm 4 8) ≤ x2) → ∃ j1 : Nat, x2 = nI j1 ∧ j1 < 4 ∧ ∃ (v3 : Int32), Ct G M_X7_bears [.ref 4, .int x2, .int (mm 37 j1)] (SH, mm, lm) false (.inl (some (.int v3))) (SH, mm, lm) false 0 0 ∧ ((¬ v3 = 0) → J G M_X4_unbalancedThere 4 [(0, .ref 32), (1, .int x1), (2, .int (x2 + 1))] [] (SH, mm, lm) false o z false a b) ∧ ((v3 = 0) → J G M_X4_unbalancedThere 4 [(0, .ref 32), (1, .int (x1 ||| (1 <<< (x2 &&& 31)))), (2, .int (x2 + 1))] [] (SH, mm, lm) false o z false a b))) :
    J G M_X4_unbalancedThere 4 [(0, .ref 32), (1, .int x1), (2, .int x2)] [] (SH, mm, lm) false o z false a b := by
  refine J_iload_n rfl (i := 2) rfl dX4_unbalancedThere_4 ?_
  refine J_aload_n rfl (i := 0) rfl dX4_unbalancedThere_5 ?_
  refine J_getr kls_4 (q := 32) (k := 0) sh_32 (by decide) rfl gw_314 dX4_unbalancedThere_6 ?_
  refine J_geti kls_7 (q := 4) (k := 8) sh_4 (by decide) rfl gw_203 dX4_unbalancedThere_9 ?_
  refine J_icmp_ge (tgt := 44) dX4_unbalancedThere_12 (by decide) (fun hb6 => ?_) (fun hb6 => ?_)
  · replace hw := hw.1 hb6
    refine J_iload_n rfl (i := 1) rfl dX4_unbalancedThere_44 ?_
    exact J_fini (ty := .int) rfl rfl dX4_unbalancedThere_45 hw
  · replace hw := hw.2 hb6
    refine J_aload_n rfl (i := 0) rfl dX4_unbalancedThere_15 ?_
    refine J_getr kls_4 (q := 32) (k := 0) sh_32 (by decide) rfl gw_314 dX4_unbalancedThere_16 ?_
    refine J_iload_n rfl (i := 2) rfl dX4_unbalancedThere_19 ?_
    refine J_aload_n rfl (i := 0) rfl dX4_unbalancedThere_20 ?_
    refine J_getr kls_4 (q := 32) (k := 6) sh_32 (by decide) rfl gw_320 dX4_unbalancedThere_21 ?_
    refine J_iload_n rfl (i := 2) rfl dX4_unbalancedThere_24 ?_
    obtain ⟨j1, ej1, hj1, hw⟩ := hw
    refine J_iald sh_37 ej1 hj1 (by decide) dX4_unbalancedThere_25 ?_
    obtain ⟨v3, hc2, hw⟩ := hw
    refine J_callV (as := [.int x2, .int (mm 37 j1)]) (k := 4) (st := []) cal_X7_bears cai_X7_bears gw_1015 ⟨by decide, by decide⟩ cnt_X7_bears sh_4 rfl rfl (Nat.le_of_ble_eq_true rfl) dX4_unbalancedThere_26 (Nat.zero_add _).symm (Nat.zero_add _).symm hc2 ?_
    refine J_if_ne (tgt := 38) dX4_unbalancedThere_29 (by decide) (fun hb5 => ?_) (fun hb5 => ?_)
    · replace hw := hw.1 hb5
      refine J_iinc [(2, .int (x2 + 1)), (0, .ref 32), (1, .int x1)] (i := 2) (v := (x2 + 1)) rfl rfl (by decide) rfl dX4_unbalancedThere_38 ?_
      refine J_goto (tgt := 4) dX4_unbalancedThere_41 (by decide) ?_
      exact J_sub [1, 2, 0] rfl hw
    · replace hw := hw.2 hb5
      refine J_iload_n rfl (i := 1) rfl dX4_unbalancedThere_32 ?_
      refine J_iconst (v := 1) (by decide) dX4_unbalancedThere_33 ?_
      refine J_iload_n rfl (i := 2) rfl dX4_unbalancedThere_34 ?_
      refine J_ishl dX4_unbalancedThere_35 ?_
      refine J_ior dX4_unbalancedThere_36 ?_
      refine J_istore_n [(1, .int (x1 ||| (1 <<< (x2 &&& 31)))), (0, .ref 32), (2, .int x2)] rfl (i := 1) (by decide) rfl dX4_unbalancedThere_37 ?_
      refine J_iinc [(2, .int (x2 + 1)), (1, .int (x1 ||| (1 <<< (x2 &&& 31)))), (0, .ref 32)] (i := 2) (v := (x2 + 1)) rfl rfl (by decide) rfl dX4_unbalancedThere_38 ?_
      refine J_goto (tgt := 4) dX4_unbalancedThere_41 (by decide) ?_
      exact J_sub [2, 1, 0] rfl hw
theorem dX4_conflictsThere_0 : decode cX4_conflictsThere 0 = .ok (.iconst 0, 1) := by decide +kernel
theorem dX4_conflictsThere_1 : decode cX4_conflictsThere 1 = .ok (.istore_n 1, 1) := by decide +kernel
theorem dX4_conflictsThere_2 : decode cX4_conflictsThere 2 = .ok (.iconst 0, 1) := by decide +kernel
theorem dX4_conflictsThere_3 : decode cX4_conflictsThere 3 = .ok (.istore_n 2, 1) := by decide +kernel
theorem dX4_conflictsThere_4 : decode cX4_conflictsThere 4 = .ok (.iload_n 2, 1) := by decide +kernel
theorem dX4_conflictsThere_5 : decode cX4_conflictsThere 5 = .ok (.aload_n 0, 1) := by decide +kernel
theorem dX4_conflictsThere_6 : decode cX4_conflictsThere 6 = .ok (.getfield 27, 3) := by decide +kernel
theorem dX4_conflictsThere_9 : decode cX4_conflictsThere 9 = .ok (.getfield 35, 3) := by decide +kernel
theorem dX4_conflictsThere_12 : decode cX4_conflictsThere 12 = .ok (.if_icmp .ge 79, 3) := by decide +kernel
theorem dX4_conflictsThere_15 : decode cX4_conflictsThere 15 = .ok (.iconst 0, 1) := by decide +kernel
theorem dX4_conflictsThere_16 : decode cX4_conflictsThere 16 = .ok (.istore_n 3, 1) := by decide +kernel
theorem dX4_conflictsThere_17 : decode cX4_conflictsThere 17 = .ok (.iload_n 3, 1) := by decide +kernel
theorem dX4_conflictsThere_18 : decode cX4_conflictsThere 18 = .ok (.iload_n 2, 1) := by decide +kernel
theorem dX4_conflictsThere_19 : decode cX4_conflictsThere 19 = .ok (.if_icmp .ge 66, 3) := by decide +kernel
theorem dX4_conflictsThere_22 : decode cX4_conflictsThere 22 = .ok (.aload_n 0, 1) := by decide +kernel
theorem dX4_conflictsThere_23 : decode cX4_conflictsThere 23 = .ok (.getfield 21, 3) := by decide +kernel
theorem dX4_conflictsThere_26 : decode cX4_conflictsThere 26 = .ok (.iload_n 2, 1) := by decide +kernel
theorem dX4_conflictsThere_27 : decode cX4_conflictsThere 27 = .ok (.iaload, 1) := by decide +kernel
theorem dX4_conflictsThere_28 : decode cX4_conflictsThere 28 = .ok (.aload_n 0, 1) := by decide +kernel
theorem dX4_conflictsThere_29 : decode cX4_conflictsThere 29 = .ok (.getfield 21, 3) := by decide +kernel
theorem dX4_conflictsThere_32 : decode cX4_conflictsThere 32 = .ok (.iload_n 3, 1) := by decide +kernel
theorem dX4_conflictsThere_33 : decode cX4_conflictsThere 33 = .ok (.iaload, 1) := by decide +kernel
theorem dX4_conflictsThere_34 : decode cX4_conflictsThere 34 = .ok (.isub, 1) := by decide +kernel
theorem dX4_conflictsThere_35 : decode cX4_conflictsThere 35 = .ok (.istore 4, 2) := by decide +kernel
theorem dX4_conflictsThere_37 : decode cX4_conflictsThere 37 = .ok (.aload_n 0, 1) := by decide +kernel
theorem dX4_conflictsThere_38 : decode cX4_conflictsThere 38 = .ok (.getfield 18, 3) := by decide +kernel
theorem dX4_conflictsThere_41 : decode cX4_conflictsThere 41 = .ok (.iload_n 2, 1) := by decide +kernel
theorem dX4_conflictsThere_42 : decode cX4_conflictsThere 42 = .ok (.iaload, 1) := by decide +kernel
theorem dX4_conflictsThere_43 : decode cX4_conflictsThere 43 = .ok (.iconst (-1), 1) := by decide +kernel
theorem dX4_conflictsThere_44 : decode cX4_conflictsThere 44 = .ok (.if_icmp .eq 35, 3) := by decide +kernel
theorem dX4_conflictsThere_47 : decode cX4_conflictsThere 47 = .ok (.aload_n 0, 1) := by decide +kernel
theorem dX4_conflictsThere_48 : decode cX4_conflictsThere 48 = .ok (.getfield 18, 3) := by decide +kernel
theorem dX4_conflictsThere_51 : decode cX4_conflictsThere 51 = .ok (.iload_n 2, 1) := by decide +kernel
theorem dX4_conflictsThere_52 : decode cX4_conflictsThere 52 = .ok (.iaload, 1) := by decide +kernel
theorem dX4_conflictsThere_53 : decode cX4_conflictsThere 53 = .ok (.aload_n 0, 1) := by decide +kernel
theorem dX4_conflictsThere_54 : decode cX4_conflictsThere 54 = .ok (.getfield 18, 3) := by decide +kernel
theorem dX4_conflictsThere_57 : decode cX4_conflictsThere 57 = .ok (.iload_n 3, 1) := by decide +kernel
theorem dX4_conflictsThere_58 : decode cX4_conflictsThere 58 = .ok (.iaload, 1) := by decide +kernel
theorem dX4_conflictsThere_59 : decode cX4_conflictsThere 59 = .ok (.if_icmp .ne 20, 3) := by decide +kernel
theorem dX4_conflictsThere_62 : decode cX4_conflictsThere 62 = .ok (.aload_n 0, 1) := by decide +kernel
theorem dX4_conflictsThere_63 : decode cX4_conflictsThere 63 = .ok (.getfield 27, 3) := by decide +kernel
theorem dX4_conflictsThere_66 : decode cX4_conflictsThere 66 = .ok (.iload_n 2, 1) := by decide +kernel
theorem dX4_conflictsThere_67 : decode cX4_conflictsThere 67 = .ok (.iload_n 3, 1) := by decide +kernel
theorem dX4_conflictsThere_68 : decode cX4_conflictsThere 68 = .ok (.iload 4, 2) := by decide +kernel
theorem dX4_conflictsThere_70 : decode cX4_conflictsThere 70 = .ok (.invokevirtual 119, 3) := by decide +kernel
theorem dX4_conflictsThere_73 : decode cX4_conflictsThere 73 = .ok (.ifCond .ne 6, 3) := by decide +kernel
theorem dX4_conflictsThere_76 : decode cX4_conflictsThere 76 = .ok (.iinc 1 1, 3) := by decide +kernel
theorem dX4_conflictsThere_79 : decode cX4_conflictsThere 79 = .ok (.iinc 3 1, 3) := by decide +kernel
theorem dX4_conflictsThere_82 : decode cX4_conflictsThere 82 = .ok (.goto (-65), 3) := by decide +kernel
theorem dX4_conflictsThere_85 : decode cX4_conflictsThere 85 = .ok (.iinc 2 1, 3) := by decide +kernel
theorem dX4_conflictsThere_88 : decode cX4_conflictsThere 88 = .ok (.goto (-84), 3) := by decide +kernel
theorem dX4_conflictsThere_91 : decode cX4_conflictsThere 91 = .ok (.iload_n 1, 1) := by decide +kernel
theorem dX4_conflictsThere_92 : decode cX4_conflictsThere 92 = .ok (.ireturn, 1) := by decide +kernel
set_option maxRecDepth 20000 in
theorem bX4_conflictsThere_0 {G : Gx} {mm : Nat → Nat → Int32} {lm : Nat → Int64}  {o : Ou} {z : Wd} {a b : Nat} (hw : J G M_X4_conflictsThere 4 [(0, .ref 32), (1, .int 0), (2, .int 0)] [] (SH, mm, lm) false o z false a b) :
    J G M_X4_conflictsThere 0 [(0, .ref 32)] [] (SH, mm, lm) false o z false a b := by
  refine J_iconst (v := 0) (by decide) dX4_conflictsThere_0 ?_
  refine J_istore_n [(1, .int 0), (0, .ref 32)] rfl (i := 1) (by decide) rfl dX4_conflictsThere_1 ?_
  refine J_iconst (v := 0) (by decide) dX4_conflictsThere_2 ?_
  refine J_istore_n [(2, .int 0), (1, .int 0), (0, .ref 32)] rfl (i := 2) (by decide) rfl dX4_conflictsThere_3 ?_
  exact J_sub [2, 1, 0] rfl hw
set_option maxRecDepth 20000 in
theorem bX4_conflictsThere_4 {G : Gx} {mm : Nat → Nat → Int32} {lm : Nat → Int64} {x1 : Int32} {x2 : Int32} {o : Ou} {z : Wd} {a b : Nat} (hw : (((mm 4 9) ≤ x2) → o = .inl (some (.int x1)) ∧ z = (SH, mm, lm)) ∧ ((¬ (mm 4 9) ≤ x2) → J G M_X4_conflictsThere 17 [(0, .ref 32), (1, .int x1), (2, .int x2), (3, .int 0)] [] (SH, mm, lm) false o z false a b)) :
    J G M_X4_conflictsThere 4 [(0, .ref 32), (1, .int x1), (2, .int x2)] [] (SH, mm, lm) false o z false a b := by
  refine J_iload_n rfl (i := 2) rfl dX4_conflictsThere_4 ?_
  refine J_aload_n rfl (i := 0) rfl dX4_conflictsThere_5 ?_
  refine J_getr kls_4 (q := 32) (k := 0) sh_32 (by decide) rfl gw_314 dX4_conflictsThere_6 ?_
  refine J_geti kls_7 (q := 4) (k := 9) sh_4 (by decide) rfl gw_207 dX4_conflictsThere_9 ?_
  refine J_icmp_ge (tgt := 91) dX4_conflictsThere_12 (by decide) (fun hb1 => ?_) (fun hb1 => ?_)
  · replace hw := hw.1 hb1
    refine J_iload_n rfl (i := 1) rfl dX4_conflictsThere_91 ?_
    exact J_fini (ty := .int) rfl rfl dX4_conflictsThere_92 hw
  · replace hw := hw.2 hb1
    refine J_iconst (v := 0) (by decide) dX4_conflictsThere_15 ?_
    refine J_istore_n [(3, .int 0), (0, .ref 32), (1, .int x1), (2, .int x2)] rfl (i := 3) (by decide) rfl dX4_conflictsThere_16 ?_
    exact J_sub [1, 2, 3, 0] rfl hw
set_option maxRecDepth 20000 in
theorem bX4_conflictsThere_17 {G : Gx} {mm : Nat → Nat → Int32} {lm : Nat → Int64} {x1 : Int32} {x2 : Int32} {x3 : Int32} {o : Ou} {z : Wd} {a b : Nat} (hw : ((x2 ≤ x3) → J G M_X4_conflictsThere 4 [(0, .ref 32), (1, .int x1), (2, .int (x2 + 1))] [] (SH, mm, lm) false o z false a b) ∧ ((¬ x2 ≤ x3) → ∃ j1 : Nat, x2 = nI j1 ∧ j1 < 8 ∧ ∃ j2 : Nat, x3 = nI j2 ∧ j2 < 8 ∧ ∃ j3 : Nat, x2 = nI j3 ∧ j3 < 8 ∧ (((mm 35 j3) = (-1)) → J G M_X4_conflictsThere 17 [(0, .ref 32), (1, .int x1), (2, .int x2), (3, .int (x3 + 1))] [] (SH, mm, lm) false o z false a b) ∧ ((¬ (mm 35 j3) = (-1)) → ∃ j4 : Nat, x2 = nI j4 ∧ j4 < 8 ∧ ∃ j5 : Nat, x3 = nI j5 ∧ j5 < 8 ∧ ((¬ (mm 35 j4) = (mm 35 j5)) → J G M_X4_conflictsThere 17 [(0, .ref 32), (1, .int x1), (2, .int x2), (3, .int (x3 + 1))] [] (SH, mm, lm) false o z false a b) ∧ (((mm 35 j4) = (mm 35 j5)) → ∃ (v7 : Int32), Ct G M_X7_keepsClear [.ref 4, .int x2, .int x3, .int ((mm 36 j1) - (mm 36 j2))] (SH, mm, lm) false (.inl (some (.int v7))) (SH, mm, lm) false 0 0 ∧ ((¬ v7 = 0) → J G M_X4_conflictsThere 17 [(0, .ref 32), (1, .int x1), (2, .int x2), (3, .int (x3 + 1))] [] (SH, mm, lm) false o z false a b) ∧ ((v7 = 0) → J G M_X4_conflictsThere 17 [(0, .ref 32), (1, .int (x1 + 1)), (2, .int x2), (3, .int (x3 + 1))] [] (SH, mm, lm) false o z false a b))))) :
    J G M_X4_conflictsThere 17 [(0, .ref 32), (1, .int x1), (2, .int x2), (3, .int x3)] [] (SH, mm, lm) false o z false a b := by
  refine J_iload_n rfl (i := 3) rfl dX4_conflictsThere_17 ?_
  refine J_iload_n rfl (i := 2) rfl dX4_conflictsThere_18 ?_
  refine J_icmp_ge (tgt := 85) dX4_conflictsThere_19 (by decide) (fun hb12 => ?_) (fun hb12 => ?_)
  · replace hw := hw.1 hb12
    refine J_iinc [(2, .int (x2 + 1)), (0, .ref 32), (1, .int x1), (3, .int x3)] (i := 2) (v := (x2 + 1)) rfl rfl (by decide) rfl dX4_conflictsThere_85 ?_
    refine J_goto (tgt := 4) dX4_conflictsThere_88 (by decide) ?_
    exact J_sub [1, 2, 0] rfl hw
  · replace hw := hw.2 hb12
    refine J_aload_n rfl (i := 0) rfl dX4_conflictsThere_22 ?_
    refine J_getr kls_4 (q := 32) (k := 5) sh_32 (by decide) rfl gw_319 dX4_conflictsThere_23 ?_
    refine J_iload_n rfl (i := 2) rfl dX4_conflictsThere_26 ?_
    obtain ⟨j1, ej1, hj1, hw⟩ := hw
    refine J_iald sh_36 ej1 hj1 (by decide) dX4_conflictsThere_27 ?_
    refine J_aload_n rfl (i := 0) rfl dX4_conflictsThere_28 ?_
    refine J_getr kls_4 (q := 32) (k := 5) sh_32 (by decide) rfl gw_319 dX4_conflictsThere_29 ?_
    refine J_iload_n rfl (i := 3) rfl dX4_conflictsThere_32 ?_
    obtain ⟨j2, ej2, hj2, hw⟩ := hw
    refine J_iald sh_36 ej2 hj2 (by decide) dX4_conflictsThere_33 ?_
    refine J_isub dX4_conflictsThere_34 ?_
    refine J_istore [(4, .int ((mm 36 j1) - (mm 36 j2))), (0, .ref 32), (1, .int x1), (2, .int x2), (3, .int x3)] (i := 4) (by decide) rfl dX4_conflictsThere_35 ?_
    refine J_aload_n rfl (i := 0) rfl dX4_conflictsThere_37 ?_
    refine J_getr kls_4 (q := 32) (k := 4) sh_32 (by decide) rfl gw_318 dX4_conflictsThere_38 ?_
    refine J_iload_n rfl (i := 2) rfl dX4_conflictsThere_41 ?_
    obtain ⟨j3, ej3, hj3, hw⟩ := hw
    refine J_iald sh_35 ej3 hj3 (by decide) dX4_conflictsThere_42 ?_
    refine J_iconst (v := (-1)) (by decide) dX4_conflictsThere_43 ?_
    refine J_icmp_eq (tgt := 79) dX4_conflictsThere_44 (by decide) (fun hb11 => ?_) (fun hb11 => ?_)
    · replace hw := hw.1 hb11
      refine J_iinc [(3, .int (x3 + 1)), (4, .int ((mm 36 j1) - (mm 36 j2))), (0, .ref 32), (1, .int x1), (2, .int x2)] (i := 3) (v := (x3 + 1)) rfl rfl (by decide) rfl dX4_conflictsThere_79 ?_
      refine J_goto (tgt := 17) dX4_conflictsThere_82 (by decide) ?_
      exact J_sub [2, 3, 4, 0] rfl hw
    · replace hw := hw.2 hb11
      refine J_aload_n rfl (i := 0) rfl dX4_conflictsThere_47 ?_
      refine J_getr kls_4 (q := 32) (k := 4) sh_32 (by decide) rfl gw_318 dX4_conflictsThere_48 ?_
      refine J_iload_n rfl (i := 2) rfl dX4_conflictsThere_51 ?_
      obtain ⟨j4, ej4, hj4, hw⟩ := hw
      refine J_iald sh_35 ej4 hj4 (by decide) dX4_conflictsThere_52 ?_
      refine J_aload_n rfl (i := 0) rfl dX4_conflictsThere_53 ?_
      refine J_getr kls_4 (q := 32) (k := 4) sh_32 (by decide) rfl gw_318 dX4_conflictsThere_54 ?_
      refine J_iload_n rfl (i := 3) rfl dX4_conflictsThere_57 ?_
      obtain ⟨j5, ej5, hj5, hw⟩ := hw
      refine J_iald sh_35 ej5 hj5 (by decide) dX4_conflictsThere_58 ?_
      refine J_icmp_ne (tgt := 79) dX4_conflictsThere_59 (by decide) (fun hb10 => ?_) (fun hb10 => ?_)
      · replace hw := hw.1 hb10
        refine J_iinc [(3, .int (x3 + 1)), (4, .int ((mm 36 j1) - (mm 36 j2))), (0, .ref 32), (1, .int x1), (2, .int x2)] (i := 3) (v := (x3 + 1)) rfl rfl (by decide) rfl dX4_conflictsThere_79 ?_
        refine J_goto (tgt := 17) dX4_conflictsThere_82 (by decide) ?_
        exact J_sub [2, 3, 4, 0] rfl hw
      · replace hw := hw.2 hb10
        refine J_aload_n rfl (i := 0) rfl dX4_conflictsThere_62 ?_
        refine J_getr kls_4 (q := 32) (k := 0) sh_32 (by decide) rfl gw_314 dX4_conflictsThere_63 ?_
        refine J_iload_n rfl (i := 2) rfl dX4_conflictsThere_66 ?_
        refine J_iload_n rfl (i := 3) rfl dX4_conflictsThere_67 ?_
        refine J_iload (i := 4) rfl dX4_conflictsThere_68 ?_
        obtain ⟨v7, hc6, hw⟩ := hw
        refine J_callV (as := [.int x2, .int x3, .int ((mm 36 j1) - (mm 36 j2))]) (k := 4) (st := []) cal_X7_keepsClear cai_X7_keepsClear gw_999 ⟨by decide, by decide⟩ cnt_X7_keepsClear sh_4 rfl rfl (Nat.le_of_ble_eq_true rfl) dX4_conflictsThere_70 (Nat.zero_add _).symm (Nat.zero_add _).symm hc6 ?_
        refine J_if_ne (tgt := 79) dX4_conflictsThere_73 (by decide) (fun hb9 => ?_) (fun hb9 => ?_)
        · replace hw := hw.1 hb9
          refine J_iinc [(3, .int (x3 + 1)), (4, .int ((mm 36 j1) - (mm 36 j2))), (0, .ref 32), (1, .int x1), (2, .int x2)] (i := 3) (v := (x3 + 1)) rfl rfl (by decide) rfl dX4_conflictsThere_79 ?_
          refine J_goto (tgt := 17) dX4_conflictsThere_82 (by decide) ?_
          exact J_sub [2, 3, 4, 0] rfl hw
        · replace hw := hw.2 hb9
          refine J_iinc [(1, .int (x1 + 1)), (4, .int ((mm 36 j1) - (mm 36 j2))), (0, .ref 32), (2, .int x2), (3, .int x3)] (i := 1) (v := (x1 + 1)) rfl rfl (by decide) rfl dX4_conflictsThere_76 ?_
          refine J_iinc [(3, .int (x3 + 1)), (1, .int (x1 + 1)), (4, .int ((mm 36 j1) - (mm 36 j2))), (0, .ref 32), (2, .int x2)] (i := 3) (v := (x3 + 1)) rfl rfl (by decide) rfl dX4_conflictsThere_79 ?_
          refine J_goto (tgt := 17) dX4_conflictsThere_82 (by decide) ?_
          exact J_sub [3, 1, 4, 0] rfl hw
theorem dX4_stateIn_0 : decode cX4_stateIn 0 = .ok (.iload_n 0, 1) := by decide +kernel
theorem dX4_stateIn_1 : decode cX4_stateIn 1 = .ok (.getstatic 85, 3) := by decide +kernel
theorem dX4_stateIn_4 : decode cX4_stateIn 4 = .ok (.iload_n 1, 1) := by decide +kernel
theorem dX4_stateIn_5 : decode cX4_stateIn 5 = .ok (.iaload, 1) := by decide +kernel
theorem dX4_stateIn_6 : decode cX4_stateIn 6 = .ok (.idiv, 1) := by decide +kernel
theorem dX4_stateIn_7 : decode cX4_stateIn 7 = .ok (.iconst 3, 1) := by decide +kernel
theorem dX4_stateIn_8 : decode cX4_stateIn 8 = .ok (.irem, 1) := by decide +kernel
theorem dX4_stateIn_9 : decode cX4_stateIn 9 = .ok (.ireturn, 1) := by decide +kernel
set_option maxRecDepth 20000 in
theorem bX4_stateIn_0 {G : Gx} {mm : Nat → Nat → Int32} {lm : Nat → Int64} {x0 : Int32} {x1 : Int32} {o : Ou} {z : Wd} {a b : Nat} (hw : ∃ j1 : Nat, x1 = nI j1 ∧ j1 < 9 ∧ ¬ (tl_1001.getD j1 0) = 0 ∧ o = .inl (some (.int ((x0 / (tl_1001.getD j1 0)) - (x0 / (tl_1001.getD j1 0)) / 3 * 3))) ∧ z = (SH, mm, lm)) :
    J G M_X4_stateIn 0 [(0, .int x0), (1, .int x1)] [] (SH, mm, lm) false o z false a b := by
  refine J_iload_n rfl (i := 0) rfl dX4_stateIn_0 ?_
  refine J_gets tb_1001 gw_982 dX4_stateIn_1 ?_
  refine J_iload_n rfl (i := 1) rfl dX4_stateIn_4 ?_
  obtain ⟨j1, ej1, hj1, hw⟩ := hw
  refine J_tab tb_1001 ej1 hj1 (by decide) dX4_stateIn_5 ?_
  obtain ⟨hz2, hw⟩ := hw
  refine J_idiv hz2 dX4_stateIn_6 ?_
  refine J_iconst (v := 3) (by decide) dX4_stateIn_7 ?_
  refine J_irem (by decide) dX4_stateIn_8 ?_
  exact J_fini (ty := .int) rfl rfl dX4_stateIn_9 hw
theorem dX4_beamIn_0 : decode cX4_beamIn 0 = .ok (.iload_n 0, 1) := by decide +kernel
theorem dX4_beamIn_1 : decode cX4_beamIn 1 = .ok (.lookupswitch 37 #[(1, 27), (2, 32)], 27) := by decide +kernel
theorem dX4_beamIn_28 : decode cX4_beamIn 28 = .ok (.aload_n 1, 1) := by decide +kernel
theorem dX4_beamIn_29 : decode cX4_beamIn 29 = .ok (.getfield 123, 3) := by decide +kernel
theorem dX4_beamIn_32 : decode cX4_beamIn 32 = .ok (.ireturn, 1) := by decide +kernel
theorem dX4_beamIn_33 : decode cX4_beamIn 33 = .ok (.aload_n 1, 1) := by decide +kernel
theorem dX4_beamIn_34 : decode cX4_beamIn 34 = .ok (.getfield 126, 3) := by decide +kernel
theorem dX4_beamIn_37 : decode cX4_beamIn 37 = .ok (.ireturn, 1) := by decide +kernel
theorem dX4_beamIn_38 : decode cX4_beamIn 38 = .ok (.iconst (-1), 1) := by decide +kernel
theorem dX4_beamIn_39 : decode cX4_beamIn 39 = .ok (.ireturn, 1) := by decide +kernel
set_option maxRecDepth 20000 in
theorem bX4_beamIn_0 {G : Gx} {mm : Nat → Nat → Int32} {lm : Nat → Int64} {x0 : Int32} {r : Nat} (hq_r : SH[r]? = some (.inl (0, bsl))) {o : Ou} {z : Wd} {a b : Nat} (hw : (x0 = 1 → o = .inl (some (.int (mm r 0))) ∧ z = (SH, mm, lm)) ∧ (x0 = 2 → o = .inl (some (.int (mm r 2))) ∧ z = (SH, mm, lm)) ∧ (¬ x0 = 1 → ¬ x0 = 2 → o = .inl (some (.int (-1))) ∧ z = (SH, mm, lm))) :
    J G M_X4_beamIn 0 [(0, .int x0), (1, .ref r)] [] (SH, mm, lm) false o z false a b := by
  refine J_iload_n rfl (i := 0) rfl dX4_beamIn_0 ?_
  refine J_look2 (t1 := 28) (t2 := 33) (t3 := 38) dX4_beamIn_1 rfl (by decide) (by decide) (by decide) (fun hb1 => ?_) (fun hb1 => ?_) (fun hb1 hb1b => ?_)
  · replace hw := hw.1 hb1
    refine J_aload_n rfl (i := 1) rfl dX4_beamIn_28 ?_
    refine J_geti kls_0 (q := r) (k := 0) hq_r (by decide) rfl gw_253 dX4_beamIn_29 ?_
    exact J_fini (ty := .int) rfl rfl dX4_beamIn_32 hw
  · replace hw := hw.2.1 hb1
    refine J_aload_n rfl (i := 1) rfl dX4_beamIn_33 ?_
    refine J_geti kls_0 (q := r) (k := 2) hq_r (by decide) rfl gw_262 dX4_beamIn_34 ?_
    exact J_fini (ty := .int) rfl rfl dX4_beamIn_37 hw
  · replace hw := hw.2.2 hb1 hb1b
    refine J_iconst (v := (-1)) (by decide) dX4_beamIn_38 ?_
    exact J_fini (ty := .int) rfl rfl dX4_beamIn_39 hw
